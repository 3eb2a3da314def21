/-! The reference: Model.<init>, a MODEL begun -/
/-- PathProverModel$Model.<init>()V -/
abbrev mu_m516 : ev_M := (1, none, [], ev_b516)
theorem mu_g516 : mu_good mu_m516 := mu_goodk ev_k516
def mxf (j : Nat) : Nat := [0, 3, 4, 7, 8, 10, 11, 13, 14].getD j 0
def mxk (j : Nat) : Nat := [110, 110, 109, 109, 110, 109, 110, 109, 110].getD j 0
def mxl (j : Nat) : Nat := [201, 64, 64, 64, 64, 16, 16, 16, 16].getD j 0
theorem mxf_ne : ∀ i, i < 9 → ∀ j, j < 9 → mxf i = mxf j → i = j := by decide
/-- the first i rows of a Model are made -/
def mdx (H : mu_H) (z i sl : Nat) (K : mu_H) : Prop := kep (fun p => p = z) i sl H K ∧ mu_z K = mu_z H + i ∧ mu_is K (some z) 16 ∧ (∀ k, mu_i K z k = mu_i H z k) ∧ ∀ j, j < i → mu_r K z (mxf j) = some (mu_z H + j) ∧ mu_is K (some (mu_z H + j)) (mxk j) ∧ mu_n K (mu_z H + j) = mxl j
theorem mdx.step {H K : mu_H} {z i sl : Nat} (h : mdx H z i sl K) (hi : i < 9) (hz : mu_z H + i < 1000000) (hzz : z < mu_z H) : mdx H z (i + 1) (sl + mxl i) (mu_sr (mu_nw K (mxk i) (mxl i) (mxl i)) z (mxf i) (some (mu_z K))) := by
  obtain ⟨h1, h2, h3, h4, h5⟩ := h
  have nz : ¬ z = mu_z K := by omega
  refine ⟨(h1.nw (by omega)).sr (Or.inl rfl), by show mu_z K + 1 = _; omega, mu_is_nw (k := mxk i) (len := mxl i) (sl := mxl i) h3, fun k => ?_, fun j hj => ?_⟩
  · show mu_i (mu_nw K (mxk i) (mxl i) (mxl i)) z k = _
    rw [mu_i_nw, if_neg nz]; exact h4 k
  · by_cases e : j = i
    · subst e
      refine ⟨by rw [mu_r_sr, if_pos ⟨rfl, rfl⟩, h2], by rw [← h2]; exact mu_is_new K (mxk j) (mxl j) (mxl j), ?_⟩
      show mu_n (mu_nw K (mxk j) (mxl j) (mxl j)) (mu_z H + j) = _
      rw [← h2, mu_n_nw, if_pos rfl]
    · obtain ⟨g1, g2, g3⟩ := h5 j (by omega)
      refine ⟨?_, mu_is_nw (k := mxk i) (len := mxl i) (sl := mxl i) g2, ?_⟩
      · rw [mu_r_sr, if_neg (fun w => e (mxf_ne j (by omega) i hi w.2)), mu_r_nw, if_neg nz]; exact g1
      · show mu_n (mu_nw K (mxk i) (mxl i) (mxl i)) (mu_z H + j) = _
        rw [mu_n_nw, if_neg (by omega)]; exact g3
theorem rp_model0 {d z : Nat} {H : mu_H} (hz16 : mu_is H (some z) 16) (hzH : mu_z H + 9 ≤ 1000000) : mu_TV (mu_D (d + 1)) 516 [.inr (.inr (some z))] H (fun H1 => mdx H z 9 521 H1) := by
  have hzz : z < mu_z H := hz16.2.1
  refine mu_meth (M := mu_m516) rfl rfl ?_
  refine mw_ht (mu_fn_of (show [0].Nodup by decide)) ?_
  have x0 : mdx H z 0 0 H := ⟨kep.rf, rfl, hz16, fun _ => rfl, fun j hj => absurd hj (Nat.not_lt_zero _)⟩
  refine mw_go mu_g516 (k := 1) (f1 := (1, [(0, .inr (.inr (some z)))], [.inr (.inr (some z))], H)) (C := []) rfl trivial ?_
  refine mw_obj rfl ⟨rfl, hz16.2.1⟩ (by decide) ?_
  show mu_W _ mu_m516 (4, [(0, .inr (.inr (some z)))], [], H) _
  refine mw_go mu_g516 (k := 2) (f1 := (8, [(0, .inr (.inr (some z)))], [.inl (201 : Int32), .inr (.inr (some z))], H)) (C := []) rfl trivial ?_
  refine mw_go mu_g516 (k := 1) (f1 := (11, [(0, .inr (.inr (some z)))], [.inr (.inr (some (mu_z H))), .inr (.inr (some z))], (mu_nw H 110 (201 : Int32).toNatClampNeg (201 : Int32).toNatClampNeg))) (C := [¬ (201 : Int32) < 0, (201 : Int32).toNatClampNeg * ev_bytes 10 ≤ 536870912, mu_z H + 1 ≤ 1000000]) rfl (show (¬ (201 : Int32) < 0) ∧ ((201 : Int32).toNatClampNeg * ev_bytes 10 ≤ 536870912) ∧ (mu_z H + 1 ≤ 1000000) from ⟨(by decide), (by decide), (by have := x0.2.1; omega)⟩) ?_
  refine mw_fr (f' := (11, [(0, .inr (.inr (some z)))], [.inr (.inr (some (mu_z H))), .inr (.inr (some z))], (mu_nw H 110 201 201))) (by first | (rw [(show (201 : Int32).toNatClampNeg = 201 from rfl)]; done) | (rw [(show (201 : Int32).toNatClampNeg = 201 from rfl)]; rfl)) ?_
  have g0 : mu_is (mu_nw H 110 201 201) (some z) 16 := mu_is_nw x0.2.2.1
  refine mw_go mu_g516 (k := 1) (f1 := (14, [(0, .inr (.inr (some z)))], [], (mu_sr (mu_nw H 110 201 201) z 0 (some (mu_z H))))) (C := [mu_is (mu_nw H 110 201 201) (some z) 16]) rfl (show mu_is (mu_nw H 110 201 201) (some z) 16 from g0) ?_
  have x1 : mdx H z 1 (0+201) (mu_sr (mu_nw H 110 201 201) z 0 (some (mu_z H))) := x0.step (by decide) (by omega) hzz
  obtain ⟨K0, e0⟩ : ∃ K, K = (mu_sr (mu_nw H 110 201 201) z 0 (some (mu_z H))) := ⟨_, rfl⟩
  rw [← e0] at x1 ⊢
  clear e0 g0
  refine mw_go mu_g516 (k := 2) (f1 := (17, [(0, .inr (.inr (some z)))], [.inl (64 : Int32), .inr (.inr (some z))], K0)) (C := []) rfl trivial ?_
  refine mw_go mu_g516 (k := 1) (f1 := (20, [(0, .inr (.inr (some z)))], [.inr (.inr (some (mu_z K0))), .inr (.inr (some z))], (mu_nw K0 110 (64 : Int32).toNatClampNeg (64 : Int32).toNatClampNeg))) (C := [¬ (64 : Int32) < 0, (64 : Int32).toNatClampNeg * ev_bytes 10 ≤ 536870912, mu_z K0 + 1 ≤ 1000000]) rfl (show (¬ (64 : Int32) < 0) ∧ ((64 : Int32).toNatClampNeg * ev_bytes 10 ≤ 536870912) ∧ (mu_z K0 + 1 ≤ 1000000) from ⟨(by decide), (by decide), (by have := x1.2.1; omega)⟩) ?_
  refine mw_fr (f' := (20, [(0, .inr (.inr (some z)))], [.inr (.inr (some (mu_z K0))), .inr (.inr (some z))], (mu_nw K0 110 64 64))) (by first | (rw [(show (64 : Int32).toNatClampNeg = 64 from rfl)]; done) | (rw [(show (64 : Int32).toNatClampNeg = 64 from rfl)]; rfl)) ?_
  have g1 : mu_is (mu_nw K0 110 64 64) (some z) 16 := mu_is_nw x1.2.2.1
  refine mw_go mu_g516 (k := 1) (f1 := (23, [(0, .inr (.inr (some z)))], [], (mu_sr (mu_nw K0 110 64 64) z 3 (some (mu_z K0))))) (C := [mu_is (mu_nw K0 110 64 64) (some z) 16]) rfl (show mu_is (mu_nw K0 110 64 64) (some z) 16 from g1) ?_
  have x2 : mdx H z 2 (0+201+64) (mu_sr (mu_nw K0 110 64 64) z 3 (some (mu_z K0))) := x1.step (by decide) (by omega) hzz
  obtain ⟨K1, e1⟩ : ∃ K, K = (mu_sr (mu_nw K0 110 64 64) z 3 (some (mu_z K0))) := ⟨_, rfl⟩
  rw [← e1] at x2 ⊢
  clear e1 g1
  refine mw_go mu_g516 (k := 2) (f1 := (26, [(0, .inr (.inr (some z)))], [.inl (64 : Int32), .inr (.inr (some z))], K1)) (C := []) rfl trivial ?_
  refine mw_go mu_g516 (k := 1) (f1 := (29, [(0, .inr (.inr (some z)))], [.inr (.inr (some (mu_z K1))), .inr (.inr (some z))], (mu_nw K1 109 (64 : Int32).toNatClampNeg (64 : Int32).toNatClampNeg))) (C := [¬ (64 : Int32) < 0, (64 : Int32).toNatClampNeg * ev_bytes 9 ≤ 536870912, mu_z K1 + 1 ≤ 1000000]) rfl (show (¬ (64 : Int32) < 0) ∧ ((64 : Int32).toNatClampNeg * ev_bytes 9 ≤ 536870912) ∧ (mu_z K1 + 1 ≤ 1000000) from ⟨(by decide), (by decide), (by have := x2.2.1; omega)⟩) ?_
  refine mw_fr (f' := (29, [(0, .inr (.inr (some z)))], [.inr (.inr (some (mu_z K1))), .inr (.inr (some z))], (mu_nw K1 109 64 64))) (by first | (rw [(show (64 : Int32).toNatClampNeg = 64 from rfl)]; done) | (rw [(show (64 : Int32).toNatClampNeg = 64 from rfl)]; rfl)) ?_
  have g2 : mu_is (mu_nw K1 109 64 64) (some z) 16 := mu_is_nw x2.2.2.1
  refine mw_go mu_g516 (k := 1) (f1 := (32, [(0, .inr (.inr (some z)))], [], (mu_sr (mu_nw K1 109 64 64) z 4 (some (mu_z K1))))) (C := [mu_is (mu_nw K1 109 64 64) (some z) 16]) rfl (show mu_is (mu_nw K1 109 64 64) (some z) 16 from g2) ?_
  have x3 : mdx H z 3 (0+201+64+64) (mu_sr (mu_nw K1 109 64 64) z 4 (some (mu_z K1))) := x2.step (by decide) (by omega) hzz
  obtain ⟨K2, e2⟩ : ∃ K, K = (mu_sr (mu_nw K1 109 64 64) z 4 (some (mu_z K1))) := ⟨_, rfl⟩
  rw [← e2] at x3 ⊢
  clear e2 g2
  refine mw_go mu_g516 (k := 2) (f1 := (35, [(0, .inr (.inr (some z)))], [.inl (64 : Int32), .inr (.inr (some z))], K2)) (C := []) rfl trivial ?_
  refine mw_go mu_g516 (k := 1) (f1 := (38, [(0, .inr (.inr (some z)))], [.inr (.inr (some (mu_z K2))), .inr (.inr (some z))], (mu_nw K2 109 (64 : Int32).toNatClampNeg (64 : Int32).toNatClampNeg))) (C := [¬ (64 : Int32) < 0, (64 : Int32).toNatClampNeg * ev_bytes 9 ≤ 536870912, mu_z K2 + 1 ≤ 1000000]) rfl (show (¬ (64 : Int32) < 0) ∧ ((64 : Int32).toNatClampNeg * ev_bytes 9 ≤ 536870912) ∧ (mu_z K2 + 1 ≤ 1000000) from ⟨(by decide), (by decide), (by have := x3.2.1; omega)⟩) ?_
  refine mw_fr (f' := (38, [(0, .inr (.inr (some z)))], [.inr (.inr (some (mu_z K2))), .inr (.inr (some z))], (mu_nw K2 109 64 64))) (by first | (rw [(show (64 : Int32).toNatClampNeg = 64 from rfl)]; done) | (rw [(show (64 : Int32).toNatClampNeg = 64 from rfl)]; rfl)) ?_
  have g3 : mu_is (mu_nw K2 109 64 64) (some z) 16 := mu_is_nw x3.2.2.1
  refine mw_go mu_g516 (k := 1) (f1 := (41, [(0, .inr (.inr (some z)))], [], (mu_sr (mu_nw K2 109 64 64) z 7 (some (mu_z K2))))) (C := [mu_is (mu_nw K2 109 64 64) (some z) 16]) rfl (show mu_is (mu_nw K2 109 64 64) (some z) 16 from g3) ?_
  have x4 : mdx H z 4 (0+201+64+64+64) (mu_sr (mu_nw K2 109 64 64) z 7 (some (mu_z K2))) := x3.step (by decide) (by omega) hzz
  obtain ⟨K3, e3⟩ : ∃ K, K = (mu_sr (mu_nw K2 109 64 64) z 7 (some (mu_z K2))) := ⟨_, rfl⟩
  rw [← e3] at x4 ⊢
  clear e3 g3
  refine mw_go mu_g516 (k := 2) (f1 := (44, [(0, .inr (.inr (some z)))], [.inl (64 : Int32), .inr (.inr (some z))], K3)) (C := []) rfl trivial ?_
  refine mw_go mu_g516 (k := 1) (f1 := (47, [(0, .inr (.inr (some z)))], [.inr (.inr (some (mu_z K3))), .inr (.inr (some z))], (mu_nw K3 110 (64 : Int32).toNatClampNeg (64 : Int32).toNatClampNeg))) (C := [¬ (64 : Int32) < 0, (64 : Int32).toNatClampNeg * ev_bytes 10 ≤ 536870912, mu_z K3 + 1 ≤ 1000000]) rfl (show (¬ (64 : Int32) < 0) ∧ ((64 : Int32).toNatClampNeg * ev_bytes 10 ≤ 536870912) ∧ (mu_z K3 + 1 ≤ 1000000) from ⟨(by decide), (by decide), (by have := x4.2.1; omega)⟩) ?_
  refine mw_fr (f' := (47, [(0, .inr (.inr (some z)))], [.inr (.inr (some (mu_z K3))), .inr (.inr (some z))], (mu_nw K3 110 64 64))) (by first | (rw [(show (64 : Int32).toNatClampNeg = 64 from rfl)]; done) | (rw [(show (64 : Int32).toNatClampNeg = 64 from rfl)]; rfl)) ?_
  have g4 : mu_is (mu_nw K3 110 64 64) (some z) 16 := mu_is_nw x4.2.2.1
  refine mw_go mu_g516 (k := 1) (f1 := (50, [(0, .inr (.inr (some z)))], [], (mu_sr (mu_nw K3 110 64 64) z 8 (some (mu_z K3))))) (C := [mu_is (mu_nw K3 110 64 64) (some z) 16]) rfl (show mu_is (mu_nw K3 110 64 64) (some z) 16 from g4) ?_
  have x5 : mdx H z 5 (0+201+64+64+64+64) (mu_sr (mu_nw K3 110 64 64) z 8 (some (mu_z K3))) := x4.step (by decide) (by omega) hzz
  obtain ⟨K4, e4⟩ : ∃ K, K = (mu_sr (mu_nw K3 110 64 64) z 8 (some (mu_z K3))) := ⟨_, rfl⟩
  rw [← e4] at x5 ⊢
  clear e4 g4
  refine mw_go mu_g516 (k := 2) (f1 := (53, [(0, .inr (.inr (some z)))], [.inl (16 : Int32), .inr (.inr (some z))], K4)) (C := []) rfl trivial ?_
  refine mw_go mu_g516 (k := 1) (f1 := (56, [(0, .inr (.inr (some z)))], [.inr (.inr (some (mu_z K4))), .inr (.inr (some z))], (mu_nw K4 109 (16 : Int32).toNatClampNeg (16 : Int32).toNatClampNeg))) (C := [¬ (16 : Int32) < 0, (16 : Int32).toNatClampNeg * ev_bytes 9 ≤ 536870912, mu_z K4 + 1 ≤ 1000000]) rfl (show (¬ (16 : Int32) < 0) ∧ ((16 : Int32).toNatClampNeg * ev_bytes 9 ≤ 536870912) ∧ (mu_z K4 + 1 ≤ 1000000) from ⟨(by decide), (by decide), (by have := x5.2.1; omega)⟩) ?_
  refine mw_fr (f' := (56, [(0, .inr (.inr (some z)))], [.inr (.inr (some (mu_z K4))), .inr (.inr (some z))], (mu_nw K4 109 16 16))) (by first | (rw [(show (16 : Int32).toNatClampNeg = 16 from rfl)]; done) | (rw [(show (16 : Int32).toNatClampNeg = 16 from rfl)]; rfl)) ?_
  have g5 : mu_is (mu_nw K4 109 16 16) (some z) 16 := mu_is_nw x5.2.2.1
  refine mw_go mu_g516 (k := 1) (f1 := (59, [(0, .inr (.inr (some z)))], [], (mu_sr (mu_nw K4 109 16 16) z 10 (some (mu_z K4))))) (C := [mu_is (mu_nw K4 109 16 16) (some z) 16]) rfl (show mu_is (mu_nw K4 109 16 16) (some z) 16 from g5) ?_
  have x6 : mdx H z 6 (0+201+64+64+64+64+16) (mu_sr (mu_nw K4 109 16 16) z 10 (some (mu_z K4))) := x5.step (by decide) (by omega) hzz
  obtain ⟨K5, e5⟩ : ∃ K, K = (mu_sr (mu_nw K4 109 16 16) z 10 (some (mu_z K4))) := ⟨_, rfl⟩
  rw [← e5] at x6 ⊢
  clear e5 g5
  refine mw_go mu_g516 (k := 2) (f1 := (62, [(0, .inr (.inr (some z)))], [.inl (16 : Int32), .inr (.inr (some z))], K5)) (C := []) rfl trivial ?_
  refine mw_go mu_g516 (k := 1) (f1 := (65, [(0, .inr (.inr (some z)))], [.inr (.inr (some (mu_z K5))), .inr (.inr (some z))], (mu_nw K5 110 (16 : Int32).toNatClampNeg (16 : Int32).toNatClampNeg))) (C := [¬ (16 : Int32) < 0, (16 : Int32).toNatClampNeg * ev_bytes 10 ≤ 536870912, mu_z K5 + 1 ≤ 1000000]) rfl (show (¬ (16 : Int32) < 0) ∧ ((16 : Int32).toNatClampNeg * ev_bytes 10 ≤ 536870912) ∧ (mu_z K5 + 1 ≤ 1000000) from ⟨(by decide), (by decide), (by have := x6.2.1; omega)⟩) ?_
  refine mw_fr (f' := (65, [(0, .inr (.inr (some z)))], [.inr (.inr (some (mu_z K5))), .inr (.inr (some z))], (mu_nw K5 110 16 16))) (by first | (rw [(show (16 : Int32).toNatClampNeg = 16 from rfl)]; done) | (rw [(show (16 : Int32).toNatClampNeg = 16 from rfl)]; rfl)) ?_
  have g6 : mu_is (mu_nw K5 110 16 16) (some z) 16 := mu_is_nw x6.2.2.1
  refine mw_go mu_g516 (k := 1) (f1 := (68, [(0, .inr (.inr (some z)))], [], (mu_sr (mu_nw K5 110 16 16) z 11 (some (mu_z K5))))) (C := [mu_is (mu_nw K5 110 16 16) (some z) 16]) rfl (show mu_is (mu_nw K5 110 16 16) (some z) 16 from g6) ?_
  have x7 : mdx H z 7 (0+201+64+64+64+64+16+16) (mu_sr (mu_nw K5 110 16 16) z 11 (some (mu_z K5))) := x6.step (by decide) (by omega) hzz
  obtain ⟨K6, e6⟩ : ∃ K, K = (mu_sr (mu_nw K5 110 16 16) z 11 (some (mu_z K5))) := ⟨_, rfl⟩
  rw [← e6] at x7 ⊢
  clear e6 g6
  refine mw_go mu_g516 (k := 2) (f1 := (71, [(0, .inr (.inr (some z)))], [.inl (16 : Int32), .inr (.inr (some z))], K6)) (C := []) rfl trivial ?_
  refine mw_go mu_g516 (k := 1) (f1 := (74, [(0, .inr (.inr (some z)))], [.inr (.inr (some (mu_z K6))), .inr (.inr (some z))], (mu_nw K6 109 (16 : Int32).toNatClampNeg (16 : Int32).toNatClampNeg))) (C := [¬ (16 : Int32) < 0, (16 : Int32).toNatClampNeg * ev_bytes 9 ≤ 536870912, mu_z K6 + 1 ≤ 1000000]) rfl (show (¬ (16 : Int32) < 0) ∧ ((16 : Int32).toNatClampNeg * ev_bytes 9 ≤ 536870912) ∧ (mu_z K6 + 1 ≤ 1000000) from ⟨(by decide), (by decide), (by have := x7.2.1; omega)⟩) ?_
  refine mw_fr (f' := (74, [(0, .inr (.inr (some z)))], [.inr (.inr (some (mu_z K6))), .inr (.inr (some z))], (mu_nw K6 109 16 16))) (by first | (rw [(show (16 : Int32).toNatClampNeg = 16 from rfl)]; done) | (rw [(show (16 : Int32).toNatClampNeg = 16 from rfl)]; rfl)) ?_
  have g7 : mu_is (mu_nw K6 109 16 16) (some z) 16 := mu_is_nw x7.2.2.1
  refine mw_go mu_g516 (k := 1) (f1 := (77, [(0, .inr (.inr (some z)))], [], (mu_sr (mu_nw K6 109 16 16) z 13 (some (mu_z K6))))) (C := [mu_is (mu_nw K6 109 16 16) (some z) 16]) rfl (show mu_is (mu_nw K6 109 16 16) (some z) 16 from g7) ?_
  have x8 : mdx H z 8 (0+201+64+64+64+64+16+16+16) (mu_sr (mu_nw K6 109 16 16) z 13 (some (mu_z K6))) := x7.step (by decide) (by omega) hzz
  obtain ⟨K7, e7⟩ : ∃ K, K = (mu_sr (mu_nw K6 109 16 16) z 13 (some (mu_z K6))) := ⟨_, rfl⟩
  rw [← e7] at x8 ⊢
  clear e7 g7
  refine mw_go mu_g516 (k := 2) (f1 := (80, [(0, .inr (.inr (some z)))], [.inl (16 : Int32), .inr (.inr (some z))], K7)) (C := []) rfl trivial ?_
  refine mw_go mu_g516 (k := 1) (f1 := (83, [(0, .inr (.inr (some z)))], [.inr (.inr (some (mu_z K7))), .inr (.inr (some z))], (mu_nw K7 110 (16 : Int32).toNatClampNeg (16 : Int32).toNatClampNeg))) (C := [¬ (16 : Int32) < 0, (16 : Int32).toNatClampNeg * ev_bytes 10 ≤ 536870912, mu_z K7 + 1 ≤ 1000000]) rfl (show (¬ (16 : Int32) < 0) ∧ ((16 : Int32).toNatClampNeg * ev_bytes 10 ≤ 536870912) ∧ (mu_z K7 + 1 ≤ 1000000) from ⟨(by decide), (by decide), (by have := x8.2.1; omega)⟩) ?_
  refine mw_fr (f' := (83, [(0, .inr (.inr (some z)))], [.inr (.inr (some (mu_z K7))), .inr (.inr (some z))], (mu_nw K7 110 16 16))) (by first | (rw [(show (16 : Int32).toNatClampNeg = 16 from rfl)]; done) | (rw [(show (16 : Int32).toNatClampNeg = 16 from rfl)]; rfl)) ?_
  have g8 : mu_is (mu_nw K7 110 16 16) (some z) 16 := mu_is_nw x8.2.2.1
  refine mw_go mu_g516 (k := 1) (f1 := (86, [(0, .inr (.inr (some z)))], [], (mu_sr (mu_nw K7 110 16 16) z 14 (some (mu_z K7))))) (C := [mu_is (mu_nw K7 110 16 16) (some z) 16]) rfl (show mu_is (mu_nw K7 110 16 16) (some z) 16 from g8) ?_
  have x9 : mdx H z 9 (0+201+64+64+64+64+16+16+16+16) (mu_sr (mu_nw K7 110 16 16) z 14 (some (mu_z K7))) := x8.step (by decide) (by omega) hzz
  obtain ⟨K8, e8⟩ : ∃ K, K = (mu_sr (mu_nw K7 110 16 16) z 14 (some (mu_z K7))) := ⟨_, rfl⟩
  rw [← e8] at x9 ⊢
  clear e8 g8
  exact mw_of (fun _ => mu_ret rfl trivial ⟨_, rfl, x9⟩)
/-- where the rows of a MODEL lie at first -/
def lc0 (Z a : Nat) : Nat := Z + [0, 3, 4, 2, 1, 5, 6, 7, 8].getD a 0
theorem lc0_inj {Z : Nat} : ∀ a, a < 9 → ∀ b, b < 9 → lc0 Z a = lc0 Z b → a = b := by
  intro a ha b hb e
  unfold lc0 at e
  have e2 : [0, 3, 4, 2, 1, 5, 6, 7, 8].getD a 0 = [0, 3, 4, 2, 1, 5, 6, 7, 8].getD b 0 := Nat.add_left_cancel e
  exact (show ∀ a, a < 9 → ∀ b, b < 9 → [0, 3, 4, 2, 1, 5, 6, 7, 8].getD a 0 = [0, 3, 4, 2, 1, 5, 6, 7, 8].getD b 0 → a = b by decide) a ha b hb e2
theorem lc0_lt {Z : Nat} : ∀ a, a < 9 → Z ≤ lc0 Z a ∧ lc0 Z a < Z + 9 := by
  intro a ha
  have := (show ∀ a, a < 9 → [0, 3, 4, 2, 1, 5, 6, 7, 8].getD a 0 < 9 by decide) a ha
  unfold lc0
  omega
/-- a MODEL begun -/
theorem ims_0 {T : Nat → Int32} {n0 dep lv r cap z sl : Nat} {t : Tok} {F : Nat → Prop} {ms : List Mdl} {sy : List (List Int32)} {Hg H K : mu_H} {Iv : Nat → Ins} (hg : gnw T n0 t dep F lv r ms cap sy Hg) (hz : z = mu_z Hg ∧ mu_z H = z + 1 ∧ z + 10 ≤ 1000000) (hkH : kep (fun _ => False) 1 16 Hg H) (h1 : ∀ k, mu_i H z k = 0) (hx : mdx H z 9 sl K) : ims (mu_sr K 169 18 (some z)) F lv r ms z (lc0 (z + 1)) 0 Iv (fun _ => []) 0 := by
  obtain ⟨x1, x2, x3, x4, x5⟩ := hx
  obtain ⟨z1, z2, z3⟩ := hz
  have g200 : 200 < mu_z Hg := hg.1.1.1
  have hF : ∀ p, F p → p < mu_z Hg := fun p y => (hg.1.fz p y).2.1.1
  have hrz : r < mu_z Hg := hg.2.1.2.1.2.1
  have n9 : ¬ 169 = z := by omega
  have e9 : ∀ y, y ≠ 18 → mu_r (mu_sr K 169 18 (some z)) 169 y = mu_r Hg 169 y := fun y hy => by
    rw [mu_r_sr, if_neg (fun w => hy w.2), x1.r (Or.inl (by omega)) n9 y, hkH.r (Or.inl (by omega)) id y]
  have ez : ∀ y, mu_r (mu_sr K 169 18 (some z)) z y = mu_r K z y := fun y => by rw [mu_r_sr, if_neg (fun w => n9 w.1.symm)]
  have ok : ∀ p, z ≤ p → p < z + 10 → okw (mu_sr K 169 18 (some z)) F r p := fun p h1 h2 => by
    have hzz : mu_z (mu_sr K 169 18 (some z)) = mu_z K := rfl
    refine ⟨⟨by omega, by rw [hzz]; omega, by omega⟩, fun y => by have := hF p y; omega, ?_, ?_, by omega⟩
    · rw [e9 13 (by decide)]
      obtain ⟨q, q1, ⟨q2, _⟩, _⟩ := hg.1.2.2.2.2.2
      rw [q1]; intro e; cases e; omega
    · rw [e9 16 (by decide)]
      obtain ⟨q, q1, ⟨_, q2, _⟩, _⟩ := hg.2.2
      rw [q1]; intro e; cases e; omega
  have rw_ : ∀ j, j < 9 → mu_r K z (mxf j) = some (z + 1 + j) ∧ mu_is K (some (z + 1 + j)) (mxk j) ∧ mu_n K (z + 1 + j) = mxl j := fun j hj => by rw [← z2]; exact x5 j hj
  have i0 : ∀ k, mu_i K z k = nI 0 := fun k => (x4 k).trans (h1 k)
  refine ⟨⟨x3, ok z (by omega) (by omega), by rw [mu_r_sr, if_pos ⟨rfl, rfl⟩]⟩, ⟨(ez 0).trans (rw_ 0 (by decide)).1, i0 1, i0 2⟩, ⟨(rw_ 0 (by decide)).2.1, (rw_ 0 (by decide)).2.2, by decide, fun j hj => absurd hj (Nat.not_lt_zero _)⟩, fun k hk4 => ?_, fun j hj => absurd hj (Nat.not_lt_zero _), fun a ha => ?_, fun a b ha hb e => lc0_inj a (by omega) b (by omega) e⟩
  · have hc : k = 0 ∨ k = 1 ∨ k = 2 ∨ k = 3 := by omega
    have rN : ∀ j, j < 9 → mxk j = 109 → 16 ≤ mxl j → mxl j ≤ 64 → rwN (mu_sr K 169 18 (some z)) F lv (z + 1 + j) [] := fun j hj e1 e2 e3 => ⟨e1 ▸ (rw_ j hj).2.1, by show 0 ≤ mu_n K (z + 1 + j) ∧ 16 ≤ mu_n K (z + 1 + j) ∧ mu_n K (z + 1 + j) ≤ 64; rw [(rw_ j hj).2.2]; exact ⟨Nat.zero_le _, e2, e3⟩, fun i hi => absurd hi (Nat.not_lt_zero _)⟩
    have rI : ∀ j, j < 9 → mxk j = 110 → 16 ≤ mxl j → mxl j ≤ 64 → rwI (mu_sr K 169 18 (some z)) (lc0 (z + 1)) 0 (z + 1 + j) [] := fun j hj e1 e2 e3 => ⟨e1 ▸ (rw_ j hj).2.1, by show 0 ≤ mu_n K (z + 1 + j) ∧ 16 ≤ mu_n K (z + 1 + j) ∧ mu_n K (z + 1 + j) ≤ 64; rw [(rw_ j hj).2.2]; exact ⟨Nat.zero_le _, e2, e3⟩, fun i hi => absurd hi (Nat.not_lt_zero _)⟩
    rcases hc with rfl | rfl | rfl | rfl
    · exact ⟨⟨(ez 7).trans (rw_ 3 (by decide)).1, (ez 8).trans (rw_ 4 (by decide)).1, i0 9⟩, rN 3 (by decide) (by decide) (by decide) (by decide), rI 4 (by decide) (by decide) (by decide) (by decide)⟩
    · exact ⟨⟨(ez 4).trans (rw_ 2 (by decide)).1, (ez 3).trans (rw_ 1 (by decide)).1, i0 5⟩, rN 2 (by decide) (by decide) (by decide) (by decide), rI 1 (by decide) (by decide) (by decide) (by decide)⟩
    · exact ⟨⟨(ez 10).trans (rw_ 5 (by decide)).1, (ez 11).trans (rw_ 6 (by decide)).1, i0 12⟩, rN 5 (by decide) (by decide) (by decide) (by decide), rI 6 (by decide) (by decide) (by decide) (by decide)⟩
    · exact ⟨⟨(ez 13).trans (rw_ 7 (by decide)).1, (ez 14).trans (rw_ 8 (by decide)).1, i0 15⟩, rN 7 (by decide) (by decide) (by decide) (by decide), rI 8 (by decide) (by decide) (by decide) (by decide)⟩
  · have := lc0_lt (Z := z + 1) a (by omega)
    exact ⟨ok _ (by omega) (by omega), by omega⟩
