/-! The reference: no expression stands on itself, whole -/
theorem oar.up {H : mu_H} {G : Nat → Prop} {f k p N M : Nat} (h : oar H G f k p N) (hm : M ≤ mu_n H p) : oar H G f k p M := ⟨h.1, h.2.1, h.2.2.1, h.2.2.2.1, hm, h.2.2.2.2.2⟩
/-- order, met, begun -/
def nsro (H : mu_H) (G : Nat → Prop) (cap : Nat) : Prop := ∃ od mt bg, oar H G 22 100 od cap ∧ oar H G 24 101 mt cap ∧ oar H G 25 100 bg cap ∧ od ≠ bg ∧ mu_n H od = cap
theorem rfr_w {od mt bg a b : Nat} {H0 H1 : mu_H} (h : rfr [19, 20, 21, 23] [] (fun p => p = od ∨ p = mt ∨ p = bg) a b H0 H1) (h1 : mu_r H0 169 22 = some od) (h2 : mu_r H0 169 24 = some mt) (h3 : mu_r H0 169 25 = some bg) : wfr [19, 20, 21, 23] [22, 24, 25] a b H0 H1 := by
  refine ⟨h.wk (fun _ z => z) (fun k z => absurd z (List.not_mem_nil)) (fun p _ z => ?_) (Nat.le_refl _) (Nat.le_refl _), fun f hf => Or.inl (h.2.2.1 f (List.not_mem_nil))⟩
  rcases z with z | z | z
  · subst z; exact ⟨22, by decide, h1⟩
  · subst z; exact ⟨24, by decide, h2⟩
  · subst z; exact ⟨25, by decide, h3⟩
theorem oar.le {H : mu_H} {G : Nat → Prop} {f k p N M : Nat} (h : oar H G f k p N) (hm : M ≤ N) : oar H G f k p M := ⟨h.1, h.2.1, h.2.2.1, h.2.2.2.1, Nat.le_trans hm h.2.2.2.2.1, h.2.2.2.2.2⟩
theorem rp_noself {Hb H : mu_H} {D : MD} {l d cap : Nat} (hb : mdb D) (hL : ∀ s, s < (D.pr 0).length → nwf l (stdt D s)) (hr : rms Hb D H) (hg : rgd H) (ha : nsro H D.G cap) (hz : mu_z H + 3 ≤ 1000000) : mu_TE 2 (mu_D (d + l + 8)) 475 [.inr (.inr (some 169))] H (fun H1 => ¬ acy D l ∧ ∃ cap', wfr [19, 20, 21, 23] [22, 24, 25] 4 (6 * (cap' - cap) + 10) H H1) (fun v H1 => v = none ∧ ∃ cap' ol od, ordz D l ol ∧ nsro H1 D.G cap' ∧ (D.pr 0).length ≤ cap' ∧ mu_r H1 169 22 = some od ∧ (∀ a, a < (D.pr 0).length → mu_i H1 od a = nI (ol a)) ∧ wfr [19, 20, 21, 23] [22, 24, 25] 3 (6 * (cap' - cap)) H H1) := by
  refine mu_meth (M := mu_m475) rfl rfl ?_
  refine mw_ht (mu_fn_of (show [0].Nodup by decide)) ?_
  obtain ⟨od, mt, bg, a1, a2, a3, a4, a5⟩ := ha
  have N4 : (D.pr 0).length ≤ 4000 := hb.2.1
  obtain ⟨N, hN⟩ : ∃ N, N = (D.pr 0).length := ⟨_, rfl⟩
  rw [← hN] at N4
  have hG9 : ∀ p, D.G p → p < mu_z H := fun p z => Nat.lt_of_lt_of_le (hr.2.1.2.2.2 p z).2.1 hr.2.1.1.1
  obtain ⟨om1, ⟨om0_1, om1_1⟩, ol1, on1, oc1, oj1⟩ := hr.mod
  obtain ⟨⟨pa2, pb2, pc2⟩, ⟨pd2, pe2, pf2⟩, pg2, ph2, pi2⟩ := hr.row (k := 0) (by decide)
  refine mw_go mu_g475 (k := 2) (f1 := (4, [(0, .inr (.inr (some 169)))], [.inr (.inr (mu_r H 169 18))], H)) (C := [mu_is H (some 169) 1]) rfl (show mu_is H (some 169) 1 from hr.2.2.1.1) ?_
  refine mw_fr (f' := (4, [(0, .inr (.inr (some 169)))], [.inr (.inr (some D.mp))], H)) (by first | (rw [hr.2.2.1.2]; done) | (rw [hr.2.2.1.2]; rfl)) ?_
  refine mw_go mu_g475 (k := 1) (f1 := (7, [(0, .inr (.inr (some 169)))], [.inl (mu_i H D.mp 9)], H)) (C := [mu_is H (some D.mp) 16]) rfl (show mu_is H (some D.mp) 16 from om1) ?_
  refine mw_fr (f' := (7, [(0, .inr (.inr (some 169)))], [.inl (nI N)], H)) (by first | (rw [(show mu_i H D.mp 9 = nI N from by rw [hN]; exact pc2)]; done) | (rw [(show mu_i H D.mp 9 = nI N from by rw [hN]; exact pc2)]; rfl)) ?_
  refine mw_go mu_g475 (k := 3) (f1 := (12, [(1, .inl (nI N)), (0, .inr (.inr (some 169)))], [.inr (.inr (mu_r H 169 22))], H)) (C := [mu_is H (some 169) 1]) rfl (show mu_is H (some 169) 1 from hr.2.2.1.1) ?_
  refine mw_fr (f' := (12, [(1, .inl (nI N)), (0, .inr (.inr (some 169)))], [.inr (.inr (some od))], H)) (by first | (rw [a1.1]; done) | (rw [a1.1]; rfl)) ?_
  refine mw_go mu_g475 (k := 1) (f1 := (13, [(1, .inl (nI N)), (0, .inr (.inr (some 169)))], [.inl (Int32.ofNat (mu_n H od))], H)) (C := [mu_isr H (some od) (mu_k H od), 100 ≤ mu_k H od]) rfl (show (mu_isr H (some od) (mu_k H od)) ∧ (100 ≤ mu_k H od) from ⟨⟨rfl, Or.inl a1.2.1.2.1, rfl⟩, (by rw [a1.2.2.2.1]; decide)⟩) ?_
  refine mw_fr (f' := (13, [(1, .inl (nI N)), (0, .inr (.inr (some 169)))], [.inl (Int32.ofNat cap)], H)) (by first | (rw [a5]; done) | (rw [a5]; rfl)) ?_
  refine mw_go mu_g475 (k := 1) (f1 := (14, [(1, .inl (nI N)), (0, .inr (.inr (some 169)))], [.inl (nI N), .inl (Int32.ofNat cap)], H)) (C := []) rfl trivial ?_
  refine mw_if (P := (Int32.ofNat cap) < (nI N)) (a := 17) (b := 44) (fun _ => rfl) trivial (fun h1 => ?_) (fun h1 => ?_)
  · -- 17
    have hc : cap < N := nI_below (by have := a1.2.2.2.2.2; omega) (by omega) (show nI cap < nI N from h1)
    have e2 : (2 : Int32) * nI N = nI (2 * N) := (Int32.ofNat_mul 2 N).symm
    have e3 : (nI (2 * N)).toNatClampNeg = 2 * N := nI_clamp (by omega)
    have e4 : ¬ nI (2 * N) < 0 := nI_nn (by omega)
    have e5 : (nI (2 * N)).toNatClampNeg * ev_bytes 0 ≤ 536870912 := by rw [e3, show ev_bytes 0 = 4 from rfl]; omega
    have e6 : (nI (2 * N)).toNatClampNeg * ev_bytes 1 ≤ 536870912 := by rw [e3, show ev_bytes 1 = 1 from rfl]; omega
    have hz1 : 200 < mu_z H := hg.1
    refine mw_go mu_g475 (k := 4) (f1 := (21, [(1, .inl (nI N)), (0, .inr (.inr (some 169)))], [.inl ((2 : Int32) * (nI N)), .inr (.inr (some 169))], H)) (C := []) rfl trivial ?_
    refine mw_fr (f' := (21, [(1, .inl (nI N)), (0, .inr (.inr (some 169)))], [.inl (nI (2 * N)), .inr (.inr (some 169))], H)) (by first | (rw [e2]; done) | (rw [e2]; rfl)) ?_
    refine mw_go mu_g475 (k := 2) (f1 := (26, [(1, .inl (nI N)), (0, .inr (.inr (some 169)))], [], (mu_sr (mu_nw H 100 (nI (2 * N)).toNatClampNeg (nI (2 * N)).toNatClampNeg) 169 22 (some (mu_z H))))) (C := [¬ (nI (2 * N)) < 0, (nI (2 * N)).toNatClampNeg * ev_bytes 0 ≤ 536870912, mu_z H + 1 ≤ 1000000, mu_is (mu_nw H 100 (nI (2 * N)).toNatClampNeg (nI (2 * N)).toNatClampNeg) (some 169) 1]) rfl (show (¬ (nI (2 * N)) < 0) ∧ ((nI (2 * N)).toNatClampNeg * ev_bytes 0 ≤ 536870912) ∧ (mu_z H + 1 ≤ 1000000) ∧ (mu_is (mu_nw H 100 (nI (2 * N)).toNatClampNeg (nI (2 * N)).toNatClampNeg) (some 169) 1) from ⟨e4, e5, (by omega), (mu_is_nw hr.2.2.1.1)⟩) ?_
    refine mw_fr (f' := (26, [(1, .inl (nI N)), (0, .inr (.inr (some 169)))], [], (mu_sr (mu_nw H 100 (2 * N) (2 * N)) 169 22 (some (mu_z H))))) (by rw [e3]) ?_
    have wf1 : wfr [19, 20, 21, 23] [22, 24, 25] (0 + 1) (0 + 2 * N) H (mu_sr (mu_nw H 100 (2 * N) (2 * N)) 169 22 (some (mu_z H))) := wfr.nw (wfr.rf (Fi := [19, 20, 21, 23]) (Fr := [22, 24, 25])) (by decide) (by omega)
    obtain ⟨nr1, nl1, nz1⟩ := nw_row (H := H) (G := D.G) (f := 22) (k := 100) (len := 2 * N) (by omega) (fun p z => by have := hG9 p z; omega) (by omega)
    have is19 : mu_is (mu_sr (mu_nw H 100 (2 * N) (2 * N)) 169 22 (some (mu_z H))) (some 169) 1 := ⟨rfl, (by show 169 < mu_z (mu_sr (mu_nw H 100 (2 * N) (2 * N)) 169 22 (some (mu_z H))); omega), wf1.1.2.2.2.trans hr.2.2.1.1.2.2⟩
    obtain ⟨K1, eK1⟩ : ∃ K, K = (mu_sr (mu_nw H 100 (2 * N) (2 * N)) 169 22 (some (mu_z H))) := ⟨_, rfl⟩
    rw [← eK1] at wf1 nr1 nl1 nz1 is19 ⊢
    clear eK1
    refine mw_go mu_g475 (k := 4) (f1 := (30, [(1, .inl (nI N)), (0, .inr (.inr (some 169)))], [.inl ((2 : Int32) * (nI N)), .inr (.inr (some 169))], K1)) (C := []) rfl trivial ?_
    refine mw_fr (f' := (30, [(1, .inl (nI N)), (0, .inr (.inr (some 169)))], [.inl (nI (2 * N)), .inr (.inr (some 169))], K1)) (by first | (rw [e2]; done) | (rw [e2]; rfl)) ?_
    refine mw_go mu_g475 (k := 2) (f1 := (35, [(1, .inl (nI N)), (0, .inr (.inr (some 169)))], [], (mu_sr (mu_nw K1 101 (nI (2 * N)).toNatClampNeg (nI (2 * N)).toNatClampNeg) 169 24 (some (mu_z K1))))) (C := [¬ (nI (2 * N)) < 0, (nI (2 * N)).toNatClampNeg * ev_bytes 1 ≤ 536870912, mu_z K1 + 1 ≤ 1000000, mu_is (mu_nw K1 101 (nI (2 * N)).toNatClampNeg (nI (2 * N)).toNatClampNeg) (some 169) 1]) rfl (show (¬ (nI (2 * N)) < 0) ∧ ((nI (2 * N)).toNatClampNeg * ev_bytes 1 ≤ 536870912) ∧ (mu_z K1 + 1 ≤ 1000000) ∧ (mu_is (mu_nw K1 101 (nI (2 * N)).toNatClampNeg (nI (2 * N)).toNatClampNeg) (some 169) 1) from ⟨e4, e6, (by omega), (mu_is_nw is19)⟩) ?_
    refine mw_fr (f' := (35, [(1, .inl (nI N)), (0, .inr (.inr (some 169)))], [], (mu_sr (mu_nw K1 101 (2 * N) (2 * N)) 169 24 (some (mu_z K1))))) (by rw [e3]) ?_
    have wf2 : wfr [19, 20, 21, 23] [22, 24, 25] (1 + 1) ((0 + 2 * N) + 2 * N) H (mu_sr (mu_nw K1 101 (2 * N) (2 * N)) 169 24 (some (mu_z K1))) := wfr.nw wf1 (by decide) (by omega)
    obtain ⟨nr2, nl2, nz2⟩ := nw_row (H := K1) (G := D.G) (f := 24) (k := 101) (len := 2 * N) (by omega) (fun p z => by have := hG9 p z; omega) (by omega)
    have nr1 := nr1.nw (f := 24) (k := 101) (len := 2 * N) (by decide) (by omega)
    have nl1 : mu_n (mu_sr (mu_nw K1 101 (2 * N) (2 * N)) 169 24 (some (mu_z K1))) (mu_z H) = 2 * N := by rw [mu_n_sr, mu_n_nw, if_neg (by omega)]; exact nl1
    have is29 : mu_is (mu_sr (mu_nw K1 101 (2 * N) (2 * N)) 169 24 (some (mu_z K1))) (some 169) 1 := ⟨rfl, (by show 169 < mu_z (mu_sr (mu_nw K1 101 (2 * N) (2 * N)) 169 24 (some (mu_z K1))); omega), wf2.1.2.2.2.trans hr.2.2.1.1.2.2⟩
    obtain ⟨K2, eK2⟩ : ∃ K, K = (mu_sr (mu_nw K1 101 (2 * N) (2 * N)) 169 24 (some (mu_z K1))) := ⟨_, rfl⟩
    rw [← eK2] at wf2 nr2 nl2 nz2 is29 nr1 nl1 ⊢
    clear eK2
    refine mw_go mu_g475 (k := 4) (f1 := (39, [(1, .inl (nI N)), (0, .inr (.inr (some 169)))], [.inl ((2 : Int32) * (nI N)), .inr (.inr (some 169))], K2)) (C := []) rfl trivial ?_
    refine mw_fr (f' := (39, [(1, .inl (nI N)), (0, .inr (.inr (some 169)))], [.inl (nI (2 * N)), .inr (.inr (some 169))], K2)) (by first | (rw [e2]; done) | (rw [e2]; rfl)) ?_
    refine mw_go mu_g475 (k := 2) (f1 := (44, [(1, .inl (nI N)), (0, .inr (.inr (some 169)))], [], (mu_sr (mu_nw K2 100 (nI (2 * N)).toNatClampNeg (nI (2 * N)).toNatClampNeg) 169 25 (some (mu_z K2))))) (C := [¬ (nI (2 * N)) < 0, (nI (2 * N)).toNatClampNeg * ev_bytes 0 ≤ 536870912, mu_z K2 + 1 ≤ 1000000, mu_is (mu_nw K2 100 (nI (2 * N)).toNatClampNeg (nI (2 * N)).toNatClampNeg) (some 169) 1]) rfl (show (¬ (nI (2 * N)) < 0) ∧ ((nI (2 * N)).toNatClampNeg * ev_bytes 0 ≤ 536870912) ∧ (mu_z K2 + 1 ≤ 1000000) ∧ (mu_is (mu_nw K2 100 (nI (2 * N)).toNatClampNeg (nI (2 * N)).toNatClampNeg) (some 169) 1) from ⟨e4, e5, (by omega), (mu_is_nw is29)⟩) ?_
    refine mw_fr (f' := (44, [(1, .inl (nI N)), (0, .inr (.inr (some 169)))], [], (mu_sr (mu_nw K2 100 (2 * N) (2 * N)) 169 25 (some (mu_z K2))))) (by rw [e3]) ?_
    have wf3 : wfr [19, 20, 21, 23] [22, 24, 25] (2 + 1) ((0 + 2 * N + 2 * N) + 2 * N) H (mu_sr (mu_nw K2 100 (2 * N) (2 * N)) 169 25 (some (mu_z K2))) := wfr.nw wf2 (by decide) (by omega)
    obtain ⟨nr3, nl3, nz3⟩ := nw_row (H := K2) (G := D.G) (f := 25) (k := 100) (len := 2 * N) (by omega) (fun p z => by have := hG9 p z; omega) (by omega)
    have nr1 := nr1.nw (f := 25) (k := 100) (len := 2 * N) (by decide) (by omega)
    have nr2 := nr2.nw (f := 25) (k := 100) (len := 2 * N) (by decide) (by omega)
    have nl1 : mu_n (mu_sr (mu_nw K2 100 (2 * N) (2 * N)) 169 25 (some (mu_z K2))) (mu_z H) = 2 * N := by rw [mu_n_sr, mu_n_nw, if_neg (by omega)]; exact nl1
    have is39 : mu_is (mu_sr (mu_nw K2 100 (2 * N) (2 * N)) 169 25 (some (mu_z K2))) (some 169) 1 := ⟨rfl, (by show 169 < mu_z (mu_sr (mu_nw K2 100 (2 * N) (2 * N)) 169 25 (some (mu_z K2))); omega), wf3.1.2.2.2.trans hr.2.2.1.1.2.2⟩
    obtain ⟨K3, eK3⟩ : ∃ K, K = (mu_sr (mu_nw K2 100 (2 * N) (2 * N)) 169 25 (some (mu_z K2))) := ⟨_, rfl⟩
    rw [← eK3] at wf3 nr3 nl3 nz3 is39 nr1 nr2 nl1 ⊢
    clear eK3
    have rG : rnG H D.G [22, 24, 25] := fun f p hf hp => by
      simp only [List.mem_cons, List.not_mem_nil, or_false] at hf
      rcases hf with rfl | rfl | rfl
      · rw [a1.1] at hp; cases hp; exact ⟨a1.2.2.1, a1.2.1.2.2⟩
      · rw [a2.1] at hp; cases hp; exact ⟨a2.2.2.1, a2.2.1.2.2⟩
      · rw [a3.1] at hp; cases hp; exact ⟨a3.2.2.1, a3.2.1.2.2⟩
    have hr3 := wf3.rm hr rG (by decide) (by decide)
    refine mw_sub (L' := [(1, .inl (nI N)), (0, .inr (.inr (some 169)))]) (by simp) ?_
    refine mw_go mu_g475 (k := 2) (f1 := (46, [(2, .inl (0 : Int32)), (1, .inl (nI N)), (0, .inr (.inr (some 169)))], [], K3)) (C := []) rfl trivial ?_
    refine mw_sub (L' := [(2, .inl (nI 0)), (1, .inl (nI N)), (0, .inr (.inr (some 169)))]) (by intro x hx; simp only [List.mem_cons, List.not_mem_nil, or_false] at hx ⊢; rcases hx with rfl | rfl | rfl <;> simp [nI]) ?_
    refine rp_neC (H0 := K3) (od := (mu_z H)) (mt := (mu_z K1)) (bg := (mu_z K2)) hb hN (by omega) (fun s hs => hL s (by omega)) (fun H1 z1 z2 => Or.inl ⟨H1, rfl, z1, (2 * N), ?_⟩) (fun w st ol H1 z1 z2 => Or.inr ⟨_, H1, rfl, rfl, (2 * N), ol, (mu_z H), z2, ⟨_, _, _, z1.2.1.1.up (Nat.le_of_eq (z1.2.2.2.2.2.2.2.1.trans nl1).symm), z1.2.1.2.1.up (by rw [z1.2.2.2.2.2.2.2.2.1]; exact nr2.2.2.2.2.1), z1.2.1.2.2.1.up (by rw [z1.2.2.2.2.2.2.2.2.2]; exact nr3.2.2.2.2.1), z1.2.1.2.2.2, ?_⟩, by omega, z1.2.1.1.1, fun a ha => z1.2.2.2.2.1 a (by omega), ?_⟩) N 0 _ (Nat.zero_add _) ⟨hr3, ⟨nr1.le (by omega), nr2.le (by omega), nr3.le (by omega), by omega⟩, fun i hi => absurd hi (Nat.not_lt_zero _), rfr.rf, rfl, rfl, rfl⟩
    · exact (wf3.tr (rfr_w z2 nr1.1 nr2.1 nr3.1)).wk (fun _ z => z) (fun _ z => z) (by omega) (by omega)
    · exact z1.2.2.2.2.2.2.2.1.trans nl1
    · exact (wf3.tr (rfr_w z1.2.2.2.2.2.2.1 nr1.1 nr2.1 nr3.1)).wk (fun _ z => z) (fun _ z => z) (by omega) (by omega)
  · -- 44
    have hc : N ≤ cap := by
      by_cases z : cap < N
      · exact absurd (show Int32.ofNat cap < nI N from nI_lt z (by omega)) h1
      · omega
    refine mw_sub (L' := [(1, .inl (nI N)), (0, .inr (.inr (some 169)))]) (by simp) ?_
    refine mw_go mu_g475 (k := 2) (f1 := (46, [(2, .inl (0 : Int32)), (1, .inl (nI N)), (0, .inr (.inr (some 169)))], [], H)) (C := []) rfl trivial ?_
    refine mw_sub (L' := [(2, .inl (nI 0)), (1, .inl (nI N)), (0, .inr (.inr (some 169)))]) (by intro x hx; simp only [List.mem_cons, List.not_mem_nil, or_false] at hx ⊢; rcases hx with rfl | rfl | rfl <;> simp [nI]) ?_
    refine rp_neC (H0 := H) (od := od) (mt := mt) (bg := bg) hb hN (by omega) (fun s hs => hL s (by omega)) (fun H1 z1 z2 => Or.inl ⟨H1, rfl, z1, cap, ?_⟩) (fun w st ol H1 z1 z2 => Or.inr ⟨_, H1, rfl, rfl, cap, ol, od, z2, ⟨_, _, _, z1.2.1.1.up (Nat.le_of_eq (z1.2.2.2.2.2.2.2.1.trans a5).symm), z1.2.1.2.1.up (by rw [z1.2.2.2.2.2.2.2.2.1]; exact a2.2.2.2.2.1), z1.2.1.2.2.1.up (by rw [z1.2.2.2.2.2.2.2.2.2]; exact a3.2.2.2.2.1), z1.2.1.2.2.2, ?_⟩, by omega, z1.2.1.1.1, fun a ha => z1.2.2.2.2.1 a (by omega), ?_⟩) N 0 _ (Nat.zero_add _) ⟨hr, ⟨a1.le (by omega), a2.le (by omega), a3.le (by omega), a4⟩, fun i hi => absurd hi (Nat.not_lt_zero _), rfr.rf, rfl, rfl, rfl⟩
    · exact ((wfr.rf (Fi := [19, 20, 21, 23]) (Fr := [22, 24, 25])).tr (rfr_w z2 a1.1 a2.1 a3.1)).wk (fun _ z => z) (fun _ z => z) (by omega) (by omega)
    · exact z1.2.2.2.2.2.2.2.1.trans a5
    · exact ((wfr.rf (Fi := [19, 20, 21, 23]) (Fr := [22, 24, 25])).tr (rfr_w z1.2.2.2.2.2.2.1 a1.1 a2.1 a3.1)).wk (fun _ z => z) (fun _ z => z) (by omega) (by omega)
