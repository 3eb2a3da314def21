/-! The reference: allSorts whole -/
theorem rp_allSorts {Hb H : mu_H} {D : MD} {od sp l d cap : Nat} {ol : Nat → Nat} (hb : mdb D) (hy : mdy D) (hx : mdx2 D) (hma : mda D) (hl : 1810 ≤ l) (ho : ordz D l ol) (hal : ∀ j, j < D.n → alj D l j) (hr : rms Hb D H) (hg : rgd H) (a3 : oar H D.G 22 100 od (D.pr 0).length ∧ ∀ a, a < (D.pr 0).length → mu_i H od a = nI (ol a)) (a1 : oar H D.G 27 100 sp cap) (a2 : mu_n H sp = cap) (a4 : od ≠ sp) (hz : mu_z H + 1 ≤ 1000000) : mu_TE 2 (mu_D (d + 1827)) 461 [.inr (.inr (some 169))] H (fun H1 => ¬ (∃ ss, ssol D ss ∧ srok D ss) ∧ ∃ cap', wfr [19, 20, 21] [27] 2 (2 * (cap' - cap) + 10) H H1) (fun v H1 => v = none ∧ (∃ ss, ssol D ss ∧ srok D ss) ∧ ∃ cap' sp', oar H1 D.G 27 100 sp' cap' ∧ mu_n H1 sp' = cap' ∧ cap ≤ cap' ∧ wfr [19, 20, 21] [27] 1 (2 * (cap' - cap)) H H1) := by
  refine mu_meth (M := mu_m461) rfl rfl ?_
  refine mw_ht (mu_fn_of (show [0].Nodup by decide)) ?_
  have b4 := hb.2.1
  have hG9 : ∀ p, D.G p → p < mu_z H := fun p z => Nat.lt_of_lt_of_le (hr.2.1.2.2.2 p z).2.1 hr.2.1.1.1
  obtain ⟨N, hN⟩ : ∃ N, N = (D.pr 0).length := ⟨_, rfl⟩
  obtain ⟨om1, ⟨om0_1, om1_1⟩, ol1, on1, oc1, oj1⟩ := hr.mod
  obtain ⟨⟨pa2, pb2, pc2⟩, ⟨pd2, pe2, pf2⟩, pg2, ph2, pi2⟩ := hr.row (k := 0) (by decide)
  refine mw_go mu_g461 (k := 2) (f1 := (4, [(0, .inr (.inr (some 169)))], [.inr (.inr (mu_r H 169 27))], H)) (C := [mu_is H (some 169) 1]) rfl (show mu_is H (some 169) 1 from hr.2.2.1.1) ?_
  refine mw_fr (f' := (4, [(0, .inr (.inr (some 169)))], [.inr (.inr (some sp))], H)) (by first | (rw [a1.1]; done) | (rw [a1.1]; rfl)) ?_
  refine mw_go mu_g461 (k := 1) (f1 := (5, [(0, .inr (.inr (some 169)))], [.inl (Int32.ofNat (mu_n H sp))], H)) (C := [mu_isr H (some sp) (mu_k H sp), 100 ≤ mu_k H sp]) rfl (show (mu_isr H (some sp) (mu_k H sp)) ∧ (100 ≤ mu_k H sp) from ⟨⟨rfl, Or.inl a1.2.1.2.1, rfl⟩, (by rw [a1.2.2.2.1]; decide)⟩) ?_
  refine mw_fr (f' := (5, [(0, .inr (.inr (some 169)))], [.inl (Int32.ofNat cap)], H)) (by first | (rw [a2]; done) | (rw [a2]; rfl)) ?_
  refine mw_go mu_g461 (k := 2) (f1 := (9, [(0, .inr (.inr (some 169)))], [.inr (.inr (mu_r H 169 18)), .inl (Int32.ofNat cap)], H)) (C := [mu_is H (some 169) 1]) rfl (show mu_is H (some 169) 1 from hr.2.2.1.1) ?_
  refine mw_fr (f' := (9, [(0, .inr (.inr (some 169)))], [.inr (.inr (some D.mp)), .inl (Int32.ofNat cap)], H)) (by first | (rw [hr.2.2.1.2]; done) | (rw [hr.2.2.1.2]; rfl)) ?_
  refine mw_go mu_g461 (k := 1) (f1 := (12, [(0, .inr (.inr (some 169)))], [.inl (mu_i H D.mp 9), .inl (Int32.ofNat cap)], H)) (C := [mu_is H (some D.mp) 16]) rfl (show mu_is H (some D.mp) 16 from om1) ?_
  refine mw_fr (f' := (12, [(0, .inr (.inr (some 169)))], [.inl (nI N), .inl (Int32.ofNat cap)], H)) (by first | (rw [(show mu_i H D.mp 9 = nI N from by rw [hN]; exact pc2)]; done) | (rw [(show mu_i H D.mp 9 = nI N from by rw [hN]; exact pc2)]; rfl)) ?_
  refine mw_if (P := (Int32.ofNat cap) < (nI N)) (a := 15) (b := 30) (fun _ => rfl) trivial (fun h1 => ?_) (fun h1 => ?_)
  · -- 15
    have hc : cap < N := nI_below (by have := a1.2.2.2.2.2; omega) (by omega) (show nI cap < nI N from h1)
    have e2 : (2 : Int32) * nI N = nI (2 * N) := (Int32.ofNat_mul 2 N).symm
    have e3 : (nI (2 * N)).toNatClampNeg = 2 * N := nI_clamp (by omega)
    have e4 : ¬ nI (2 * N) < 0 := nI_nn (by omega)
    have e5 : (nI (2 * N)).toNatClampNeg * ev_bytes 0 ≤ 536870912 := by rw [e3, show ev_bytes 0 = 4 from rfl]; omega
    have hz1 : 200 < mu_z H := hg.1
    refine mw_go mu_g461 (k := 4) (f1 := (21, [(0, .inr (.inr (some 169)))], [.inr (.inr (mu_r H 169 18)), .inl (2 : Int32), .inr (.inr (some 169))], H)) (C := [mu_is H (some 169) 1]) rfl (show mu_is H (some 169) 1 from hr.2.2.1.1) ?_
    refine mw_fr (f' := (21, [(0, .inr (.inr (some 169)))], [.inr (.inr (some D.mp)), .inl (2 : Int32), .inr (.inr (some 169))], H)) (by first | (rw [hr.2.2.1.2]; done) | (rw [hr.2.2.1.2]; rfl)) ?_
    refine mw_go mu_g461 (k := 1) (f1 := (24, [(0, .inr (.inr (some 169)))], [.inl (mu_i H D.mp 9), .inl (2 : Int32), .inr (.inr (some 169))], H)) (C := [mu_is H (some D.mp) 16]) rfl (show mu_is H (some D.mp) 16 from om1) ?_
    refine mw_fr (f' := (24, [(0, .inr (.inr (some 169)))], [.inl (nI N), .inl (2 : Int32), .inr (.inr (some 169))], H)) (by first | (rw [(show mu_i H D.mp 9 = nI N from by rw [hN]; exact pc2)]; done) | (rw [(show mu_i H D.mp 9 = nI N from by rw [hN]; exact pc2)]; rfl)) ?_
    refine mw_go mu_g461 (k := 1) (f1 := (25, [(0, .inr (.inr (some 169)))], [.inl ((2 : Int32) * (nI N)), .inr (.inr (some 169))], H)) (C := []) rfl trivial ?_
    refine mw_fr (f' := (25, [(0, .inr (.inr (some 169)))], [.inl (nI (2 * N)), .inr (.inr (some 169))], H)) (by first | (rw [e2]; done) | (rw [e2]; rfl)) ?_
    refine mw_go mu_g461 (k := 2) (f1 := (30, [(0, .inr (.inr (some 169)))], [], (mu_sr (mu_nw H 100 (nI (2 * N)).toNatClampNeg (nI (2 * N)).toNatClampNeg) 169 27 (some (mu_z H))))) (C := [¬ (nI (2 * N)) < 0, (nI (2 * N)).toNatClampNeg * ev_bytes 0 ≤ 536870912, mu_z H + 1 ≤ 1000000, mu_is (mu_nw H 100 (nI (2 * N)).toNatClampNeg (nI (2 * N)).toNatClampNeg) (some 169) 1]) rfl (show (¬ (nI (2 * N)) < 0) ∧ ((nI (2 * N)).toNatClampNeg * ev_bytes 0 ≤ 536870912) ∧ (mu_z H + 1 ≤ 1000000) ∧ (mu_is (mu_nw H 100 (nI (2 * N)).toNatClampNeg (nI (2 * N)).toNatClampNeg) (some 169) 1) from ⟨e4, e5, (by omega), (mu_is_nw hr.2.2.1.1)⟩) ?_
    refine mw_fr (f' := (30, [(0, .inr (.inr (some 169)))], [], (mu_sr (mu_nw H 100 (2 * N) (2 * N)) 169 27 (some (mu_z H))))) (by rw [e3]) ?_
    have wf1 : wfr [19, 20, 21] [27] (0 + 1) (0 + 2 * N) H (mu_sr (mu_nw H 100 (2 * N) (2 * N)) 169 27 (some (mu_z H))) := wfr.nw (wfr.rf (Fi := [19, 20, 21]) (Fr := [27])) (by decide) (by omega)
    obtain ⟨nr1, nl1, nz1⟩ := nw_row (H := H) (G := D.G) (f := 27) (k := 100) (len := 2 * N) (by omega) (fun p z => by have := hG9 p z; omega) (by omega)
    have no1 := a3.1.nw (f := 27) (k := 100) (len := 2 * N) (by decide) (by omega)
    have ni1 : ∀ a, a < (D.pr 0).length → mu_i (mu_sr (mu_nw H 100 (2 * N) (2 * N)) 169 27 (some (mu_z H))) od a = nI (ol a) := fun a ha => by rw [mu_i_sr, mu_i_nw, if_neg (by have := a3.1.2.1.2.1; omega)]; exact a3.2 a ha
    have nd1 : od ≠ mu_z H := by have := a3.1.2.1.2.1; omega
    have rG : rnG H D.G [27] := fun g p hg hp => by
      simp only [List.mem_cons, List.not_mem_nil, or_false] at hg
      subst hg
      rw [a1.1] at hp; cases hp; exact ⟨a1.2.2.1, a1.2.1.2.2⟩
    have hr1 := wf1.rm hr rG (by decide) (by decide)
    obtain ⟨K, eK⟩ : ∃ K, K = (mu_sr (mu_nw H 100 (2 * N) (2 * N)) 169 27 (some (mu_z H))) := ⟨_, rfl⟩
    rw [← eK] at wf1 nr1 nl1 nz1 no1 ni1 hr1 ⊢
    clear eK
    refine mw_go mu_g461 (k := 2) (f1 := (32, [(1, .inl (0 : Int32)), (0, .inr (.inr (some 169)))], [], K)) (C := []) rfl trivial ?_
    refine mw_sub (L' := [(1, .inl (nI 0)), (0, .inr (.inr (some 169)))]) (by intro x hx; simp only [List.mem_cons, List.not_mem_nil, or_false] at hx ⊢; rcases hx with rfl | rfl <;> simp [nI]) ?_
    refine rp_asO (H0 := K) (od := od) (sp := (mu_z H)) hb hy hx hl ho (fun H1 z1 z2 => Or.inl ⟨H1, rfl, z1, (2 * N), (wf1.tr z2).wk (fun _ z => z) (fun _ z => z) (by omega) (by omega)⟩) (fun ss H1 z1 z2 => ?_) (D.pr 0).length 0 (fun i => mu_i K (mu_z H) i) _ (Nat.zero_add _) ⟨hr1, ⟨nr1.le (by omega), fun _ _ => rfl⟩, ⟨no1, ni1⟩, nd1, wfr.rf, rfl⟩ (fun b hb => absurd hb (Nat.not_lt_zero _))
    have hS := z2.all ho
    refine rp_asP (H0 := K) hb hy hal hma (fun H2 y1 y2 => Or.inl ⟨H2, rfl, fun w => ?_, (2 * N), (wf1.tr y2).wk (fun _ z => z) (fun _ z => z) (by omega) (by omega)⟩) (fun H2 y1 y2 => Or.inr ⟨_, H2, rfl, rfl, ⟨ss, hS, y2⟩, (2 * N), (mu_z H), y1.2.1.1.up (Nat.le_of_eq (y1.2.2.2.2.2.trans nl1).symm), y1.2.2.2.2.2.trans nl1, by omega, (wf1.tr y1.2.2.2.2.1).wk (fun _ z => z) (fun _ z => z) (by omega) (by omega)⟩) D.n 0 _ (Nat.zero_add _) z1 (fun i hi => absurd hi (Nat.not_lt_zero _))
    obtain ⟨ss2, w1, w2⟩ := w
    refine y1 (fun j hj k hk => soj_cg hb hj ((hr.ins hj).2.2.2.2.2.2.2.1.2 k hk : ptw (nth (D.md j).2.2 k)) (fun t ht => ?_) (w2 j hj k hk))
    obtain ⟨a, a1, a2⟩ := ho.2 t ht
    rw [← a2]
    exact z2.uni ho hx hl hb (Nat.le_refl _) w1 a a1
  · -- 30
    have hc : N ≤ cap := by
      by_cases z : cap < N
      · exact absurd (show Int32.ofNat cap < nI N from nI_lt z (by omega)) h1
      · omega
    refine mw_go mu_g461 (k := 2) (f1 := (32, [(1, .inl (0 : Int32)), (0, .inr (.inr (some 169)))], [], H)) (C := []) rfl trivial ?_
    refine mw_sub (L' := [(1, .inl (nI 0)), (0, .inr (.inr (some 169)))]) (by intro x hx; simp only [List.mem_cons, List.not_mem_nil, or_false] at hx ⊢; rcases hx with rfl | rfl <;> simp [nI]) ?_
    refine rp_asO (H0 := H) (od := od) (sp := sp) hb hy hx hl ho (fun H1 z1 z2 => Or.inl ⟨H1, rfl, z1, cap, ((wfr.rf (Fi := [19, 20, 21]) (Fr := [27])).tr z2).wk (fun _ z => z) (fun _ z => z) (by omega) (by omega)⟩) (fun ss H1 z1 z2 => ?_) (D.pr 0).length 0 (fun i => mu_i H sp i) _ (Nat.zero_add _) ⟨hr, ⟨a1.le (by omega), fun _ _ => rfl⟩, a3, a4, wfr.rf, rfl⟩ (fun b hb => absurd hb (Nat.not_lt_zero _))
    have hS := z2.all ho
    refine rp_asP (H0 := H) hb hy hal hma (fun H2 y1 y2 => Or.inl ⟨H2, rfl, fun w => ?_, cap, ((wfr.rf (Fi := [19, 20, 21]) (Fr := [27])).tr y2).wk (fun _ z => z) (fun _ z => z) (by omega) (by omega)⟩) (fun H2 y1 y2 => Or.inr ⟨_, H2, rfl, rfl, ⟨ss, hS, y2⟩, cap, sp, y1.2.1.1.up (Nat.le_of_eq (y1.2.2.2.2.2.trans a2).symm), y1.2.2.2.2.2.trans a2, by omega, ((wfr.rf (Fi := [19, 20, 21]) (Fr := [27])).tr y1.2.2.2.2.1).wk (fun _ z => z) (fun _ z => z) (by omega) (by omega)⟩) D.n 0 _ (Nat.zero_add _) z1 (fun i hi => absurd hi (Nat.not_lt_zero _))
    obtain ⟨ss2, w1, w2⟩ := w
    refine y1 (fun j hj k hk => soj_cg hb hj ((hr.ins hj).2.2.2.2.2.2.2.1.2 k hk : ptw (nth (D.md j).2.2 k)) (fun t ht => ?_) (w2 j hj k hk))
    obtain ⟨a, a1, a2⟩ := ho.2 t ht
    rw [← a2]
    exact z2.uni ho hx hl hb (Nat.le_refl _) w1 a a1
