/-! The reference: allHeights whole -/
theorem rp_allHeights {Hb H : mu_H} {D : MD} {od hp l d cap : Nat} {ol : Nat → Nat} (hb : mdb D) (hx : mdx2 D) (hl : 1810 ≤ l) (ho : ordz D l ol) (hal : ∀ j, j < D.n → alj D l j) (hr : rms Hb D H) (hg : rgd H) (a3 : oar H D.G 22 100 od (D.pr 0).length ∧ ∀ a, a < (D.pr 0).length → mu_i H od a = nI (ol a)) (a1 : oar H D.G 26 100 hp cap) (a2 : mu_n H hp = cap) (a4 : od ≠ hp) (hz : mu_z H + 1 ≤ 1000000) : mu_TE 3 (mu_D (d + 914)) 460 [.inr (.inr (some 169))] H (fun H1 => (∀ hs, hsol D hs → ¬ hok D hs) ∧ ∃ cap', wfr [19, 20, 21] [26] 2 (2 * (cap' - cap) + 10) H H1) (fun v H1 => v = none ∧ (∃ hs, hsol D hs ∧ hok D hs) ∧ ∃ cap' hp', oar H1 D.G 26 100 hp' cap' ∧ mu_n H1 hp' = cap' ∧ cap ≤ cap' ∧ wfr [19, 20, 21] [26] 1 (2 * (cap' - cap)) H H1) := by
  refine mu_meth (M := mu_m460) rfl rfl ?_
  refine mw_ht (mu_fn_of (show [0].Nodup by decide)) ?_
  have b4 := hb.2.1
  have hG9 : ∀ p, D.G p → p < mu_z H := fun p z => Nat.lt_of_lt_of_le (hr.2.1.2.2.2 p z).2.1 hr.2.1.1.1
  obtain ⟨N, hN⟩ : ∃ N, N = (D.pr 0).length := ⟨_, rfl⟩
  obtain ⟨om1, ⟨om0_1, om1_1⟩, ol1, on1, oc1, oj1⟩ := hr.mod
  obtain ⟨⟨pa2, pb2, pc2⟩, ⟨pd2, pe2, pf2⟩, pg2, ph2, pi2⟩ := hr.row (k := 0) (by decide)
  refine mw_go mu_g460 (k := 2) (f1 := (4, [(0, .inr (.inr (some 169)))], [.inr (.inr (mu_r H 169 26))], H)) (C := [mu_is H (some 169) 1]) rfl (show mu_is H (some 169) 1 from hr.2.2.1.1) ?_
  refine mw_fr (f' := (4, [(0, .inr (.inr (some 169)))], [.inr (.inr (some hp))], H)) (by first | (rw [a1.1]; done) | (rw [a1.1]; rfl)) ?_
  refine mw_go mu_g460 (k := 1) (f1 := (5, [(0, .inr (.inr (some 169)))], [.inl (Int32.ofNat (mu_n H hp))], H)) (C := [mu_isr H (some hp) (mu_k H hp), 100 ≤ mu_k H hp]) rfl (show (mu_isr H (some hp) (mu_k H hp)) ∧ (100 ≤ mu_k H hp) from ⟨⟨rfl, Or.inl a1.2.1.2.1, rfl⟩, (by rw [a1.2.2.2.1]; decide)⟩) ?_
  refine mw_fr (f' := (5, [(0, .inr (.inr (some 169)))], [.inl (Int32.ofNat cap)], H)) (by first | (rw [a2]; done) | (rw [a2]; rfl)) ?_
  refine mw_go mu_g460 (k := 2) (f1 := (9, [(0, .inr (.inr (some 169)))], [.inr (.inr (mu_r H 169 18)), .inl (Int32.ofNat cap)], H)) (C := [mu_is H (some 169) 1]) rfl (show mu_is H (some 169) 1 from hr.2.2.1.1) ?_
  refine mw_fr (f' := (9, [(0, .inr (.inr (some 169)))], [.inr (.inr (some D.mp)), .inl (Int32.ofNat cap)], H)) (by first | (rw [hr.2.2.1.2]; done) | (rw [hr.2.2.1.2]; rfl)) ?_
  refine mw_go mu_g460 (k := 1) (f1 := (12, [(0, .inr (.inr (some 169)))], [.inl (mu_i H D.mp 9), .inl (Int32.ofNat cap)], H)) (C := [mu_is H (some D.mp) 16]) rfl (show mu_is H (some D.mp) 16 from om1) ?_
  refine mw_fr (f' := (12, [(0, .inr (.inr (some 169)))], [.inl (nI N), .inl (Int32.ofNat cap)], H)) (by first | (rw [(show mu_i H D.mp 9 = nI N from by rw [hN]; exact pc2)]; done) | (rw [(show mu_i H D.mp 9 = nI N from by rw [hN]; exact pc2)]; rfl)) ?_
  refine mw_if (P := (Int32.ofNat cap) < (nI N)) (a := 15) (b := 30) (fun _ => rfl) trivial (fun h1 => ?_) (fun h1 => ?_)
  · -- 15
    have hc : cap < N := nI_below (by have := a1.2.2.2.2.2; omega) (by omega) (show nI cap < nI N from h1)
    have e2 : (2 : Int32) * nI N = nI (2 * N) := (Int32.ofNat_mul 2 N).symm
    have e3 : (nI (2 * N)).toNatClampNeg = 2 * N := nI_clamp (by omega)
    have e4 : ¬ nI (2 * N) < 0 := nI_nn (by omega)
    have e5 : (nI (2 * N)).toNatClampNeg * ev_bytes 0 ≤ 536870912 := by rw [e3, show ev_bytes 0 = 4 from rfl]; omega
    have hz1 : 200 < mu_z H := hg.1
    refine mw_go mu_g460 (k := 4) (f1 := (21, [(0, .inr (.inr (some 169)))], [.inr (.inr (mu_r H 169 18)), .inl (2 : Int32), .inr (.inr (some 169))], H)) (C := [mu_is H (some 169) 1]) rfl (show mu_is H (some 169) 1 from hr.2.2.1.1) ?_
    refine mw_fr (f' := (21, [(0, .inr (.inr (some 169)))], [.inr (.inr (some D.mp)), .inl (2 : Int32), .inr (.inr (some 169))], H)) (by first | (rw [hr.2.2.1.2]; done) | (rw [hr.2.2.1.2]; rfl)) ?_
    refine mw_go mu_g460 (k := 1) (f1 := (24, [(0, .inr (.inr (some 169)))], [.inl (mu_i H D.mp 9), .inl (2 : Int32), .inr (.inr (some 169))], H)) (C := [mu_is H (some D.mp) 16]) rfl (show mu_is H (some D.mp) 16 from om1) ?_
    refine mw_fr (f' := (24, [(0, .inr (.inr (some 169)))], [.inl (nI N), .inl (2 : Int32), .inr (.inr (some 169))], H)) (by first | (rw [(show mu_i H D.mp 9 = nI N from by rw [hN]; exact pc2)]; done) | (rw [(show mu_i H D.mp 9 = nI N from by rw [hN]; exact pc2)]; rfl)) ?_
    refine mw_go mu_g460 (k := 1) (f1 := (25, [(0, .inr (.inr (some 169)))], [.inl ((2 : Int32) * (nI N)), .inr (.inr (some 169))], H)) (C := []) rfl trivial ?_
    refine mw_fr (f' := (25, [(0, .inr (.inr (some 169)))], [.inl (nI (2 * N)), .inr (.inr (some 169))], H)) (by first | (rw [e2]; done) | (rw [e2]; rfl)) ?_
    refine mw_go mu_g460 (k := 2) (f1 := (30, [(0, .inr (.inr (some 169)))], [], (mu_sr (mu_nw H 100 (nI (2 * N)).toNatClampNeg (nI (2 * N)).toNatClampNeg) 169 26 (some (mu_z H))))) (C := [¬ (nI (2 * N)) < 0, (nI (2 * N)).toNatClampNeg * ev_bytes 0 ≤ 536870912, mu_z H + 1 ≤ 1000000, mu_is (mu_nw H 100 (nI (2 * N)).toNatClampNeg (nI (2 * N)).toNatClampNeg) (some 169) 1]) rfl (show (¬ (nI (2 * N)) < 0) ∧ ((nI (2 * N)).toNatClampNeg * ev_bytes 0 ≤ 536870912) ∧ (mu_z H + 1 ≤ 1000000) ∧ (mu_is (mu_nw H 100 (nI (2 * N)).toNatClampNeg (nI (2 * N)).toNatClampNeg) (some 169) 1) from ⟨e4, e5, (by omega), (mu_is_nw hr.2.2.1.1)⟩) ?_
    refine mw_fr (f' := (30, [(0, .inr (.inr (some 169)))], [], (mu_sr (mu_nw H 100 (2 * N) (2 * N)) 169 26 (some (mu_z H))))) (by rw [e3]) ?_
    have wf1 : wfr [19, 20, 21] [26] (0 + 1) (0 + 2 * N) H (mu_sr (mu_nw H 100 (2 * N) (2 * N)) 169 26 (some (mu_z H))) := wfr.nw (wfr.rf (Fi := [19, 20, 21]) (Fr := [26])) (by decide) (by omega)
    obtain ⟨nr1, nl1, nz1⟩ := nw_row (H := H) (G := D.G) (f := 26) (k := 100) (len := 2 * N) (by omega) (fun p z => by have := hG9 p z; omega) (by omega)
    have no1 := a3.1.nw (f := 26) (k := 100) (len := 2 * N) (by decide) (by omega)
    have ni1 : ∀ a, a < (D.pr 0).length → mu_i (mu_sr (mu_nw H 100 (2 * N) (2 * N)) 169 26 (some (mu_z H))) od a = nI (ol a) := fun a ha => by rw [mu_i_sr, mu_i_nw, if_neg (by have := a3.1.2.1.2.1; omega)]; exact a3.2 a ha
    have nd1 : od ≠ mu_z H := by have := a3.1.2.1.2.1; omega
    have rG : rnG H D.G [26] := fun g p hg hp => by
      simp only [List.mem_cons, List.not_mem_nil, or_false] at hg
      subst hg
      rw [a1.1] at hp; cases hp; exact ⟨a1.2.2.1, a1.2.1.2.2⟩
    have hr1 := wf1.rm hr rG (by decide) (by decide)
    obtain ⟨K, eK⟩ : ∃ K, K = (mu_sr (mu_nw H 100 (2 * N) (2 * N)) 169 26 (some (mu_z H))) := ⟨_, rfl⟩
    rw [← eK] at wf1 nr1 nl1 nz1 no1 ni1 hr1 ⊢
    clear eK
    refine mw_go mu_g460 (k := 2) (f1 := (32, [(1, .inl (0 : Int32)), (0, .inr (.inr (some 169)))], [], K)) (C := []) rfl trivial ?_
    refine mw_sub (L' := [(1, .inl (nI 0)), (0, .inr (.inr (some 169)))]) (by intro x hx; simp only [List.mem_cons, List.not_mem_nil, or_false] at hx ⊢; rcases hx with rfl | rfl <;> simp [nI]) ?_
    refine rp_ahO (H0 := K) (od := od) (hp := (mu_z H)) hb hx hl ho (fun H1 z1 z2 => Or.inl ⟨H1, rfl, z1, (2 * N), (wf1.tr z2).wk (fun _ z => z) (fun _ z => z) (by omega) (by omega)⟩) (fun hs H1 z1 z2 z3 => ?_) (D.pr 0).length 0 (fun i => mu_i K (mu_z H) i) _ (Nat.zero_add _) ⟨hr1, ⟨nr1.le (by omega), fun _ _ => rfl⟩, ⟨no1, ni1⟩, nd1, wfr.rf, rfl⟩ (fun b hb => absurd hb (Nat.not_lt_zero _)) (fun b hb => absurd hb (Nat.not_lt_zero _))
    have hS := z2.all ho
    have eu : ∀ hs2, hsol D hs2 → ∀ t, t < (D.pr 0).length → hs2 t = hs t := fun hs2 w1 t ht => by
      obtain ⟨a, a1, a2⟩ := ho.2 t ht
      rw [← a2]
      exact z2.uni ho hx hl hb (Nat.le_refl _) w1 a a1
    refine rp_ahP (H0 := K) hb hal (fun H2 y1 y2 => Or.inl ⟨H2, rfl, fun hs2 w1 w2 => y1 (fun j hj k hk => ?_), (2 * N), (wf1.tr y2).wk (fun _ z => z) (fun _ z => z) (by omega) (by omega)⟩) (fun H2 y1 y2 => Or.inr ⟨_, H2, rfl, rfl, ⟨hs, hS, z3, y2⟩, (2 * N), (mu_z H), y1.2.1.1.up (Nat.le_of_eq ((hah.len y1).trans nl1).symm), (hah.len y1).trans nl1, by omega, (wf1.tr y1.2.2.2.2.1).wk (fun _ z => z) (fun _ z => z) (by omega) (by omega)⟩) D.n 0 _ (Nat.zero_add _) z1 (fun i hi => absurd hi (Nat.not_lt_zero _))
    have hp := ((hr.ins hj).2.2.2.2.2.2.2.1.2 k hk : ptw (nth (D.md j).2.2 k))
    have q := w2.2 j hj k hk
    exact ⟨fun ka => by rw [← hgc_cg hb hj (eu hs2 w1) (ptw_c hp ka)]; exact q.1 ka, fun ka k3 k4 => by rw [← hgt_cg hb hj (ptw_e hp ka k3) (fun t ht => eu hs2 w1 t (by obtain ⟨_, z⟩ := ht; exact usz_lt z))]; exact q.2 ka k3 k4⟩
  · -- 30
    have hc : N ≤ cap := by
      by_cases z : cap < N
      · exact absurd (show Int32.ofNat cap < nI N from nI_lt z (by omega)) h1
      · omega
    refine mw_go mu_g460 (k := 2) (f1 := (32, [(1, .inl (0 : Int32)), (0, .inr (.inr (some 169)))], [], H)) (C := []) rfl trivial ?_
    refine mw_sub (L' := [(1, .inl (nI 0)), (0, .inr (.inr (some 169)))]) (by intro x hx; simp only [List.mem_cons, List.not_mem_nil, or_false] at hx ⊢; rcases hx with rfl | rfl <;> simp [nI]) ?_
    refine rp_ahO (H0 := H) (od := od) (hp := hp) hb hx hl ho (fun H1 z1 z2 => Or.inl ⟨H1, rfl, z1, cap, ((wfr.rf (Fi := [19, 20, 21]) (Fr := [26])).tr z2).wk (fun _ z => z) (fun _ z => z) (by omega) (by omega)⟩) (fun hs H1 z1 z2 z3 => ?_) (D.pr 0).length 0 (fun i => mu_i H hp i) _ (Nat.zero_add _) ⟨hr, ⟨a1.le (by omega), fun _ _ => rfl⟩, a3, a4, wfr.rf, rfl⟩ (fun b hb => absurd hb (Nat.not_lt_zero _)) (fun b hb => absurd hb (Nat.not_lt_zero _))
    have hS := z2.all ho
    have eu : ∀ hs2, hsol D hs2 → ∀ t, t < (D.pr 0).length → hs2 t = hs t := fun hs2 w1 t ht => by
      obtain ⟨a, a1, a2⟩ := ho.2 t ht
      rw [← a2]
      exact z2.uni ho hx hl hb (Nat.le_refl _) w1 a a1
    refine rp_ahP (H0 := H) hb hal (fun H2 y1 y2 => Or.inl ⟨H2, rfl, fun hs2 w1 w2 => y1 (fun j hj k hk => ?_), cap, ((wfr.rf (Fi := [19, 20, 21]) (Fr := [26])).tr y2).wk (fun _ z => z) (fun _ z => z) (by omega) (by omega)⟩) (fun H2 y1 y2 => Or.inr ⟨_, H2, rfl, rfl, ⟨hs, hS, z3, y2⟩, cap, hp, y1.2.1.1.up (Nat.le_of_eq ((hah.len y1).trans a2).symm), (hah.len y1).trans a2, by omega, ((wfr.rf (Fi := [19, 20, 21]) (Fr := [26])).tr y1.2.2.2.2.1).wk (fun _ z => z) (fun _ z => z) (by omega) (by omega)⟩) D.n 0 _ (Nat.zero_add _) z1 (fun i hi => absurd hi (Nat.not_lt_zero _))
    have hp := ((hr.ins hj).2.2.2.2.2.2.2.1.2 k hk : ptw (nth (D.md j).2.2 k))
    have q := w2.2 j hj k hk
    exact ⟨fun ka => by rw [← hgc_cg hb hj (eu hs2 w1) (ptw_c hp ka)]; exact q.1 ka, fun ka k3 k4 => by rw [← hgt_cg hb hj (ptw_e hp ka k3) (fun t ht => eu hs2 w1 t (by obtain ⟨_, z⟩ := ht; exact usz_lt z))]; exact q.2 ka k3 k4⟩
