/-! The reference: sort whole -/
set_option maxRecDepth 8000 in
theorem rp_sr4B {Hb H0 H : mu_H} {D : MD} {j l d q y k m : Nat} {wh pl cm pg al og : Int32} {f : Nat → Option Int32} {R E : Option Int32} (hr : rms Hb D H) (hf : ffr 0 H0 H) (kb : k < 2 ^ 30) (hy : mu_TE 2 (mu_D (d + 2 * l + 9)) 467 [.inr (.inr (some 169)), .inr (.inr (some y)), .inr (.inr (some (D.ip j))), .inl wh, .inl pg] H (fun H1 => E = none ∧ ffr 1 H H1) (fun v H1 => ∃ x, v = some (.inl x) ∧ E = some x ∧ ffr 0 H H1)) (hRn : E = none → R = none) (hRs : ∀ s, E = some s → (if s = (if al = 0 then cm else if k = 0 then s else cm) then gnl f al m (k + 1) (if al = 0 then cm else if k = 0 then s else cm) else none) = R) (hnx : ∀ cm H1, rms Hb D H1 → ffr 0 H0 H1 → gnl f al m (k + 1) cm = R → mu_W (mu_D (d + 2 * l + 9)) mu_m467 (321, [(8, .inl (nI (k + 1))), (7, .inl cm), (6, .inl og), (5, .inl al), (0, .inr (.inr (some 169))), (1, .inr (.inr (some q))), (2, .inr (.inr (some (D.ip j)))), (3, .inl wh), (4, .inl pl)], [], H1) (fun r => (∃ H1, r = (.inr 2, H1) ∧ R = none ∧ ffr 1 H0 H1) ∨ ∃ v H1, r = (.inl v, H1) ∧ ∃ x, v = some (.inl x) ∧ R = some x ∧ ffr 0 H0 H1)) : mu_W (mu_D (d + 2 * l + 9)) mu_m467 (360, [(8, .inl (nI k)), (7, .inl cm), (6, .inl og), (5, .inl al), (0, .inr (.inr (some 169))), (1, .inr (.inr (some q))), (2, .inr (.inr (some (D.ip j)))), (3, .inl wh), (4, .inl pl)], [.inl pg, .inl wh, .inr (.inr (some (D.ip j))), .inr (.inr (some y)), .inr (.inr (some 169))], H) (fun r => (∃ H1, r = (.inr 2, H1) ∧ R = none ∧ ffr 1 H0 H1) ∨ ∃ v H1, r = (.inl v, H1) ∧ ∃ x, v = some (.inl x) ∧ R = some x ∧ ffr 0 H0 H1) := by
  refine mw_cE (as := [.inr (.inr (some y)), .inr (.inr (some (D.ip j))), .inl wh, .inl pg]) (o := (some 169)) (S1 := []) rfl rfl rfl rfl (Nat.le_of_ble_eq_true rfl) (by decide) (show mu_is H (some 169) 1 from hr.2.2.1.1) rfl (by decide) hy (fun E9 e9 => Or.inl ⟨_, rfl, hRn e9.1, (hf.tr e9.2).wk (by decide)⟩) (fun v9 H1 e9 => ?_)
  obtain ⟨s, rfl, p1, p2⟩ := e9
  show mu_W _ mu_m467 (363, [(8, .inl (nI k)), (7, .inl cm), (6, .inl og), (5, .inl al), (0, .inr (.inr (some 169))), (1, .inr (.inr (some q))), (2, .inr (.inr (some (D.ip j)))), (3, .inl wh), (4, .inl pl)], [.inl s], H1) _
  have hR := hRs s p1
  have hr2 := p2.rms hr
  refine mw_go mu_g467 (k := 2) (f1 := (367, [(9, .inl s), (8, .inl (nI k)), (7, .inl cm), (6, .inl og), (5, .inl al), (0, .inr (.inr (some 169))), (1, .inr (.inr (some q))), (2, .inr (.inr (some (D.ip j)))), (3, .inl wh), (4, .inl pl)], [.inl al], H1)) (C := []) rfl trivial ?_
  refine mw_if (P := al = 0) (a := 379) (b := 370) (fun _ => rfl) trivial (fun h1 => ?_) (fun h1 => ?_)
  · -- 379
    rw [show (if al = 0 then cm else if k = 0 then s else cm) = cm from if_pos h1] at hR
    refine mw_go mu_g467 (k := 3) (f1 := (384, [(9, .inl s), (8, .inl (nI k)), (7, .inl cm), (6, .inl og), (5, .inl al), (0, .inr (.inr (some 169))), (1, .inr (.inr (some q))), (2, .inr (.inr (some (D.ip j)))), (3, .inl wh), (4, .inl pl)], [.inl cm, .inl s, .inr (.inr (some 169))], H1)) (C := []) rfl trivial ?_
    refine mw_if (P := s = cm) (a := 387) (b := 391) (fun _ => rfl) trivial (fun h9 => ?_) (fun h9 => ?_)
    · -- 387
      rw [if_pos h9] at hR
      refine mw_go mu_g467 (k := 2) (f1 := (392, [(9, .inl s), (8, .inl (nI k)), (7, .inl cm), (6, .inl og), (5, .inl al), (0, .inr (.inr (some 169))), (1, .inr (.inr (some q))), (2, .inr (.inr (some (D.ip j)))), (3, .inl wh), (4, .inl pl)], [.inl (1 : Int32), .inr (.inr (some 169))], H1)) (C := []) rfl trivial ?_
      refine mw_cE (as := [.inl (1 : Int32)]) (o := some 169) (S1 := []) rfl rfl rfl rfl (Nat.le_of_ble_eq_true rfl) (by decide) hr2.2.2.1.1 rfl (by decide) (rp_sound (x := 1)) (fun H9 e9 => absurd e9.1 (by decide)) (fun v9 H9 e9 => ?_)
      obtain ⟨_, rfl, e9⟩ := e9
      rw [e9]
      clear e9 H9
      show mu_W _ mu_m467 (395, [(9, .inl s), (8, .inl (nI k)), (7, .inl cm), (6, .inl og), (5, .inl al), (0, .inr (.inr (some 169))), (1, .inr (.inr (some q))), (2, .inr (.inr (some (D.ip j)))), (3, .inl wh), (4, .inl pl)], [], H1) _
      refine mw_go mu_g467 (k := 2) (f1 := (321, [(8, .inl ((nI k) + 1)), (9, .inl s), (7, .inl cm), (6, .inl og), (5, .inl al), (0, .inr (.inr (some 169))), (1, .inr (.inr (some q))), (2, .inr (.inr (some (D.ip j)))), (3, .inl wh), (4, .inl pl)], [], H1)) (C := []) rfl trivial ?_
      refine mw_sub (L' := [(8, .inl (nI (k + 1))), (7, .inl cm), (6, .inl og), (5, .inl al), (0, .inr (.inr (some 169))), (1, .inr (.inr (some q))), (2, .inr (.inr (some (D.ip j)))), (3, .inl wh), (4, .inl pl)]) (by intro x hx; simp only [List.mem_cons, List.not_mem_nil, or_false] at hx ⊢; rcases hx with rfl | rfl | rfl | rfl | rfl | rfl | rfl | rfl | rfl <;> first | (simp [nI_add, show (1 : Int32) = nI 1 from rfl]; done) | simp [nI]) ?_
      exact hnx _ _ hr2 (hf.tr p2) hR
    · -- 391
      rw [if_neg h9] at hR
      refine mw_go mu_g467 (k := 1) (f1 := (392, [(9, .inl s), (8, .inl (nI k)), (7, .inl cm), (6, .inl og), (5, .inl al), (0, .inr (.inr (some 169))), (1, .inr (.inr (some q))), (2, .inr (.inr (some (D.ip j)))), (3, .inl wh), (4, .inl pl)], [.inl (0 : Int32), .inr (.inr (some 169))], H1)) (C := []) rfl trivial ?_
      exact mw_cE (as := [.inl (0 : Int32)]) (o := some 169) (S1 := []) rfl rfl rfl rfl (Nat.le_of_ble_eq_true rfl) (by decide) hr2.2.2.1.1 rfl (by decide) (rp_sound (x := 0)) (fun H9 e9 => by rw [e9.2]; exact Or.inl ⟨_, rfl, hR.symm, (hf.tr p2).ex⟩) (fun v9 H9 e9 => absurd rfl e9.1)
  · -- 370
    refine mw_go mu_g467 (k := 1) (f1 := (372, [(9, .inl s), (8, .inl (nI k)), (7, .inl cm), (6, .inl og), (5, .inl al), (0, .inr (.inr (some 169))), (1, .inr (.inr (some q))), (2, .inr (.inr (some (D.ip j)))), (3, .inl wh), (4, .inl pl)], [.inl (nI k)], H1)) (C := []) rfl trivial ?_
    refine mw_if (P := (nI k) = 0) (a := 375) (b := 379) (fun _ => rfl) trivial (fun h2 => ?_) (fun h2 => ?_)
    · -- 375
      have kz : k = 0 := nI_is (x := (0 : Int32)) (by omega) h2 (by decide)
      rw [show (if al = 0 then cm else if k = 0 then s else cm) = s from by rw [if_neg h1, if_pos kz]] at hR
      refine mw_go mu_g467 (k := 5) (f1 := (384, [(7, .inl s), (9, .inl s), (8, .inl (nI k)), (6, .inl og), (5, .inl al), (0, .inr (.inr (some 169))), (1, .inr (.inr (some q))), (2, .inr (.inr (some (D.ip j)))), (3, .inl wh), (4, .inl pl)], [.inl s, .inl s, .inr (.inr (some 169))], H1)) (C := []) rfl trivial ?_
      refine mw_if (P := s = s) (a := 387) (b := 391) (fun _ => rfl) trivial (fun h9 => ?_) (fun h9 => ?_)
      · -- 387
        rw [if_pos h9] at hR
        refine mw_go mu_g467 (k := 2) (f1 := (392, [(7, .inl s), (9, .inl s), (8, .inl (nI k)), (6, .inl og), (5, .inl al), (0, .inr (.inr (some 169))), (1, .inr (.inr (some q))), (2, .inr (.inr (some (D.ip j)))), (3, .inl wh), (4, .inl pl)], [.inl (1 : Int32), .inr (.inr (some 169))], H1)) (C := []) rfl trivial ?_
        refine mw_cE (as := [.inl (1 : Int32)]) (o := some 169) (S1 := []) rfl rfl rfl rfl (Nat.le_of_ble_eq_true rfl) (by decide) hr2.2.2.1.1 rfl (by decide) (rp_sound (x := 1)) (fun H9 e9 => absurd e9.1 (by decide)) (fun v9 H9 e9 => ?_)
        obtain ⟨_, rfl, e9⟩ := e9
        rw [e9]
        clear e9 H9
        show mu_W _ mu_m467 (395, [(7, .inl s), (9, .inl s), (8, .inl (nI k)), (6, .inl og), (5, .inl al), (0, .inr (.inr (some 169))), (1, .inr (.inr (some q))), (2, .inr (.inr (some (D.ip j)))), (3, .inl wh), (4, .inl pl)], [], H1) _
        refine mw_go mu_g467 (k := 2) (f1 := (321, [(8, .inl ((nI k) + 1)), (7, .inl s), (9, .inl s), (6, .inl og), (5, .inl al), (0, .inr (.inr (some 169))), (1, .inr (.inr (some q))), (2, .inr (.inr (some (D.ip j)))), (3, .inl wh), (4, .inl pl)], [], H1)) (C := []) rfl trivial ?_
        refine mw_sub (L' := [(8, .inl (nI (k + 1))), (7, .inl s), (6, .inl og), (5, .inl al), (0, .inr (.inr (some 169))), (1, .inr (.inr (some q))), (2, .inr (.inr (some (D.ip j)))), (3, .inl wh), (4, .inl pl)]) (by intro x hx; simp only [List.mem_cons, List.not_mem_nil, or_false] at hx ⊢; rcases hx with rfl | rfl | rfl | rfl | rfl | rfl | rfl | rfl | rfl <;> first | (simp [nI_add, show (1 : Int32) = nI 1 from rfl]; done) | simp [nI]) ?_
        exact hnx _ _ hr2 (hf.tr p2) hR
      · -- 391
        rw [if_neg h9] at hR
        refine mw_go mu_g467 (k := 1) (f1 := (392, [(7, .inl s), (9, .inl s), (8, .inl (nI k)), (6, .inl og), (5, .inl al), (0, .inr (.inr (some 169))), (1, .inr (.inr (some q))), (2, .inr (.inr (some (D.ip j)))), (3, .inl wh), (4, .inl pl)], [.inl (0 : Int32), .inr (.inr (some 169))], H1)) (C := []) rfl trivial ?_
        exact mw_cE (as := [.inl (0 : Int32)]) (o := some 169) (S1 := []) rfl rfl rfl rfl (Nat.le_of_ble_eq_true rfl) (by decide) hr2.2.2.1.1 rfl (by decide) (rp_sound (x := 0)) (fun H9 e9 => by rw [e9.2]; exact Or.inl ⟨_, rfl, hR.symm, (hf.tr p2).ex⟩) (fun v9 H9 e9 => absurd rfl e9.1)
    · -- 379
      have kz : ¬ k = 0 := fun z => h2 (by rw [z]; rfl)
      rw [show (if al = 0 then cm else if k = 0 then s else cm) = cm from by rw [if_neg h1, if_neg kz]] at hR
      refine mw_go mu_g467 (k := 3) (f1 := (384, [(9, .inl s), (8, .inl (nI k)), (7, .inl cm), (6, .inl og), (5, .inl al), (0, .inr (.inr (some 169))), (1, .inr (.inr (some q))), (2, .inr (.inr (some (D.ip j)))), (3, .inl wh), (4, .inl pl)], [.inl cm, .inl s, .inr (.inr (some 169))], H1)) (C := []) rfl trivial ?_
      refine mw_if (P := s = cm) (a := 387) (b := 391) (fun _ => rfl) trivial (fun h9 => ?_) (fun h9 => ?_)
      · -- 387
        rw [if_pos h9] at hR
        refine mw_go mu_g467 (k := 2) (f1 := (392, [(9, .inl s), (8, .inl (nI k)), (7, .inl cm), (6, .inl og), (5, .inl al), (0, .inr (.inr (some 169))), (1, .inr (.inr (some q))), (2, .inr (.inr (some (D.ip j)))), (3, .inl wh), (4, .inl pl)], [.inl (1 : Int32), .inr (.inr (some 169))], H1)) (C := []) rfl trivial ?_
        refine mw_cE (as := [.inl (1 : Int32)]) (o := some 169) (S1 := []) rfl rfl rfl rfl (Nat.le_of_ble_eq_true rfl) (by decide) hr2.2.2.1.1 rfl (by decide) (rp_sound (x := 1)) (fun H9 e9 => absurd e9.1 (by decide)) (fun v9 H9 e9 => ?_)
        obtain ⟨_, rfl, e9⟩ := e9
        rw [e9]
        clear e9 H9
        show mu_W _ mu_m467 (395, [(9, .inl s), (8, .inl (nI k)), (7, .inl cm), (6, .inl og), (5, .inl al), (0, .inr (.inr (some 169))), (1, .inr (.inr (some q))), (2, .inr (.inr (some (D.ip j)))), (3, .inl wh), (4, .inl pl)], [], H1) _
        refine mw_go mu_g467 (k := 2) (f1 := (321, [(8, .inl ((nI k) + 1)), (9, .inl s), (7, .inl cm), (6, .inl og), (5, .inl al), (0, .inr (.inr (some 169))), (1, .inr (.inr (some q))), (2, .inr (.inr (some (D.ip j)))), (3, .inl wh), (4, .inl pl)], [], H1)) (C := []) rfl trivial ?_
        refine mw_sub (L' := [(8, .inl (nI (k + 1))), (7, .inl cm), (6, .inl og), (5, .inl al), (0, .inr (.inr (some 169))), (1, .inr (.inr (some q))), (2, .inr (.inr (some (D.ip j)))), (3, .inl wh), (4, .inl pl)]) (by intro x hx; simp only [List.mem_cons, List.not_mem_nil, or_false] at hx ⊢; rcases hx with rfl | rfl | rfl | rfl | rfl | rfl | rfl | rfl | rfl <;> first | (simp [nI_add, show (1 : Int32) = nI 1 from rfl]; done) | simp [nI]) ?_
        exact hnx _ _ hr2 (hf.tr p2) hR
      · -- 391
        rw [if_neg h9] at hR
        refine mw_go mu_g467 (k := 1) (f1 := (392, [(9, .inl s), (8, .inl (nI k)), (7, .inl cm), (6, .inl og), (5, .inl al), (0, .inr (.inr (some 169))), (1, .inr (.inr (some q))), (2, .inr (.inr (some (D.ip j)))), (3, .inl wh), (4, .inl pl)], [.inl (0 : Int32), .inr (.inr (some 169))], H1)) (C := []) rfl trivial ?_
        exact mw_cE (as := [.inl (0 : Int32)]) (o := some 169) (S1 := []) rfl rfl rfl rfl (Nat.le_of_ble_eq_true rfl) (by decide) hr2.2.2.1.1 rfl (by decide) (rp_sound (x := 0)) (fun H9 e9 => by rw [e9.2]; exact Or.inl ⟨_, rfl, hR.symm, (hf.tr p2).ex⟩) (fun v9 H9 e9 => absurd rfl e9.1)
set_option maxRecDepth 8000 in
theorem rp_sr4 {Hb H0 : mu_H} {D : MD} {sp : Nat} {ss : Nat → Int32} {j l d dd q : Nat} {wh pl : Int32} {c : Tre} {R : Option Int32} (hh : sts H0 D sp ss) (hn : nd Hb D.G dd q c) (hx : exw (l + 1) c) (hk : nmk D j c) (ih : srk Hb D sp ss j wh l) (h66 : ¬ tkd c = 66) : ∀ m_ k cm H, k + m_ = tsn c → rms Hb D H → ffr 0 H0 H → gnl (fun k => srt D j ss wh l (if pl = 0 ∧ ¬ tkd c ∈ [21, 5, 50] ∧ ¬ tkd c ∈ [22, 6, 23, 7] then 0 else 1) (tkk c k)) (if tkd c ∈ [21, 5, 50] then (1 : Int32) else 0) m_ k cm = R → mu_W (mu_D (d + 2 * l + 9)) mu_m467 (321, [(8, .inl (nI k)), (7, .inl cm), (6, .inl (if tkd c ∈ [22, 6, 23, 7] then (1 : Int32) else 0)), (5, .inl (if tkd c ∈ [21, 5, 50] then (1 : Int32) else 0)), (0, .inr (.inr (some 169))), (1, .inr (.inr (some q))), (2, .inr (.inr (some (D.ip j)))), (3, .inl wh), (4, .inl pl)], [], H) (fun r => (∃ H1, r = (.inr 2, H1) ∧ R = none ∧ ffr 1 H0 H1) ∨ ∃ v H1, r = (.inl v, H1) ∧ ∃ x, v = some (.inl x) ∧ R = some x ∧ ffr 0 H0 H1)
  | 0, k, cm, H, hm_, hr, hf, hR => by
    obtain ⟨kd1, ⟨is1, nF1, lt1⟩, ⟨st1, sr1, sf1⟩, ⟨n2_1, n3_1, n7_1⟩, nm1, ar1, aq1, aF1, ai1, ⟨al1, am1, ax1⟩, ch1, dp1⟩ := nd.ra (c := c) hn hr.2.1
    have hl := hn.s26
    refine mw_go mu_g467 (k := 3) (f1 := (327, [(8, .inl (nI k)), (7, .inl cm), (6, .inl (if tkd c ∈ [22, 6, 23, 7] then (1 : Int32) else 0)), (5, .inl (if tkd c ∈ [21, 5, 50] then (1 : Int32) else 0)), (0, .inr (.inr (some 169))), (1, .inr (.inr (some q))), (2, .inr (.inr (some (D.ip j)))), (3, .inl wh), (4, .inl pl)], [.inl (mu_i H q 2), .inl (nI k)], H)) (C := [mu_is H (some q) 18]) rfl (show mu_is H (some q) 18 from is1) ?_
    refine mw_fr (f' := (327, [(8, .inl (nI k)), (7, .inl cm), (6, .inl (if tkd c ∈ [22, 6, 23, 7] then (1 : Int32) else 0)), (5, .inl (if tkd c ∈ [21, 5, 50] then (1 : Int32) else 0)), (0, .inr (.inr (some 169))), (1, .inr (.inr (some q))), (2, .inr (.inr (some (D.ip j)))), (3, .inl wh), (4, .inl pl)], [.inl (nI (tsn c)), .inl (nI k)], H)) (by first | (rw [n2_1]; done) | (rw [n2_1]; rfl)) ?_
    refine mw_if (P := (nI k) < (nI (tsn c))) (a := 330) (b := 401) (fun _ => rfl) trivial (fun h1 => absurd h1 (by rw [show k = tsn c by omega]; exact Int32.lt_irrefl)) (fun h1 => ?_)
    refine mw_go mu_g467 (k := 1) (f1 := (402, [(8, .inl (nI k)), (7, .inl cm), (6, .inl (if tkd c ∈ [22, 6, 23, 7] then (1 : Int32) else 0)), (5, .inl (if tkd c ∈ [21, 5, 50] then (1 : Int32) else 0)), (0, .inr (.inr (some 169))), (1, .inr (.inr (some q))), (2, .inr (.inr (some (D.ip j)))), (3, .inl wh), (4, .inl pl)], [.inl (1 : Int32)], H)) (C := []) rfl trivial ?_
    exact mw_of (fun _ => mu_ret rfl trivial (Or.inr ⟨_, _, rfl, _, rfl, hR.symm, hf⟩))
  | m_ + 1, k, cm, H, hm_, hr, hf, hR => by
    obtain ⟨kd1, ⟨is1, nF1, lt1⟩, ⟨st1, sr1, sf1⟩, ⟨n2_1, n3_1, n7_1⟩, nm1, ar1, aq1, aF1, ai1, ⟨al1, am1, ax1⟩, ch1, dp1⟩ := nd.ra (c := c) hn hr.2.1
    have hl := hn.s26
    have kt : k < tsn c := by omega
    have el : lkp c k = tkk c k := if_neg (fun z => h66 z.1)
    have xk : exw l (tkk c k) := by rw [← el]; exact (hx.lk kt).1
    have pk : (if pl = 0 ∧ ¬ tkd c ∈ [21, 5, 50] ∧ ¬ tkd c ∈ [22, 6, 23, 7] then (0 : Int32) else 1) = 0 ∨ (if pl = 0 ∧ ¬ tkd c ∈ [21, 5, 50] ∧ ¬ tkd c ∈ [22, 6, 23, 7] then (0 : Int32) else 1) = 1 := by
      by_cases e : pl = 0 ∧ ¬ tkd c ∈ [21, 5, 50] ∧ ¬ tkd c ∈ [22, 6, 23, 7]
      · rw [if_pos e]; exact Or.inl rfl
      · rw [if_neg e]; exact Or.inr rfl
    rw [gnl] at hR
    refine mw_go mu_g467 (k := 3) (f1 := (327, [(8, .inl (nI k)), (7, .inl cm), (6, .inl (if tkd c ∈ [22, 6, 23, 7] then (1 : Int32) else 0)), (5, .inl (if tkd c ∈ [21, 5, 50] then (1 : Int32) else 0)), (0, .inr (.inr (some 169))), (1, .inr (.inr (some q))), (2, .inr (.inr (some (D.ip j)))), (3, .inl wh), (4, .inl pl)], [.inl (mu_i H q 2), .inl (nI k)], H)) (C := [mu_is H (some q) 18]) rfl (show mu_is H (some q) 18 from is1) ?_
    refine mw_fr (f' := (327, [(8, .inl (nI k)), (7, .inl cm), (6, .inl (if tkd c ∈ [22, 6, 23, 7] then (1 : Int32) else 0)), (5, .inl (if tkd c ∈ [21, 5, 50] then (1 : Int32) else 0)), (0, .inr (.inr (some 169))), (1, .inr (.inr (some q))), (2, .inr (.inr (some (D.ip j)))), (3, .inl wh), (4, .inl pl)], [.inl (nI (tsn c)), .inl (nI k)], H)) (by first | (rw [n2_1]; done) | (rw [n2_1]; rfl)) ?_
    refine mw_if (P := (nI k) < (nI (tsn c))) (a := 330) (b := 401) (fun _ => rfl) trivial (fun h1 => ?_) (fun h1 => absurd (nI_lt kt (by omega)) h1)
    obtain ⟨y, yr2, yn2⟩ := ch1 k kt
    have yn2 : nd Hb D.G (dd - 1) y (tkk c k) := yn2
    obtain ⟨b1_2, b2_2, b3_2, b4_2⟩ := ar_at ai1 (by decide) (Nat.lt_of_lt_of_le kt al1) (Nat.lt_of_le_of_lt ax1 (by decide))
    have y2_2 : mu_r H ar1 (nI k).toNatClampNeg = some y := by rw [b4_2]; exact yr2
    refine mw_go mu_g467 (k := 3) (f1 := (335, [(8, .inl (nI k)), (7, .inl cm), (6, .inl (if tkd c ∈ [22, 6, 23, 7] then (1 : Int32) else 0)), (5, .inl (if tkd c ∈ [21, 5, 50] then (1 : Int32) else 0)), (0, .inr (.inr (some 169))), (1, .inr (.inr (some q))), (2, .inr (.inr (some (D.ip j)))), (3, .inl wh), (4, .inl pl)], [.inr (.inr (mu_r H q 1)), .inr (.inr (some 169))], H)) (C := [mu_is H (some q) 18]) rfl (show mu_is H (some q) 18 from is1) ?_
    refine mw_fr (f' := (335, [(8, .inl (nI k)), (7, .inl cm), (6, .inl (if tkd c ∈ [22, 6, 23, 7] then (1 : Int32) else 0)), (5, .inl (if tkd c ∈ [21, 5, 50] then (1 : Int32) else 0)), (0, .inr (.inr (some 169))), (1, .inr (.inr (some q))), (2, .inr (.inr (some (D.ip j)))), (3, .inl wh), (4, .inl pl)], [.inr (.inr (some ar1)), .inr (.inr (some 169))], H)) (by first | (rw [aq1]; done) | (rw [aq1]; rfl)) ?_
    refine mw_go mu_g467 (k := 2) (f1 := (338, [(8, .inl (nI k)), (7, .inl cm), (6, .inl (if tkd c ∈ [22, 6, 23, 7] then (1 : Int32) else 0)), (5, .inl (if tkd c ∈ [21, 5, 50] then (1 : Int32) else 0)), (0, .inr (.inr (some 169))), (1, .inr (.inr (some q))), (2, .inr (.inr (some (D.ip j)))), (3, .inl wh), (4, .inl pl)], [.inr (.inr (mu_r H ar1 (nI k).toNatClampNeg)), .inr (.inr (some 169))], H)) (C := [mu_is H (some ar1) (mu_k H ar1), 103 ≤ mu_k H ar1 ∧ mu_k H ar1 ≤ 110 ∧ mu_k H ar1 ≠ 108, vp_in (nI k) (mu_n H ar1)]) rfl (show (mu_is H (some ar1) (mu_k H ar1)) ∧ (103 ≤ mu_k H ar1 ∧ mu_k H ar1 ≤ 110 ∧ mu_k H ar1 ≠ 108) ∧ (vp_in (nI k) (mu_n H ar1)) from ⟨b1_2, b2_2, b3_2⟩) ?_
    refine mw_fr (f' := (338, [(8, .inl (nI k)), (7, .inl cm), (6, .inl (if tkd c ∈ [22, 6, 23, 7] then (1 : Int32) else 0)), (5, .inl (if tkd c ∈ [21, 5, 50] then (1 : Int32) else 0)), (0, .inr (.inr (some 169))), (1, .inr (.inr (some q))), (2, .inr (.inr (some (D.ip j)))), (3, .inl wh), (4, .inl pl)], [.inr (.inr (some y)), .inr (.inr (some 169))], H)) (by first | (rw [y2_2]; done) | (rw [y2_2]; rfl)) ?_
    refine mw_go mu_g467 (k := 3) (f1 := (342, [(8, .inl (nI k)), (7, .inl cm), (6, .inl (if tkd c ∈ [22, 6, 23, 7] then (1 : Int32) else 0)), (5, .inl (if tkd c ∈ [21, 5, 50] then (1 : Int32) else 0)), (0, .inr (.inr (some 169))), (1, .inr (.inr (some q))), (2, .inr (.inr (some (D.ip j)))), (3, .inl wh), (4, .inl pl)], [.inl pl, .inl wh, .inr (.inr (some (D.ip j))), .inr (.inr (some y)), .inr (.inr (some 169))], H)) (C := []) rfl trivial ?_
    refine mw_if (P := pl = 0) (a := 345) (b := 355) (fun _ => rfl) trivial (fun h2 => ?_) (fun h2 => ?_)
    · -- 345
      refine mw_go mu_g467 (k := 1) (f1 := (347, [(8, .inl (nI k)), (7, .inl cm), (6, .inl (if tkd c ∈ [22, 6, 23, 7] then (1 : Int32) else 0)), (5, .inl (if tkd c ∈ [21, 5, 50] then (1 : Int32) else 0)), (0, .inr (.inr (some 169))), (1, .inr (.inr (some q))), (2, .inr (.inr (some (D.ip j)))), (3, .inl wh), (4, .inl pl)], [.inl (if tkd c ∈ [21, 5, 50] then (1 : Int32) else 0), .inl wh, .inr (.inr (some (D.ip j))), .inr (.inr (some y)), .inr (.inr (some 169))], H)) (C := []) rfl trivial ?_
      refine mw_if (P := (if tkd c ∈ [21, 5, 50] then (1 : Int32) else 0) = 0) (a := 350) (b := 355) (fun _ => rfl) trivial (fun h3 => ?_) (fun h3 => ?_)
      · -- 350
        refine mw_go mu_g467 (k := 1) (f1 := (352, [(8, .inl (nI k)), (7, .inl cm), (6, .inl (if tkd c ∈ [22, 6, 23, 7] then (1 : Int32) else 0)), (5, .inl (if tkd c ∈ [21, 5, 50] then (1 : Int32) else 0)), (0, .inr (.inr (some 169))), (1, .inr (.inr (some q))), (2, .inr (.inr (some (D.ip j)))), (3, .inl wh), (4, .inl pl)], [.inl (if tkd c ∈ [22, 6, 23, 7] then (1 : Int32) else 0), .inl wh, .inr (.inr (some (D.ip j))), .inr (.inr (some y)), .inr (.inr (some 169))], H)) (C := []) rfl trivial ?_
        refine mw_if (P := (if tkd c ∈ [22, 6, 23, 7] then (1 : Int32) else 0) = 0) (a := 359) (b := 355) (fun _ => rfl) trivial (fun h4 => ?_) (fun h4 => ?_)
        · -- 359
          refine mw_go mu_g467 (k := 1) (f1 := (360, [(8, .inl (nI k)), (7, .inl cm), (6, .inl (if tkd c ∈ [22, 6, 23, 7] then (1 : Int32) else 0)), (5, .inl (if tkd c ∈ [21, 5, 50] then (1 : Int32) else 0)), (0, .inr (.inr (some 169))), (1, .inr (.inr (some q))), (2, .inr (.inr (some (D.ip j)))), (3, .inl wh), (4, .inl pl)], [.inl (0 : Int32), .inl wh, .inr (.inr (some (D.ip j))), .inr (.inr (some y)), .inr (.inr (some 169))], H)) (C := []) rfl trivial ?_
          have ep : (if pl = 0 ∧ ¬ tkd c ∈ [21, 5, 50] ∧ ¬ tkd c ∈ [22, 6, 23, 7] then (0 : Int32) else 1) = 0 := if_pos ⟨h2, fun z => (by rw [if_pos z] at h3; exact absurd h3 (by decide)), fun z => (by rw [if_pos z] at h4; exact absurd h4 (by decide))⟩
          refine mw_fr (f' := (360, [(8, .inl (nI k)), (7, .inl cm), (6, .inl (if tkd c ∈ [22, 6, 23, 7] then (1 : Int32) else 0)), (5, .inl (if tkd c ∈ [21, 5, 50] then (1 : Int32) else 0)), (0, .inr (.inr (some 169))), (1, .inr (.inr (some q))), (2, .inr (.inr (some (D.ip j)))), (3, .inl wh), (4, .inl pl)], [.inl (if pl = 0 ∧ ¬ tkd c ∈ [21, 5, 50] ∧ ¬ tkd c ∈ [22, 6, 23, 7] then (0 : Int32) else 1), .inl wh, .inr (.inr (some (D.ip j))), .inr (.inr (some y)), .inr (.inr (some 169))], H)) (by rw [ep]) ?_
          refine rp_sr4B (E := srt D j ss wh l (if pl = 0 ∧ ¬ tkd c ∈ [21, 5, 50] ∧ ¬ tkd c ∈ [22, 6, 23, 7] then (0 : Int32) else 1) (tkk c k)) hr hf (by omega) (mu_Dc (show d + 1 + 2 * l + 8 = d + 2 * l + 9 by omega) (ih (d + 1) y (tkk c k) H (dd - 1) _ pk hr (hh.ff hf) yn2 xk (hk.k kt))) (fun e => by rw [e] at hR; exact hR.symm) (fun s e => by rw [e] at hR; exact hR) (fun cm H1 r1 f1 z1 => rp_sr4 hh hn hx hk ih h66 m_ (k + 1) _ _ (by omega) r1 f1 z1)
        · -- 355
          refine mw_go mu_g467 (k := 2) (f1 := (360, [(8, .inl (nI k)), (7, .inl cm), (6, .inl (if tkd c ∈ [22, 6, 23, 7] then (1 : Int32) else 0)), (5, .inl (if tkd c ∈ [21, 5, 50] then (1 : Int32) else 0)), (0, .inr (.inr (some 169))), (1, .inr (.inr (some q))), (2, .inr (.inr (some (D.ip j)))), (3, .inl wh), (4, .inl pl)], [.inl (1 : Int32), .inl wh, .inr (.inr (some (D.ip j))), .inr (.inr (some y)), .inr (.inr (some 169))], H)) (C := []) rfl trivial ?_
          have ep : (if pl = 0 ∧ ¬ tkd c ∈ [21, 5, 50] ∧ ¬ tkd c ∈ [22, 6, 23, 7] then (0 : Int32) else 1) = 1 := if_neg (fun z => h4 (if_neg z.2.2))
          refine mw_fr (f' := (360, [(8, .inl (nI k)), (7, .inl cm), (6, .inl (if tkd c ∈ [22, 6, 23, 7] then (1 : Int32) else 0)), (5, .inl (if tkd c ∈ [21, 5, 50] then (1 : Int32) else 0)), (0, .inr (.inr (some 169))), (1, .inr (.inr (some q))), (2, .inr (.inr (some (D.ip j)))), (3, .inl wh), (4, .inl pl)], [.inl (if pl = 0 ∧ ¬ tkd c ∈ [21, 5, 50] ∧ ¬ tkd c ∈ [22, 6, 23, 7] then (0 : Int32) else 1), .inl wh, .inr (.inr (some (D.ip j))), .inr (.inr (some y)), .inr (.inr (some 169))], H)) (by rw [ep]) ?_
          refine rp_sr4B (E := srt D j ss wh l (if pl = 0 ∧ ¬ tkd c ∈ [21, 5, 50] ∧ ¬ tkd c ∈ [22, 6, 23, 7] then (0 : Int32) else 1) (tkk c k)) hr hf (by omega) (mu_Dc (show d + 1 + 2 * l + 8 = d + 2 * l + 9 by omega) (ih (d + 1) y (tkk c k) H (dd - 1) _ pk hr (hh.ff hf) yn2 xk (hk.k kt))) (fun e => by rw [e] at hR; exact hR.symm) (fun s e => by rw [e] at hR; exact hR) (fun cm H1 r1 f1 z1 => rp_sr4 hh hn hx hk ih h66 m_ (k + 1) _ _ (by omega) r1 f1 z1)
      · -- 355
        refine mw_go mu_g467 (k := 2) (f1 := (360, [(8, .inl (nI k)), (7, .inl cm), (6, .inl (if tkd c ∈ [22, 6, 23, 7] then (1 : Int32) else 0)), (5, .inl (if tkd c ∈ [21, 5, 50] then (1 : Int32) else 0)), (0, .inr (.inr (some 169))), (1, .inr (.inr (some q))), (2, .inr (.inr (some (D.ip j)))), (3, .inl wh), (4, .inl pl)], [.inl (1 : Int32), .inl wh, .inr (.inr (some (D.ip j))), .inr (.inr (some y)), .inr (.inr (some 169))], H)) (C := []) rfl trivial ?_
        have ep : (if pl = 0 ∧ ¬ tkd c ∈ [21, 5, 50] ∧ ¬ tkd c ∈ [22, 6, 23, 7] then (0 : Int32) else 1) = 1 := if_neg (fun z => h3 (if_neg z.2.1))
        refine mw_fr (f' := (360, [(8, .inl (nI k)), (7, .inl cm), (6, .inl (if tkd c ∈ [22, 6, 23, 7] then (1 : Int32) else 0)), (5, .inl (if tkd c ∈ [21, 5, 50] then (1 : Int32) else 0)), (0, .inr (.inr (some 169))), (1, .inr (.inr (some q))), (2, .inr (.inr (some (D.ip j)))), (3, .inl wh), (4, .inl pl)], [.inl (if pl = 0 ∧ ¬ tkd c ∈ [21, 5, 50] ∧ ¬ tkd c ∈ [22, 6, 23, 7] then (0 : Int32) else 1), .inl wh, .inr (.inr (some (D.ip j))), .inr (.inr (some y)), .inr (.inr (some 169))], H)) (by rw [ep]) ?_
        refine rp_sr4B (E := srt D j ss wh l (if pl = 0 ∧ ¬ tkd c ∈ [21, 5, 50] ∧ ¬ tkd c ∈ [22, 6, 23, 7] then (0 : Int32) else 1) (tkk c k)) hr hf (by omega) (mu_Dc (show d + 1 + 2 * l + 8 = d + 2 * l + 9 by omega) (ih (d + 1) y (tkk c k) H (dd - 1) _ pk hr (hh.ff hf) yn2 xk (hk.k kt))) (fun e => by rw [e] at hR; exact hR.symm) (fun s e => by rw [e] at hR; exact hR) (fun cm H1 r1 f1 z1 => rp_sr4 hh hn hx hk ih h66 m_ (k + 1) _ _ (by omega) r1 f1 z1)
    · -- 355
      refine mw_go mu_g467 (k := 2) (f1 := (360, [(8, .inl (nI k)), (7, .inl cm), (6, .inl (if tkd c ∈ [22, 6, 23, 7] then (1 : Int32) else 0)), (5, .inl (if tkd c ∈ [21, 5, 50] then (1 : Int32) else 0)), (0, .inr (.inr (some 169))), (1, .inr (.inr (some q))), (2, .inr (.inr (some (D.ip j)))), (3, .inl wh), (4, .inl pl)], [.inl (1 : Int32), .inl wh, .inr (.inr (some (D.ip j))), .inr (.inr (some y)), .inr (.inr (some 169))], H)) (C := []) rfl trivial ?_
      have ep : (if pl = 0 ∧ ¬ tkd c ∈ [21, 5, 50] ∧ ¬ tkd c ∈ [22, 6, 23, 7] then (0 : Int32) else 1) = 1 := if_neg (fun z => h2 z.1)
      refine mw_fr (f' := (360, [(8, .inl (nI k)), (7, .inl cm), (6, .inl (if tkd c ∈ [22, 6, 23, 7] then (1 : Int32) else 0)), (5, .inl (if tkd c ∈ [21, 5, 50] then (1 : Int32) else 0)), (0, .inr (.inr (some 169))), (1, .inr (.inr (some q))), (2, .inr (.inr (some (D.ip j)))), (3, .inl wh), (4, .inl pl)], [.inl (if pl = 0 ∧ ¬ tkd c ∈ [21, 5, 50] ∧ ¬ tkd c ∈ [22, 6, 23, 7] then (0 : Int32) else 1), .inl wh, .inr (.inr (some (D.ip j))), .inr (.inr (some y)), .inr (.inr (some 169))], H)) (by rw [ep]) ?_
      refine rp_sr4B (E := srt D j ss wh l (if pl = 0 ∧ ¬ tkd c ∈ [21, 5, 50] ∧ ¬ tkd c ∈ [22, 6, 23, 7] then (0 : Int32) else 1) (tkk c k)) hr hf (by omega) (mu_Dc (show d + 1 + 2 * l + 8 = d + 2 * l + 9 by omega) (ih (d + 1) y (tkk c k) H (dd - 1) _ pk hr (hh.ff hf) yn2 xk (hk.k kt))) (fun e => by rw [e] at hR; exact hR.symm) (fun s e => by rw [e] at hR; exact hR) (fun cm H1 r1 f1 z1 => rp_sr4 hh hn hx hk ih h66 m_ (k + 1) _ _ (by omega) r1 f1 z1)
theorem rp_sort {Hb : mu_H} {D : MD} {sp : Nat} {ss : Nat → Int32} {j : Nat} {wh : Int32} (hb : mdb D) (hy : mdy D) (hj : j < D.n) : ∀ l, srk Hb D sp ss j wh l
  | 0 => fun _ _ _ _ _ _ _ _ _ _ hx _ => hx.elim
  | l + 1 => fun d q c H dd pl hp hr hh hn hx hk => by
    have ih := rp_sort (Hb := Hb) (sp := sp) (ss := ss) (wh := wh) hb hy hj l
    refine mu_meth (M := mu_m467) rfl rfl ?_
    refine mw_ht (mu_fn_of (show [0, 1, 2, 3, 4].Nodup by decide)) ?_
    refine mu_Wc (show d + 2 * l + 9 = d + 2 * (l + 1) + 7 by omega) ?_
    refine rp_sr1 hb hy hj hp hr hh hn hx hk rfl (fun h1 h2 h3 h4 => ?_)
    refine rp_sr2a hr hn (srt_2 h1 h2 h3 h4).symm (fun hR => ?_)
    refine rp_sr2b hr hh hn hx hk ih hR (fun h66 hR => ?_)
    refine rp_sr3a (d := d + 2 * l + 6) hr hn ?_
    refine rp_sr3b (d := d + 2 * l + 6) hr hn ?_
    exact rp_sr4 hh hn hx hk ih h66 (tsn c) 0 _ _ (Nat.zero_add _) hr ffr.rf hR
