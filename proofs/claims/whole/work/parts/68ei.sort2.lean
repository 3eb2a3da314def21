/-! The reference: sort, further kinds -/
def sr2 (D : MD) (j : Nat) (ss : Nat → Int32) (wh : Int32) (l : Nat) (pl : Int32) (c : Tre) : Option Int32 := if tkd c = 52 then csl (fun k => srt D j ss wh l 1 (tkk c k)) (tsn c) 0 0 else if tkd c = 66 then cnl (fun k => srt D j ss wh l (if pl = 0 then (if chs c = 2 then 1 else 0) else 1) (lkp c k)) (chs c) (tsn c) 0 else if tkd c = 65 then (match srt D j ss wh l 1 (tkk c 0) with
    | none => none
    | some s => if s = 2 then some 2 else none) else gnl (fun k => srt D j ss wh l (if pl = 0 ∧ ¬ tkd c ∈ [21, 5, 50] ∧ ¬ tkd c ∈ [22, 6, 23, 7] then 0 else 1) (tkk c k)) (if tkd c ∈ [21, 5, 50] then (1 : Int32) else 0) (tsn c) 0 (if tkd c ∈ [22, 6, 23, 7] then (2 : Int32) else 1)
theorem srt_2 {D : MD} {j : Nat} {ss : Nat → Int32} {wh : Int32} {l : Nat} {pl : Int32} {c : Tre} (h1 : ¬ tkd c = 63) (h2 : ¬ (tkd c = 54 ∨ tkd c = 55)) (h3 : ¬ tkd c = 64) (h4 : ¬ tkd c = 33) : srt D j ss wh (l + 1) pl c = if tkd c ∈ [41, 42, 43, 44, 45, 46, 47, 48] ∧ ¬ (wh = 2 ∧ pl = 0) then none else sr2 D j ss wh l pl c := by
  rw [srt, if_neg h1, if_neg h2, if_neg h3, if_neg h4]
  rfl
theorem rp_sr2a {X : Option Int32} {Hb H : mu_H} {D : MD} {j l d dd q : Nat} {wh pl : Int32} {c : Tre} {R : Option Int32} (hr : rms Hb D H) (hn : nd Hb D.G dd q c) (hR : (if tkd c ∈ [41, 42, 43, 44, 45, 46, 47, 48] ∧ ¬ (wh = 2 ∧ pl = 0) then none else X) = R) (hnx : X = R → mu_W (mu_D (d + 2 * l + 9)) mu_m467 (154, [(0, .inr (.inr (some 169))), (1, .inr (.inr (some q))), (2, .inr (.inr (some (D.ip j)))), (3, .inl wh), (4, .inl pl)], [], H) (fun r => (∃ H1, r = (.inr 2, H1) ∧ R = none ∧ ffr 1 H H1) ∨ ∃ v H1, r = (.inl v, H1) ∧ ∃ x, v = some (.inl x) ∧ R = some x ∧ ffr 0 H H1)) : mu_W (mu_D (d + 2 * l + 9)) mu_m467 (127, [(0, .inr (.inr (some 169))), (1, .inr (.inr (some q))), (2, .inr (.inr (some (D.ip j)))), (3, .inl wh), (4, .inl pl)], [], H) (fun r => (∃ H1, r = (.inr 2, H1) ∧ R = none ∧ ffr 1 H H1) ∨ ∃ v H1, r = (.inl v, H1) ∧ ∃ x, v = some (.inl x) ∧ R = some x ∧ ffr 0 H H1) := by
  obtain ⟨kd1, ⟨is1, nF1, lt1⟩, ⟨st1, sr1, sf1⟩, ⟨n2_1, n3_1, n7_1⟩, nm1, ar1, aq1, aF1, ai1, ⟨al1, am1, ax1⟩, ch1, dp1⟩ := nd.ra (c := c) hn hr.2.1
  refine mw_go mu_g467 (k := 2) (f1 := (129, [(0, .inr (.inr (some 169))), (1, .inr (.inr (some q))), (2, .inr (.inr (some (D.ip j)))), (3, .inl wh), (4, .inl pl)], [.inr (.inr (some q)), .inr (.inr (some 169))], H)) (C := []) rfl trivial ?_
  refine mw_cIe (fun _ => rfl) (show mu_is H (some 169) 1 from hr.2.2.1.1) (rq_temporal (d := d + 2 * l + 5) hn hr.2.1) ?_
  refine mw_if (P := (if tkd c ∈ [41, 42, 43, 44, 45, 46, 47, 48] then 1 else 0) = 0) (a := 154) (b := 135) (fun _ => rfl) trivial (fun h1 => ?_) (fun h1 => ?_)
  · -- 154
    have nt : ¬ tkd c ∈ [41, 42, 43, 44, 45, 46, 47, 48] := fun e => by rw [if_pos e] at h1; exact absurd h1 (by decide)
    rw [if_neg (fun z => nt z.1)] at hR
    exact hnx hR
  · -- 135
    have nt : tkd c ∈ [41, 42, 43, 44, 45, 46, 47, 48] := Decidable.byContradiction (fun e => h1 (if_neg e))
    refine mw_go mu_g467 (k := 3) (f1 := (138, [(0, .inr (.inr (some 169))), (1, .inr (.inr (some q))), (2, .inr (.inr (some (D.ip j)))), (3, .inl wh), (4, .inl pl)], [.inl (2 : Int32), .inl wh, .inr (.inr (some 169))], H)) (C := []) rfl trivial ?_
    refine mw_if (P := wh = (2 : Int32)) (a := 141) (b := 150) (fun _ => rfl) trivial (fun h2 => ?_) (fun h2 => ?_)
    · -- 141
      refine mw_go mu_g467 (k := 1) (f1 := (143, [(0, .inr (.inr (some 169))), (1, .inr (.inr (some q))), (2, .inr (.inr (some (D.ip j)))), (3, .inl wh), (4, .inl pl)], [.inl pl, .inr (.inr (some 169))], H)) (C := []) rfl trivial ?_
      refine mw_if (P := pl = 0) (a := 146) (b := 150) (fun _ => rfl) trivial (fun h3 => ?_) (fun h3 => ?_)
      · -- 146
        rw [if_neg (show ¬ (tkd c ∈ [41, 42, 43, 44, 45, 46, 47, 48] ∧ ¬ (wh = 2 ∧ pl = 0)) from fun z => z.2 ⟨h2, h3⟩)] at hR
        refine mw_go mu_g467 (k := 2) (f1 := (151, [(0, .inr (.inr (some 169))), (1, .inr (.inr (some q))), (2, .inr (.inr (some (D.ip j)))), (3, .inl wh), (4, .inl pl)], [.inl (1 : Int32), .inr (.inr (some 169))], H)) (C := []) rfl trivial ?_
        refine mw_cE (as := [.inl (1 : Int32)]) (o := some 169) (S1 := []) rfl rfl rfl rfl (Nat.le_of_ble_eq_true rfl) (by decide) hr.2.2.1.1 rfl (by decide) (rp_sound (x := 1)) (fun H9 e9 => absurd e9.1 (by decide)) (fun v9 H9 e9 => ?_)
        obtain ⟨_, rfl, e9⟩ := e9
        rw [e9]
        clear e9 H9
        show mu_W _ mu_m467 (154, [(0, .inr (.inr (some 169))), (1, .inr (.inr (some q))), (2, .inr (.inr (some (D.ip j)))), (3, .inl wh), (4, .inl pl)], [], H) _
        exact hnx hR
      · -- 150
        rw [if_pos (show tkd c ∈ [41, 42, 43, 44, 45, 46, 47, 48] ∧ ¬ (wh = 2 ∧ pl = 0) from ⟨nt, fun z => h3 z.2⟩)] at hR
        refine mw_go mu_g467 (k := 1) (f1 := (151, [(0, .inr (.inr (some 169))), (1, .inr (.inr (some q))), (2, .inr (.inr (some (D.ip j)))), (3, .inl wh), (4, .inl pl)], [.inl (0 : Int32), .inr (.inr (some 169))], H)) (C := []) rfl trivial ?_
        exact mw_cE (as := [.inl (0 : Int32)]) (o := some 169) (S1 := []) rfl rfl rfl rfl (Nat.le_of_ble_eq_true rfl) (by decide) hr.2.2.1.1 rfl (by decide) (rp_sound (x := 0)) (fun H9 e9 => by rw [e9.2]; exact Or.inl ⟨_, rfl, hR.symm, ffr.rf.ex⟩) (fun v9 H9 e9 => absurd rfl e9.1)
    · -- 150
      rw [if_pos (show tkd c ∈ [41, 42, 43, 44, 45, 46, 47, 48] ∧ ¬ (wh = 2 ∧ pl = 0) from ⟨nt, fun z => h2 z.1⟩)] at hR
      refine mw_go mu_g467 (k := 1) (f1 := (151, [(0, .inr (.inr (some 169))), (1, .inr (.inr (some q))), (2, .inr (.inr (some (D.ip j)))), (3, .inl wh), (4, .inl pl)], [.inl (0 : Int32), .inr (.inr (some 169))], H)) (C := []) rfl trivial ?_
      exact mw_cE (as := [.inl (0 : Int32)]) (o := some 169) (S1 := []) rfl rfl rfl rfl (Nat.le_of_ble_eq_true rfl) (by decide) hr.2.2.1.1 rfl (by decide) (rp_sound (x := 0)) (fun H9 e9 => by rw [e9.2]; exact Or.inl ⟨_, rfl, hR.symm, ffr.rf.ex⟩) (fun v9 H9 e9 => absurd rfl e9.1)
theorem exw_65 {l : Nat} {c : Tre} (h : exw (l + 1) c) (h6 : tkd c = 65) : 0 < tsn c := by
  have no : ∀ {ks : List Nat}, tkd c ∈ ks → 65 ∈ ks := fun h1 => by rw [← h6]; exact h1
  rcases h with h | h | h | h | h | h | h
  · exact absurd (no h.1) (by decide)
  · exact absurd (no h.1) (by decide)
  · omega
  · omega
  · omega
  · omega
  · omega
theorem rp_sr2b {Hb H : mu_H} {D : MD} {sp : Nat} {ss : Nat → Int32} {j l d dd q : Nat} {wh pl : Int32} {c : Tre} {R : Option Int32} (hr : rms Hb D H) (hh : sts H D sp ss) (hn : nd Hb D.G dd q c) (hx : exw (l + 1) c) (hk : nmk D j c) (ih : srk Hb D sp ss j wh l) (hR : sr2 D j ss wh l pl c = R) (hnx : ¬ tkd c = 66 → gnl (fun k => srt D j ss wh l (if pl = 0 ∧ ¬ tkd c ∈ [21, 5, 50] ∧ ¬ tkd c ∈ [22, 6, 23, 7] then 0 else 1) (tkk c k)) (if tkd c ∈ [21, 5, 50] then (1 : Int32) else 0) (tsn c) 0 (if tkd c ∈ [22, 6, 23, 7] then (2 : Int32) else 1) = R → mu_W (mu_D (d + 2 * l + 9)) mu_m467 (229, [(0, .inr (.inr (some 169))), (1, .inr (.inr (some q))), (2, .inr (.inr (some (D.ip j)))), (3, .inl wh), (4, .inl pl)], [], H) (fun r => (∃ H1, r = (.inr 2, H1) ∧ R = none ∧ ffr 1 H H1) ∨ ∃ v H1, r = (.inl v, H1) ∧ ∃ x, v = some (.inl x) ∧ R = some x ∧ ffr 0 H H1)) : mu_W (mu_D (d + 2 * l + 9)) mu_m467 (154, [(0, .inr (.inr (some 169))), (1, .inr (.inr (some q))), (2, .inr (.inr (some (D.ip j)))), (3, .inl wh), (4, .inl pl)], [], H) (fun r => (∃ H1, r = (.inr 2, H1) ∧ R = none ∧ ffr 1 H H1) ∨ ∃ v H1, r = (.inl v, H1) ∧ ∃ x, v = some (.inl x) ∧ R = some x ∧ ffr 0 H H1) := by
  obtain ⟨kd1, ⟨is1, nF1, lt1⟩, ⟨st1, sr1, sf1⟩, ⟨n2_1, n3_1, n7_1⟩, nm1, ar1, aq1, aF1, ai1, ⟨al1, am1, ax1⟩, ch1, dp1⟩ := nd.ra (c := c) hn hr.2.1
  refine mw_go mu_g467 (k := 2) (f1 := (157, [(0, .inr (.inr (some 169))), (1, .inr (.inr (some q))), (2, .inr (.inr (some (D.ip j)))), (3, .inl wh), (4, .inl pl)], [.inr (.inr (some 1000052)), .inr (.inr (some q))], H)) (C := []) rfl trivial ?_
  refine mw_cIe (fun _ => rfl) (show mu_is H (some q) 18 from is1) (agr.isL (e := d + 2 * l + 6) (j := 52) hn hr.2.1 (by decide)) ?_
  refine mw_if (P := (if tkd c = 52 then 1 else 0) = 0) (a := 171) (b := 163) (fun _ => rfl) trivial (fun hi2 => ?_) (fun hi2 => ?_)
  · -- 171
    have ek2 : ¬ tkd c = 52 := fun e => by rw [if_pos e] at hi2; exact absurd hi2 (by decide)
    refine mw_go mu_g467 (k := 2) (f1 := (175, [(0, .inr (.inr (some 169))), (1, .inr (.inr (some q))), (2, .inr (.inr (some (D.ip j)))), (3, .inl wh), (4, .inl pl)], [.inr (.inr (some 1000066)), .inr (.inr (some q))], H)) (C := []) rfl trivial ?_
    refine mw_cIe (fun _ => rfl) (show mu_is H (some q) 18 from is1) (agr.isL (e := d + 2 * l + 6) (j := 66) hn hr.2.1 (by decide)) ?_
    refine mw_if (P := (if tkd c = 66 then 1 else 0) = 0) (a := 191) (b := 181) (fun _ => rfl) trivial (fun hi3 => ?_) (fun hi3 => ?_)
    · -- 191
      have ek3 : ¬ tkd c = 66 := fun e => by rw [if_pos e] at hi3; exact absurd hi3 (by decide)
      refine mw_go mu_g467 (k := 2) (f1 := (195, [(0, .inr (.inr (some 169))), (1, .inr (.inr (some q))), (2, .inr (.inr (some (D.ip j)))), (3, .inl wh), (4, .inl pl)], [.inr (.inr (some 1000065)), .inr (.inr (some q))], H)) (C := []) rfl trivial ?_
      refine mw_cIe (fun _ => rfl) (show mu_is H (some q) 18 from is1) (agr.isL (e := d + 2 * l + 6) (j := 65) hn hr.2.1 (by decide)) ?_
      refine mw_if (P := (if tkd c = 65 then 1 else 0) = 0) (a := 229) (b := 201) (fun _ => rfl) trivial (fun hi4 => ?_) (fun hi4 => ?_)
      · -- 229
        have ek4 : ¬ tkd c = 65 := fun e => by rw [if_pos e] at hi4; exact absurd hi4 (by decide)
        rw [sr2, if_neg ek2, if_neg ek3, if_neg ek4] at hR
        exact hnx ek3 hR
      · -- 201
        have ek4 : tkd c = 65 := Decidable.byContradiction (fun e => hi4 (if_neg e))
        rw [sr2, if_neg ek2, if_neg ek3, if_pos ek4] at hR
        have t1 : 0 < tsn c := exw_65 hx ek4
        have el : lkp c 0 = tkk c 0 := if_neg (fun z => absurd z.2 (Nat.lt_irrefl _))
        have xk : exw l (tkk c 0) := by rw [← el]; exact (hx.lk t1).1
        obtain ⟨y, yr5, yn5⟩ := ch1 0 t1
        have yn5 : nd Hb D.G (dd - 1) y (tkk c 0) := yn5
        obtain ⟨b1_5, b2_5, b3_5, b4_5⟩ := ar_at ai1 (by decide) (Nat.lt_of_lt_of_le t1 al1) (Nat.lt_of_le_of_lt ax1 (by decide))
        have y2_5 : mu_r H ar1 (0 : Int32).toNatClampNeg = some y := yr5
        refine mw_go mu_g467 (k := 4) (f1 := (207, [(0, .inr (.inr (some 169))), (1, .inr (.inr (some q))), (2, .inr (.inr (some (D.ip j)))), (3, .inl wh), (4, .inl pl)], [.inr (.inr (mu_r H q 1)), .inr (.inr (some 169)), .inr (.inr (some 169))], H)) (C := [mu_is H (some q) 18]) rfl (show mu_is H (some q) 18 from is1) ?_
        refine mw_fr (f' := (207, [(0, .inr (.inr (some 169))), (1, .inr (.inr (some q))), (2, .inr (.inr (some (D.ip j)))), (3, .inl wh), (4, .inl pl)], [.inr (.inr (some ar1)), .inr (.inr (some 169)), .inr (.inr (some 169))], H)) (by first | (rw [aq1]; done) | (rw [aq1]; rfl)) ?_
        refine mw_go mu_g467 (k := 2) (f1 := (209, [(0, .inr (.inr (some 169))), (1, .inr (.inr (some q))), (2, .inr (.inr (some (D.ip j)))), (3, .inl wh), (4, .inl pl)], [.inr (.inr (mu_r H ar1 (0 : Int32).toNatClampNeg)), .inr (.inr (some 169)), .inr (.inr (some 169))], H)) (C := [mu_is H (some ar1) (mu_k H ar1), 103 ≤ mu_k H ar1 ∧ mu_k H ar1 ≤ 110 ∧ mu_k H ar1 ≠ 108, vp_in (0 : Int32) (mu_n H ar1)]) rfl (show (mu_is H (some ar1) (mu_k H ar1)) ∧ (103 ≤ mu_k H ar1 ∧ mu_k H ar1 ≤ 110 ∧ mu_k H ar1 ≠ 108) ∧ (vp_in (0 : Int32) (mu_n H ar1)) from ⟨b1_5, b2_5, b3_5⟩) ?_
        refine mw_fr (f' := (209, [(0, .inr (.inr (some 169))), (1, .inr (.inr (some q))), (2, .inr (.inr (some (D.ip j)))), (3, .inl wh), (4, .inl pl)], [.inr (.inr (some y)), .inr (.inr (some 169)), .inr (.inr (some 169))], H)) (by first | (rw [y2_5]; done) | (rw [y2_5]; rfl)) ?_
        refine mw_go mu_g467 (k := 3) (f1 := (212, [(0, .inr (.inr (some 169))), (1, .inr (.inr (some q))), (2, .inr (.inr (some (D.ip j)))), (3, .inl wh), (4, .inl pl)], [.inl (1 : Int32), .inl wh, .inr (.inr (some (D.ip j))), .inr (.inr (some y)), .inr (.inr (some 169)), .inr (.inr (some 169))], H)) (C := []) rfl trivial ?_
        refine mw_cE (as := [.inr (.inr (some y)), .inr (.inr (some (D.ip j))), .inl wh, .inl (1 : Int32)]) (o := (some 169)) (S1 := [.inr (.inr (some 169))]) rfl rfl rfl rfl (Nat.le_of_ble_eq_true rfl) (by decide) (show mu_is H (some 169) 1 from hr.2.2.1.1) rfl (by decide) (mu_Dc (show d + 1 + 2 * l + 8 = d + 2 * l + 9 by omega) (ih (d + 1) y (tkk c 0) H (dd - 1) 1 (Or.inr rfl) hr hh yn5 xk (hk.k t1))) (fun E9 e9 => Or.inl ⟨_, rfl, by rw [e9.1] at hR; exact hR.symm, e9.2⟩) (fun v9 H6 e9 => ?_)
        obtain ⟨s, rfl, p1, p2⟩ := e9
        show mu_W _ mu_m467 (215, [(0, .inr (.inr (some 169))), (1, .inr (.inr (some q))), (2, .inr (.inr (some (D.ip j)))), (3, .inl wh), (4, .inl pl)], [.inl s, .inr (.inr (some 169))], H6) _
        rw [p1] at hR
        dsimp only at hR
        have hr2 := p2.rms hr
        refine mw_go mu_g467 (k := 1) (f1 := (216, [(0, .inr (.inr (some 169))), (1, .inr (.inr (some q))), (2, .inr (.inr (some (D.ip j)))), (3, .inl wh), (4, .inl pl)], [.inl (2 : Int32), .inl s, .inr (.inr (some 169))], H6)) (C := []) rfl trivial ?_
        refine mw_if (P := s = (2 : Int32)) (a := 219) (b := 223) (fun _ => rfl) trivial (fun h5 => ?_) (fun h5 => ?_)
        · -- 219
          rw [if_pos h5] at hR
          refine mw_go mu_g467 (k := 2) (f1 := (224, [(0, .inr (.inr (some 169))), (1, .inr (.inr (some q))), (2, .inr (.inr (some (D.ip j)))), (3, .inl wh), (4, .inl pl)], [.inl (1 : Int32), .inr (.inr (some 169))], H6)) (C := []) rfl trivial ?_
          refine mw_cE (as := [.inl (1 : Int32)]) (o := some 169) (S1 := []) rfl rfl rfl rfl (Nat.le_of_ble_eq_true rfl) (by decide) hr2.2.2.1.1 rfl (by decide) (rp_sound (x := 1)) (fun H9 e9 => absurd e9.1 (by decide)) (fun v9 H9 e9 => ?_)
          obtain ⟨_, rfl, e9⟩ := e9
          rw [e9]
          clear e9 H9
          show mu_W _ mu_m467 (227, [(0, .inr (.inr (some 169))), (1, .inr (.inr (some q))), (2, .inr (.inr (some (D.ip j)))), (3, .inl wh), (4, .inl pl)], [], H6) _
          refine mw_go mu_g467 (k := 1) (f1 := (228, [(0, .inr (.inr (some 169))), (1, .inr (.inr (some q))), (2, .inr (.inr (some (D.ip j)))), (3, .inl wh), (4, .inl pl)], [.inl (2 : Int32)], H6)) (C := []) rfl trivial ?_
          exact mw_of (fun _ => mu_ret rfl trivial (Or.inr ⟨_, _, rfl, _, rfl, hR.symm, p2⟩))
        · -- 223
          rw [if_neg h5] at hR
          refine mw_go mu_g467 (k := 1) (f1 := (224, [(0, .inr (.inr (some 169))), (1, .inr (.inr (some q))), (2, .inr (.inr (some (D.ip j)))), (3, .inl wh), (4, .inl pl)], [.inl (0 : Int32), .inr (.inr (some 169))], H6)) (C := []) rfl trivial ?_
          exact mw_cE (as := [.inl (0 : Int32)]) (o := some 169) (S1 := []) rfl rfl rfl rfl (Nat.le_of_ble_eq_true rfl) (by decide) hr2.2.2.1.1 rfl (by decide) (rp_sound (x := 0)) (fun H9 e9 => by rw [e9.2]; exact Or.inl ⟨_, rfl, hR.symm, p2.ex⟩) (fun v9 H9 e9 => absurd rfl e9.1)
    · -- 181
      have ek3 : tkd c = 66 := Decidable.byContradiction (fun e => hi3 (if_neg e))
      rw [sr2, if_neg ek2, if_pos ek3] at hR
      refine mw_go mu_g467 (k := 5) (f1 := (187, [(0, .inr (.inr (some 169))), (1, .inr (.inr (some q))), (2, .inr (.inr (some (D.ip j)))), (3, .inl wh), (4, .inl pl)], [.inl pl, .inl wh, .inr (.inr (some (D.ip j))), .inr (.inr (some q)), .inr (.inr (some 169))], H)) (C := []) rfl trivial ?_
      refine mw_cE (as := [.inr (.inr (some q)), .inr (.inr (some (D.ip j))), .inl wh, .inl pl]) (o := (some 169)) (S1 := []) rfl rfl rfl rfl (Nat.le_of_ble_eq_true rfl) (by decide) (show mu_is H (some 169) 1 from hr.2.2.1.1) rfl (by decide) (rp_chained hh hn hx hk ih hr ek3) (fun E9 e9 => Or.inl ⟨_, rfl, hR.symm.trans e9.1, e9.2⟩) (fun v9 H7 e9 => ?_)
      obtain ⟨s, rfl, p1, p2⟩ := e9
      show mu_W _ mu_m467 (190, [(0, .inr (.inr (some 169))), (1, .inr (.inr (some q))), (2, .inr (.inr (some (D.ip j)))), (3, .inl wh), (4, .inl pl)], [.inl s], H7) _
      exact mw_of (fun _ => mu_ret rfl trivial (Or.inr ⟨_, _, rfl, _, rfl, hR.symm.trans p1, p2⟩))
  · -- 163
    have ek2 : tkd c = 52 := Decidable.byContradiction (fun e => hi2 (if_neg e))
    rw [sr2, if_pos ek2] at hR
    refine mw_go mu_g467 (k := 4) (f1 := (167, [(0, .inr (.inr (some 169))), (1, .inr (.inr (some q))), (2, .inr (.inr (some (D.ip j)))), (3, .inl wh), (4, .inl pl)], [.inl wh, .inr (.inr (some (D.ip j))), .inr (.inr (some q)), .inr (.inr (some 169))], H)) (C := []) rfl trivial ?_
    refine mw_cE (as := [.inr (.inr (some q)), .inr (.inr (some (D.ip j))), .inl wh]) (o := (some 169)) (S1 := []) rfl rfl rfl rfl (Nat.le_of_ble_eq_true rfl) (by decide) (show mu_is H (some 169) 1 from hr.2.2.1.1) rfl (by decide) (rp_cased hh hn hx hk ih hr ek2) (fun E9 e9 => Or.inl ⟨_, rfl, hR.symm.trans e9.1, e9.2⟩) (fun v9 H8 e9 => ?_)
    obtain ⟨s, rfl, p1, p2⟩ := e9
    show mu_W _ mu_m467 (170, [(0, .inr (.inr (some 169))), (1, .inr (.inr (some q))), (2, .inr (.inr (some (D.ip j)))), (3, .inl wh), (4, .inl pl)], [.inl s], H8) _
    exact mw_of (fun _ => mu_ret rfl trivial (Or.inr ⟨_, _, rfl, _, rfl, hR.symm.trans p1, p2⟩))
theorem rp_sr3a {Hb H : mu_H} {D : MD} {j d dd q : Nat} {wh pl : Int32} {c : Tre} {Φ : mu_R → Prop} (hr : rms Hb D H) (hn : nd Hb D.G dd q c) (hnx : mu_W (mu_D (d + 3)) mu_m467 (263, [(5, .inl (if tkd c ∈ [21, 5, 50] then (1 : Int32) else 0)), (0, .inr (.inr (some 169))), (1, .inr (.inr (some q))), (2, .inr (.inr (some (D.ip j)))), (3, .inl wh), (4, .inl pl)], [], H) Φ) : mu_W (mu_D (d + 3)) mu_m467 (229, [(0, .inr (.inr (some 169))), (1, .inr (.inr (some q))), (2, .inr (.inr (some (D.ip j)))), (3, .inl wh), (4, .inl pl)], [], H) Φ := by
  obtain ⟨kd1, ⟨is1, nF1, lt1⟩, ⟨st1, sr1, sf1⟩, ⟨n2_1, n3_1, n7_1⟩, nm1, ar1, aq1, aF1, ai1, ⟨al1, am1, ax1⟩, ch1, dp1⟩ := nd.ra (c := c) hn hr.2.1
  refine mw_go mu_g467 (k := 2) (f1 := (232, [(0, .inr (.inr (some 169))), (1, .inr (.inr (some q))), (2, .inr (.inr (some (D.ip j)))), (3, .inl wh), (4, .inl pl)], [.inr (.inr (some 1000021)), .inr (.inr (some q))], H)) (C := []) rfl trivial ?_
  refine mw_cIe (fun _ => rfl) (show mu_is H (some q) 18 from is1) (agr.isL (e := d) (j := 21) hn hr.2.1 (by decide)) ?_
  refine mw_if (P := (if tkd c = 21 then 1 else 0) = 0) (a := 238) (b := 256) (fun _ => rfl) trivial (fun hi2 => ?_) (fun hi2 => ?_)
  · -- 238
    have ek2 : ¬ tkd c = 21 := fun e => by rw [if_pos e] at hi2; exact absurd hi2 (by decide)
    refine mw_go mu_g467 (k := 2) (f1 := (241, [(0, .inr (.inr (some 169))), (1, .inr (.inr (some q))), (2, .inr (.inr (some (D.ip j)))), (3, .inl wh), (4, .inl pl)], [.inr (.inr (some 1000005)), .inr (.inr (some q))], H)) (C := []) rfl trivial ?_
    refine mw_cIe (fun _ => rfl) (show mu_is H (some q) 18 from is1) (agr.isL (e := d) (j := 5) hn hr.2.1 (by decide)) ?_
    refine mw_if (P := (if tkd c = 5 then 1 else 0) = 0) (a := 247) (b := 256) (fun _ => rfl) trivial (fun hi3 => ?_) (fun hi3 => ?_)
    · -- 247
      have ek3 : ¬ tkd c = 5 := fun e => by rw [if_pos e] at hi3; exact absurd hi3 (by decide)
      refine mw_go mu_g467 (k := 2) (f1 := (250, [(0, .inr (.inr (some 169))), (1, .inr (.inr (some q))), (2, .inr (.inr (some (D.ip j)))), (3, .inl wh), (4, .inl pl)], [.inr (.inr (some 1000050)), .inr (.inr (some q))], H)) (C := []) rfl trivial ?_
      refine mw_cIe (fun _ => rfl) (show mu_is H (some q) 18 from is1) (agr.isL (e := d) (j := 50) hn hr.2.1 (by decide)) ?_
      refine mw_if (P := (if tkd c = 50 then 1 else 0) = 0) (a := 260) (b := 256) (fun _ => rfl) trivial (fun hi4 => ?_) (fun hi4 => ?_)
      · -- 260
        have ek4 : ¬ tkd c = 50 := fun e => by rw [if_pos e] at hi4; exact absurd hi4 (by decide)
        refine mw_go mu_g467 (k := 2) (f1 := (263, [(5, .inl (0 : Int32)), (0, .inr (.inr (some 169))), (1, .inr (.inr (some q))), (2, .inr (.inr (some (D.ip j)))), (3, .inl wh), (4, .inl pl)], [], H)) (C := []) rfl trivial ?_
        rw [if_neg (show ¬ tkd c ∈ [21, 5, 50] by simp only [List.mem_cons, List.not_mem_nil, or_false, not_or]; exact ⟨ek2, ek3, ek4⟩)] at hnx
        refine mw_sub (L' := [(5, .inl (0 : Int32)), (0, .inr (.inr (some 169))), (1, .inr (.inr (some q))), (2, .inr (.inr (some (D.ip j)))), (3, .inl wh), (4, .inl pl)]) (by intro x hx; simp only [List.mem_cons, List.not_mem_nil, or_false] at hx ⊢; rcases hx with rfl | rfl | rfl | rfl | rfl | rfl <;> simp [nI]) ?_
        exact hnx
      · -- 256
        have ek4 : tkd c = 50 := Decidable.byContradiction (fun e => hi4 (if_neg e))
        refine mw_go mu_g467 (k := 3) (f1 := (263, [(5, .inl (1 : Int32)), (0, .inr (.inr (some 169))), (1, .inr (.inr (some q))), (2, .inr (.inr (some (D.ip j)))), (3, .inl wh), (4, .inl pl)], [], H)) (C := []) rfl trivial ?_
        rw [if_pos (show tkd c ∈ [21, 5, 50] by rw [ek4]; decide)] at hnx
        refine mw_sub (L' := [(5, .inl (1 : Int32)), (0, .inr (.inr (some 169))), (1, .inr (.inr (some q))), (2, .inr (.inr (some (D.ip j)))), (3, .inl wh), (4, .inl pl)]) (by intro x hx; simp only [List.mem_cons, List.not_mem_nil, or_false] at hx ⊢; rcases hx with rfl | rfl | rfl | rfl | rfl | rfl <;> simp [nI]) ?_
        exact hnx
    · -- 256
      have ek3 : tkd c = 5 := Decidable.byContradiction (fun e => hi3 (if_neg e))
      refine mw_go mu_g467 (k := 3) (f1 := (263, [(5, .inl (1 : Int32)), (0, .inr (.inr (some 169))), (1, .inr (.inr (some q))), (2, .inr (.inr (some (D.ip j)))), (3, .inl wh), (4, .inl pl)], [], H)) (C := []) rfl trivial ?_
      rw [if_pos (show tkd c ∈ [21, 5, 50] by rw [ek3]; decide)] at hnx
      refine mw_sub (L' := [(5, .inl (1 : Int32)), (0, .inr (.inr (some 169))), (1, .inr (.inr (some q))), (2, .inr (.inr (some (D.ip j)))), (3, .inl wh), (4, .inl pl)]) (by intro x hx; simp only [List.mem_cons, List.not_mem_nil, or_false] at hx ⊢; rcases hx with rfl | rfl | rfl | rfl | rfl | rfl <;> simp [nI]) ?_
      exact hnx
  · -- 256
    have ek2 : tkd c = 21 := Decidable.byContradiction (fun e => hi2 (if_neg e))
    refine mw_go mu_g467 (k := 3) (f1 := (263, [(5, .inl (1 : Int32)), (0, .inr (.inr (some 169))), (1, .inr (.inr (some q))), (2, .inr (.inr (some (D.ip j)))), (3, .inl wh), (4, .inl pl)], [], H)) (C := []) rfl trivial ?_
    rw [if_pos (show tkd c ∈ [21, 5, 50] by rw [ek2]; decide)] at hnx
    refine mw_sub (L' := [(5, .inl (1 : Int32)), (0, .inr (.inr (some 169))), (1, .inr (.inr (some q))), (2, .inr (.inr (some (D.ip j)))), (3, .inl wh), (4, .inl pl)]) (by intro x hx; simp only [List.mem_cons, List.not_mem_nil, or_false] at hx ⊢; rcases hx with rfl | rfl | rfl | rfl | rfl | rfl <;> simp [nI]) ?_
    exact hnx
theorem rp_sr3b {Hb H : mu_H} {D : MD} {j d dd q : Nat} {wh pl al : Int32} {c : Tre} {Φ : mu_R → Prop} (hr : rms Hb D H) (hn : nd Hb D.G dd q c) (hnx : mu_W (mu_D (d + 3)) mu_m467 (321, [(8, .inl (nI 0)), (7, .inl (if tkd c ∈ [22, 6, 23, 7] then (2 : Int32) else 1)), (6, .inl (if tkd c ∈ [22, 6, 23, 7] then (1 : Int32) else 0)), (5, .inl al), (0, .inr (.inr (some 169))), (1, .inr (.inr (some q))), (2, .inr (.inr (some (D.ip j)))), (3, .inl wh), (4, .inl pl)], [], H) Φ) : mu_W (mu_D (d + 3)) mu_m467 (263, [(5, .inl al), (0, .inr (.inr (some 169))), (1, .inr (.inr (some q))), (2, .inr (.inr (some (D.ip j)))), (3, .inl wh), (4, .inl pl)], [], H) Φ := by
  obtain ⟨kd1, ⟨is1, nF1, lt1⟩, ⟨st1, sr1, sf1⟩, ⟨n2_1, n3_1, n7_1⟩, nm1, ar1, aq1, aF1, ai1, ⟨al1, am1, ax1⟩, ch1, dp1⟩ := nd.ra (c := c) hn hr.2.1
  refine mw_go mu_g467 (k := 2) (f1 := (266, [(5, .inl al), (0, .inr (.inr (some 169))), (1, .inr (.inr (some q))), (2, .inr (.inr (some (D.ip j)))), (3, .inl wh), (4, .inl pl)], [.inr (.inr (some 1000022)), .inr (.inr (some q))], H)) (C := []) rfl trivial ?_
  refine mw_cIe (fun _ => rfl) (show mu_is H (some q) 18 from is1) (agr.isL (e := d) (j := 22) hn hr.2.1 (by decide)) ?_
  refine mw_if (P := (if tkd c = 22 then 1 else 0) = 0) (a := 272) (b := 299) (fun _ => rfl) trivial (fun hi2 => ?_) (fun hi2 => ?_)
  · -- 272
    have ek2 : ¬ tkd c = 22 := fun e => by rw [if_pos e] at hi2; exact absurd hi2 (by decide)
    refine mw_go mu_g467 (k := 2) (f1 := (275, [(5, .inl al), (0, .inr (.inr (some 169))), (1, .inr (.inr (some q))), (2, .inr (.inr (some (D.ip j)))), (3, .inl wh), (4, .inl pl)], [.inr (.inr (some 1000006)), .inr (.inr (some q))], H)) (C := []) rfl trivial ?_
    refine mw_cIe (fun _ => rfl) (show mu_is H (some q) 18 from is1) (agr.isL (e := d) (j := 6) hn hr.2.1 (by decide)) ?_
    refine mw_if (P := (if tkd c = 6 then 1 else 0) = 0) (a := 281) (b := 299) (fun _ => rfl) trivial (fun hi3 => ?_) (fun hi3 => ?_)
    · -- 281
      have ek3 : ¬ tkd c = 6 := fun e => by rw [if_pos e] at hi3; exact absurd hi3 (by decide)
      refine mw_go mu_g467 (k := 2) (f1 := (284, [(5, .inl al), (0, .inr (.inr (some 169))), (1, .inr (.inr (some q))), (2, .inr (.inr (some (D.ip j)))), (3, .inl wh), (4, .inl pl)], [.inr (.inr (some 1000023)), .inr (.inr (some q))], H)) (C := []) rfl trivial ?_
      refine mw_cIe (fun _ => rfl) (show mu_is H (some q) 18 from is1) (agr.isL (e := d) (j := 23) hn hr.2.1 (by decide)) ?_
      refine mw_if (P := (if tkd c = 23 then 1 else 0) = 0) (a := 290) (b := 299) (fun _ => rfl) trivial (fun hi4 => ?_) (fun hi4 => ?_)
      · -- 290
        have ek4 : ¬ tkd c = 23 := fun e => by rw [if_pos e] at hi4; exact absurd hi4 (by decide)
        refine mw_go mu_g467 (k := 2) (f1 := (293, [(5, .inl al), (0, .inr (.inr (some 169))), (1, .inr (.inr (some q))), (2, .inr (.inr (some (D.ip j)))), (3, .inl wh), (4, .inl pl)], [.inr (.inr (some 1000007)), .inr (.inr (some q))], H)) (C := []) rfl trivial ?_
        refine mw_cIe (fun _ => rfl) (show mu_is H (some q) 18 from is1) (agr.isL (e := d) (j := 7) hn hr.2.1 (by decide)) ?_
        refine mw_if (P := (if tkd c = 7 then 1 else 0) = 0) (a := 303) (b := 299) (fun _ => rfl) trivial (fun hi5 => ?_) (fun hi5 => ?_)
        · -- 303
          have ek5 : ¬ tkd c = 7 := fun e => by rw [if_pos e] at hi5; exact absurd hi5 (by decide)
          refine mw_go mu_g467 (k := 2) (f1 := (306, [(6, .inl (0 : Int32)), (5, .inl al), (0, .inr (.inr (some 169))), (1, .inr (.inr (some q))), (2, .inr (.inr (some (D.ip j)))), (3, .inl wh), (4, .inl pl)], [], H)) (C := []) rfl trivial ?_
          refine mw_go mu_g467 (k := 1) (f1 := (308, [(6, .inl (0 : Int32)), (5, .inl al), (0, .inr (.inr (some 169))), (1, .inr (.inr (some q))), (2, .inr (.inr (some (D.ip j)))), (3, .inl wh), (4, .inl pl)], [.inl (0 : Int32)], H)) (C := []) rfl trivial ?_
          refine mw_if (P := (0 : Int32) = 0) (a := 315) (b := 311) (fun _ => rfl) trivial (fun h9 => ?_) (fun h9 => absurd rfl h9)
          · -- 315
            refine mw_go mu_g467 (k := 4) (f1 := (321, [(8, .inl (0 : Int32)), (7, .inl (1 : Int32)), (6, .inl (0 : Int32)), (5, .inl al), (0, .inr (.inr (some 169))), (1, .inr (.inr (some q))), (2, .inr (.inr (some (D.ip j)))), (3, .inl wh), (4, .inl pl)], [], H)) (C := []) rfl trivial ?_
            rw [if_neg (show ¬ tkd c ∈ [22, 6, 23, 7] by simp only [List.mem_cons, List.not_mem_nil, or_false, not_or]; exact ⟨ek2, ek3, ek4, ek5⟩), if_neg (show ¬ tkd c ∈ [22, 6, 23, 7] by simp only [List.mem_cons, List.not_mem_nil, or_false, not_or]; exact ⟨ek2, ek3, ek4, ek5⟩)] at hnx
            refine mw_sub (L' := [(8, .inl (nI 0)), (7, .inl (1 : Int32)), (6, .inl (0 : Int32)), (5, .inl al), (0, .inr (.inr (some 169))), (1, .inr (.inr (some q))), (2, .inr (.inr (some (D.ip j)))), (3, .inl wh), (4, .inl pl)]) (by intro x hx; simp only [List.mem_cons, List.not_mem_nil, or_false] at hx ⊢; rcases hx with rfl | rfl | rfl | rfl | rfl | rfl | rfl | rfl | rfl <;> simp [nI]) ?_
            exact hnx
        · -- 299
          have ek5 : tkd c = 7 := Decidable.byContradiction (fun e => hi5 (if_neg e))
          refine mw_go mu_g467 (k := 3) (f1 := (306, [(6, .inl (1 : Int32)), (5, .inl al), (0, .inr (.inr (some 169))), (1, .inr (.inr (some q))), (2, .inr (.inr (some (D.ip j)))), (3, .inl wh), (4, .inl pl)], [], H)) (C := []) rfl trivial ?_
          refine mw_go mu_g467 (k := 1) (f1 := (308, [(6, .inl (1 : Int32)), (5, .inl al), (0, .inr (.inr (some 169))), (1, .inr (.inr (some q))), (2, .inr (.inr (some (D.ip j)))), (3, .inl wh), (4, .inl pl)], [.inl (1 : Int32)], H)) (C := []) rfl trivial ?_
          refine mw_if (P := (1 : Int32) = 0) (a := 315) (b := 311) (fun _ => rfl) trivial (fun h9 => absurd h9 (by decide)) (fun h9 => ?_)
          · -- 311
            refine mw_go mu_g467 (k := 5) (f1 := (321, [(8, .inl (0 : Int32)), (7, .inl (2 : Int32)), (6, .inl (1 : Int32)), (5, .inl al), (0, .inr (.inr (some 169))), (1, .inr (.inr (some q))), (2, .inr (.inr (some (D.ip j)))), (3, .inl wh), (4, .inl pl)], [], H)) (C := []) rfl trivial ?_
            rw [if_pos (show tkd c ∈ [22, 6, 23, 7] by rw [ek5]; decide), if_pos (show tkd c ∈ [22, 6, 23, 7] by rw [ek5]; decide)] at hnx
            refine mw_sub (L' := [(8, .inl (nI 0)), (7, .inl (2 : Int32)), (6, .inl (1 : Int32)), (5, .inl al), (0, .inr (.inr (some 169))), (1, .inr (.inr (some q))), (2, .inr (.inr (some (D.ip j)))), (3, .inl wh), (4, .inl pl)]) (by intro x hx; simp only [List.mem_cons, List.not_mem_nil, or_false] at hx ⊢; rcases hx with rfl | rfl | rfl | rfl | rfl | rfl | rfl | rfl | rfl <;> simp [nI]) ?_
            exact hnx
      · -- 299
        have ek4 : tkd c = 23 := Decidable.byContradiction (fun e => hi4 (if_neg e))
        refine mw_go mu_g467 (k := 3) (f1 := (306, [(6, .inl (1 : Int32)), (5, .inl al), (0, .inr (.inr (some 169))), (1, .inr (.inr (some q))), (2, .inr (.inr (some (D.ip j)))), (3, .inl wh), (4, .inl pl)], [], H)) (C := []) rfl trivial ?_
        refine mw_go mu_g467 (k := 1) (f1 := (308, [(6, .inl (1 : Int32)), (5, .inl al), (0, .inr (.inr (some 169))), (1, .inr (.inr (some q))), (2, .inr (.inr (some (D.ip j)))), (3, .inl wh), (4, .inl pl)], [.inl (1 : Int32)], H)) (C := []) rfl trivial ?_
        refine mw_if (P := (1 : Int32) = 0) (a := 315) (b := 311) (fun _ => rfl) trivial (fun h9 => absurd h9 (by decide)) (fun h9 => ?_)
        · -- 311
          refine mw_go mu_g467 (k := 5) (f1 := (321, [(8, .inl (0 : Int32)), (7, .inl (2 : Int32)), (6, .inl (1 : Int32)), (5, .inl al), (0, .inr (.inr (some 169))), (1, .inr (.inr (some q))), (2, .inr (.inr (some (D.ip j)))), (3, .inl wh), (4, .inl pl)], [], H)) (C := []) rfl trivial ?_
          rw [if_pos (show tkd c ∈ [22, 6, 23, 7] by rw [ek4]; decide), if_pos (show tkd c ∈ [22, 6, 23, 7] by rw [ek4]; decide)] at hnx
          refine mw_sub (L' := [(8, .inl (nI 0)), (7, .inl (2 : Int32)), (6, .inl (1 : Int32)), (5, .inl al), (0, .inr (.inr (some 169))), (1, .inr (.inr (some q))), (2, .inr (.inr (some (D.ip j)))), (3, .inl wh), (4, .inl pl)]) (by intro x hx; simp only [List.mem_cons, List.not_mem_nil, or_false] at hx ⊢; rcases hx with rfl | rfl | rfl | rfl | rfl | rfl | rfl | rfl | rfl <;> simp [nI]) ?_
          exact hnx
    · -- 299
      have ek3 : tkd c = 6 := Decidable.byContradiction (fun e => hi3 (if_neg e))
      refine mw_go mu_g467 (k := 3) (f1 := (306, [(6, .inl (1 : Int32)), (5, .inl al), (0, .inr (.inr (some 169))), (1, .inr (.inr (some q))), (2, .inr (.inr (some (D.ip j)))), (3, .inl wh), (4, .inl pl)], [], H)) (C := []) rfl trivial ?_
      refine mw_go mu_g467 (k := 1) (f1 := (308, [(6, .inl (1 : Int32)), (5, .inl al), (0, .inr (.inr (some 169))), (1, .inr (.inr (some q))), (2, .inr (.inr (some (D.ip j)))), (3, .inl wh), (4, .inl pl)], [.inl (1 : Int32)], H)) (C := []) rfl trivial ?_
      refine mw_if (P := (1 : Int32) = 0) (a := 315) (b := 311) (fun _ => rfl) trivial (fun h9 => absurd h9 (by decide)) (fun h9 => ?_)
      · -- 311
        refine mw_go mu_g467 (k := 5) (f1 := (321, [(8, .inl (0 : Int32)), (7, .inl (2 : Int32)), (6, .inl (1 : Int32)), (5, .inl al), (0, .inr (.inr (some 169))), (1, .inr (.inr (some q))), (2, .inr (.inr (some (D.ip j)))), (3, .inl wh), (4, .inl pl)], [], H)) (C := []) rfl trivial ?_
        rw [if_pos (show tkd c ∈ [22, 6, 23, 7] by rw [ek3]; decide), if_pos (show tkd c ∈ [22, 6, 23, 7] by rw [ek3]; decide)] at hnx
        refine mw_sub (L' := [(8, .inl (nI 0)), (7, .inl (2 : Int32)), (6, .inl (1 : Int32)), (5, .inl al), (0, .inr (.inr (some 169))), (1, .inr (.inr (some q))), (2, .inr (.inr (some (D.ip j)))), (3, .inl wh), (4, .inl pl)]) (by intro x hx; simp only [List.mem_cons, List.not_mem_nil, or_false] at hx ⊢; rcases hx with rfl | rfl | rfl | rfl | rfl | rfl | rfl | rfl | rfl <;> simp [nI]) ?_
        exact hnx
  · -- 299
    have ek2 : tkd c = 22 := Decidable.byContradiction (fun e => hi2 (if_neg e))
    refine mw_go mu_g467 (k := 3) (f1 := (306, [(6, .inl (1 : Int32)), (5, .inl al), (0, .inr (.inr (some 169))), (1, .inr (.inr (some q))), (2, .inr (.inr (some (D.ip j)))), (3, .inl wh), (4, .inl pl)], [], H)) (C := []) rfl trivial ?_
    refine mw_go mu_g467 (k := 1) (f1 := (308, [(6, .inl (1 : Int32)), (5, .inl al), (0, .inr (.inr (some 169))), (1, .inr (.inr (some q))), (2, .inr (.inr (some (D.ip j)))), (3, .inl wh), (4, .inl pl)], [.inl (1 : Int32)], H)) (C := []) rfl trivial ?_
    refine mw_if (P := (1 : Int32) = 0) (a := 315) (b := 311) (fun _ => rfl) trivial (fun h9 => absurd h9 (by decide)) (fun h9 => ?_)
    · -- 311
      refine mw_go mu_g467 (k := 5) (f1 := (321, [(8, .inl (0 : Int32)), (7, .inl (2 : Int32)), (6, .inl (1 : Int32)), (5, .inl al), (0, .inr (.inr (some 169))), (1, .inr (.inr (some q))), (2, .inr (.inr (some (D.ip j)))), (3, .inl wh), (4, .inl pl)], [], H)) (C := []) rfl trivial ?_
      rw [if_pos (show tkd c ∈ [22, 6, 23, 7] by rw [ek2]; decide), if_pos (show tkd c ∈ [22, 6, 23, 7] by rw [ek2]; decide)] at hnx
      refine mw_sub (L' := [(8, .inl (nI 0)), (7, .inl (2 : Int32)), (6, .inl (1 : Int32)), (5, .inl al), (0, .inr (.inr (some 169))), (1, .inr (.inr (some q))), (2, .inr (.inr (some (D.ip j)))), (3, .inl wh), (4, .inl pl)]) (by intro x hx; simp only [List.mem_cons, List.not_mem_nil, or_false] at hx ⊢; rcases hx with rfl | rfl | rfl | rfl | rfl | rfl | rfl | rfl | rfl <;> simp [nI]) ?_
      exact hnx
