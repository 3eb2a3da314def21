/-! The reference: sorts of expressions; cased, chained -/
/-- PathProverModel.sort(LPathProverModel$Node;LPathProverModel$Instance;IZ)I -/
abbrev mu_m467 : ev_M := (10, (some .int), [], ev_b467)
theorem mu_g467 : mu_good mu_m467 := mu_goodk ev_k467
/-- PathProverModel.cased(LPathProverModel$Node;LPathProverModel$Instance;I)I -/
abbrev mu_m471 : ev_M := (7, (some .int), [], ev_b471)
theorem mu_g471 : mu_good mu_m471 := mu_goodk ev_k471
/-- PathProverModel.chained(LPathProverModel$Node;LPathProverModel$Instance;IZ)I -/
abbrev mu_m472 : ev_M := (8, (some .int), [], ev_b472)
theorem mu_g472 : mu_good mu_m472 := mu_goodk ev_k472
/-- the sorts that are known -/
def sts (H : mu_H) (D : MD) (sp : Nat) (ss : Nat → Int32) : Prop := oar H D.G 27 100 sp (D.pr 0).length ∧ ∀ i, i < (D.pr 0).length → mu_i H sp i = ss i
theorem sts.ff {H H1 : mu_H} {D : MD} {sp a : Nat} {ss : Nat → Int32} (h : sts H D sp ss) (hf : ffr a H H1) : sts H1 D sp ss := ⟨h.1.ff hf, fun i hi => (hf.1.i (Or.inl h.1.2.1.2.1) (fun z => z.elim (gndl9 h.1.2.1.1) id) i).trans (h.2 i hi)⟩
def csl (f : Nat → Option Int32) : Nat → Nat → Int32 → Option Int32
  | 0, _, cm => some cm
  | m + 1, k, cm => match f k with
    | none => none
    | some s => if s = (if k % 2 = 0 then 1 else if k = 1 then s else cm) then csl f m (k + 1) (if k = 1 then s else cm) else none
def cnl (f : Nat → Option Int32) (cm : Int32) : Nat → Nat → Option Int32
  | 0, _ => some cm
  | m + 1, k => match f k with
    | none => none
    | some s => if s = cm then cnl f cm m (k + 1) else none
def gnl (f : Nat → Option Int32) (al : Int32) : Nat → Nat → Int32 → Option Int32
  | 0, _, _ => some 1
  | m + 1, k, cm => match f k with
    | none => none
    | some s => if s = (if al = 0 then cm else if k = 0 then s else cm) then gnl f al m (k + 1) (if al = 0 then cm else if k = 0 then s else cm) else none
/-- the sort of a chain -/
def chs (c : Tre) : Int32 := if tkd (tkk c 1) = 20 ∨ tkd (tkk c 1) = 40 then 1 else 2
/-- the sort of an expression; none: it is not sound -/
def srt (D : MD) (j : Nat) (ss : Nat → Int32) (wh : Int32) : Nat → Int32 → Tre → Option Int32
  | 0, _, _ => none
  | l + 1, pl, c => if tkd c = 63 then some 2 else if tkd c = 54 ∨ tkd c = 55 then some 1 else if tkd c = 64 then (match fno D j (tns c) with
        | none => none
        | some x => some (if x.1 < 0 then (if x.2.1 < 0 then ss x.2.2.toNatClampNeg else 3) else sof D x.1.toNatClampNeg))
      else if tkd c = 33 then (if wh = 1 then (match fno D j (tns c) with
        | none => none
        | some x => if x.1 < 0 then none else some (sof D x.1.toNatClampNeg)) else none)
      else if tkd c ∈ [41, 42, 43, 44, 45, 46, 47, 48] ∧ ¬ (wh = 2 ∧ pl = 0) then none
      else if tkd c = 52 then csl (fun k => srt D j ss wh l 1 (tkk c k)) (tsn c) 0 0
      else if tkd c = 66 then cnl (fun k => srt D j ss wh l (if pl = 0 then (if chs c = 2 then 1 else 0) else 1) (lkp c k)) (chs c) (tsn c) 0
      else if tkd c = 65 then (match srt D j ss wh l 1 (tkk c 0) with
        | none => none
        | some s => if s = 2 then some 2 else none)
      else gnl (fun k => srt D j ss wh l (if pl = 0 ∧ ¬ tkd c ∈ [21, 5, 50] ∧ ¬ tkd c ∈ [22, 6, 23, 7] then 0 else 1) (tkk c k)) (if tkd c ∈ [21, 5, 50] then 1 else 0) (tsn c) 0 (if tkd c ∈ [22, 6, 23, 7] then 2 else 1)
/-- the contract of sort, l levels deep -/
def srk (Hb : mu_H) (D : MD) (sp : Nat) (ss : Nat → Int32) (j : Nat) (wh : Int32) (l : Nat) : Prop := ∀ (d q : Nat) (c : Tre) (H : mu_H) (dd : Nat) (pl : Int32), (pl = 0 ∨ pl = 1) → rms Hb D H → sts H D sp ss → nd Hb D.G dd q c → exw l c → nmk D j c → mu_TE 2 (mu_D (d + 2 * l + 8)) 467 [.inr (.inr (some 169)), .inr (.inr (some q)), .inr (.inr (some (D.ip j))), .inl wh, .inl pl] H (fun H1 => srt D j ss wh l pl c = none ∧ ffr 1 H H1) (fun v H1 => ∃ x, v = some (.inl x) ∧ srt D j ss wh l pl c = some x ∧ ffr 0 H H1)
theorem rI_ev {k : Nat} (h : k < 2147483648) (h0 : nI k - nI k / (2 : Int32) * (2 : Int32) = 0) : k % 2 = 0 := by
  have e : nI k - nI k / (2 : Int32) * (2 : Int32) = nI (k % 2) := rI_mod h (b := 2) (by decide)
  rw [e] at h0
  exact nI_is (x := (0 : Int32)) (by omega) h0 (by decide)
theorem rI_ev2 {k : Nat} (h : k < 2147483648) (h0 : k % 2 = 0) : nI k - nI k / (2 : Int32) * (2 : Int32) = 0 := by
  have e : nI k - nI k / (2 : Int32) * (2 : Int32) = nI (k % 2) := rI_mod h (b := 2) (by decide)
  rw [e, h0]; rfl
theorem rp_cased0 {Hb H0 : mu_H} {D : MD} {sp : Nat} {ss : Nat → Int32} {j l d dd q : Nat} {wh : Int32} {c : Tre} {R : Option Int32} (hh : sts H0 D sp ss) (hn : nd Hb D.G dd q c) (hx : exw (l + 1) c) (hk : nmk D j c) (ih : srk Hb D sp ss j wh l) (h52 : tkd c = 52) : ∀ m_ k cm H, k + m_ = tsn c → rms Hb D H → ffr 0 H0 H → csl (fun k => srt D j ss wh l 1 (tkk c k)) m_ k cm = R → mu_W (mu_D (d + 2 * l + 8)) mu_m471 (6, [(5, .inl (nI k)), (4, .inl cm), (3, .inl wh), (2, .inr (.inr (some (D.ip j)))), (1, .inr (.inr (some q))), (0, .inr (.inr (some 169)))], [], H) (fun r => (∃ H1, r = (.inr 2, H1) ∧ R = none ∧ ffr 1 H0 H1) ∨ ∃ v H1, r = (.inl v, H1) ∧ ∃ x, v = some (.inl x) ∧ R = some x ∧ ffr 0 H0 H1)
  | 0, k, cm, H, hm_, hr, hf, hR => by
    obtain ⟨kd1, ⟨is1, nF1, lt1⟩, ⟨st1, sr1, sf1⟩, ⟨n2_1, n3_1, n7_1⟩, nm1, ar1, aq1, aF1, ai1, ⟨al1, am1, ax1⟩, ch1, dp1⟩ := nd.ra (c := c) hn hr.2.1
    have hl := hn.s26
    refine mw_go mu_g471 (k := 3) (f1 := (12, [(5, .inl (nI k)), (4, .inl cm), (3, .inl wh), (2, .inr (.inr (some (D.ip j)))), (1, .inr (.inr (some q))), (0, .inr (.inr (some 169)))], [.inl (mu_i H q 2), .inl (nI k)], H)) (C := [mu_is H (some q) 18]) rfl (show mu_is H (some q) 18 from is1) ?_
    refine mw_fr (f' := (12, [(5, .inl (nI k)), (4, .inl cm), (3, .inl wh), (2, .inr (.inr (some (D.ip j)))), (1, .inr (.inr (some q))), (0, .inr (.inr (some 169)))], [.inl (nI (tsn c)), .inl (nI k)], H)) (by first | (rw [n2_1]; done) | (rw [n2_1]; rfl)) ?_
    refine mw_if (P := (nI k) < (nI (tsn c))) (a := 15) (b := 74) (fun _ => rfl) trivial (fun h1 => absurd h1 (by rw [show k = tsn c by omega]; exact Int32.lt_irrefl)) (fun h1 => ?_)
    refine mw_go mu_g471 (k := 1) (f1 := (76, [(5, .inl (nI k)), (4, .inl cm), (3, .inl wh), (2, .inr (.inr (some (D.ip j)))), (1, .inr (.inr (some q))), (0, .inr (.inr (some 169)))], [.inl cm], H)) (C := []) rfl trivial ?_
    exact mw_of (fun _ => mu_ret rfl trivial (Or.inr ⟨_, _, rfl, _, rfl, hR.symm, hf⟩))
  | m_ + 1, k, cm, H, hm_, hr, hf, hR => by
    obtain ⟨kd1, ⟨is1, nF1, lt1⟩, ⟨st1, sr1, sf1⟩, ⟨n2_1, n3_1, n7_1⟩, nm1, ar1, aq1, aF1, ai1, ⟨al1, am1, ax1⟩, ch1, dp1⟩ := nd.ra (c := c) hn hr.2.1
    have hl := hn.s26
    have kt : k < tsn c := by omega
    have e9x : lkp c k = tkk c k := if_neg (fun z => by rw [z.1] at h52; exact absurd h52 (by decide))
    have xk : exw l (tkk c k) := by rw [← e9x]; exact (hx.lk kt).1
    refine mw_go mu_g471 (k := 3) (f1 := (12, [(5, .inl (nI k)), (4, .inl cm), (3, .inl wh), (2, .inr (.inr (some (D.ip j)))), (1, .inr (.inr (some q))), (0, .inr (.inr (some 169)))], [.inl (mu_i H q 2), .inl (nI k)], H)) (C := [mu_is H (some q) 18]) rfl (show mu_is H (some q) 18 from is1) ?_
    refine mw_fr (f' := (12, [(5, .inl (nI k)), (4, .inl cm), (3, .inl wh), (2, .inr (.inr (some (D.ip j)))), (1, .inr (.inr (some q))), (0, .inr (.inr (some 169)))], [.inl (nI (tsn c)), .inl (nI k)], H)) (by first | (rw [n2_1]; done) | (rw [n2_1]; rfl)) ?_
    refine mw_if (P := (nI k) < (nI (tsn c))) (a := 15) (b := 74) (fun _ => rfl) trivial (fun h1 => ?_) (fun h1 => absurd (nI_lt kt (by omega)) h1)
    obtain ⟨y, yr2, yn2⟩ := ch1 k kt
    have yn2 : nd Hb D.G (dd - 1) y (tkk c k) := yn2
    obtain ⟨b1_2, b2_2, b3_2, b4_2⟩ := ar_at ai1 (by decide) (Nat.lt_of_lt_of_le kt al1) (Nat.lt_of_le_of_lt ax1 (by decide))
    have y2_2 : mu_r H ar1 (nI k).toNatClampNeg = some y := by rw [b4_2]; exact yr2
    refine mw_go mu_g471 (k := 3) (f1 := (20, [(5, .inl (nI k)), (4, .inl cm), (3, .inl wh), (2, .inr (.inr (some (D.ip j)))), (1, .inr (.inr (some q))), (0, .inr (.inr (some 169)))], [.inr (.inr (mu_r H q 1)), .inr (.inr (some 169))], H)) (C := [mu_is H (some q) 18]) rfl (show mu_is H (some q) 18 from is1) ?_
    refine mw_fr (f' := (20, [(5, .inl (nI k)), (4, .inl cm), (3, .inl wh), (2, .inr (.inr (some (D.ip j)))), (1, .inr (.inr (some q))), (0, .inr (.inr (some 169)))], [.inr (.inr (some ar1)), .inr (.inr (some 169))], H)) (by first | (rw [aq1]; done) | (rw [aq1]; rfl)) ?_
    refine mw_go mu_g471 (k := 2) (f1 := (23, [(5, .inl (nI k)), (4, .inl cm), (3, .inl wh), (2, .inr (.inr (some (D.ip j)))), (1, .inr (.inr (some q))), (0, .inr (.inr (some 169)))], [.inr (.inr (mu_r H ar1 (nI k).toNatClampNeg)), .inr (.inr (some 169))], H)) (C := [mu_is H (some ar1) (mu_k H ar1), 103 ≤ mu_k H ar1 ∧ mu_k H ar1 ≤ 110 ∧ mu_k H ar1 ≠ 108, vp_in (nI k) (mu_n H ar1)]) rfl (show (mu_is H (some ar1) (mu_k H ar1)) ∧ (103 ≤ mu_k H ar1 ∧ mu_k H ar1 ≤ 110 ∧ mu_k H ar1 ≠ 108) ∧ (vp_in (nI k) (mu_n H ar1)) from ⟨b1_2, b2_2, b3_2⟩) ?_
    refine mw_fr (f' := (23, [(5, .inl (nI k)), (4, .inl cm), (3, .inl wh), (2, .inr (.inr (some (D.ip j)))), (1, .inr (.inr (some q))), (0, .inr (.inr (some 169)))], [.inr (.inr (some y)), .inr (.inr (some 169))], H)) (by first | (rw [y2_2]; done) | (rw [y2_2]; rfl)) ?_
    refine mw_go mu_g471 (k := 3) (f1 := (26, [(5, .inl (nI k)), (4, .inl cm), (3, .inl wh), (2, .inr (.inr (some (D.ip j)))), (1, .inr (.inr (some q))), (0, .inr (.inr (some 169)))], [.inl (1 : Int32), .inl wh, .inr (.inr (some (D.ip j))), .inr (.inr (some y)), .inr (.inr (some 169))], H)) (C := []) rfl trivial ?_
    rw [csl] at hR
    refine mw_cE (as := [.inr (.inr (some y)), .inr (.inr (some (D.ip j))), .inl wh, .inl (1 : Int32)]) (o := (some 169)) (S1 := []) rfl rfl rfl rfl (Nat.le_of_ble_eq_true rfl) (by decide) (show mu_is H (some 169) 1 from hr.2.2.1.1) rfl (by decide) (ih d y (tkk c k) H (dd - 1) 1 (Or.inr rfl) hr (hh.ff hf) yn2 xk (hk.k kt)) (fun E9 e9 => Or.inl ⟨_, rfl, by rw [e9.1] at hR; exact hR.symm, (hf.tr e9.2).wk (by decide)⟩) (fun v9 H3 e9 => ?_)
    obtain ⟨s, rfl, p1, p2⟩ := e9
    show mu_W _ mu_m471 (29, [(5, .inl (nI k)), (4, .inl cm), (3, .inl wh), (2, .inr (.inr (some (D.ip j)))), (1, .inr (.inr (some q))), (0, .inr (.inr (some 169)))], [.inl s], H3) _
    rw [p1] at hR
    dsimp only at hR
    have hr2 := p2.rms hr
    refine mw_go mu_g471 (k := 3) (f1 := (34, [(6, .inl s), (5, .inl (nI k)), (4, .inl cm), (3, .inl wh), (2, .inr (.inr (some (D.ip j)))), (1, .inr (.inr (some q))), (0, .inr (.inr (some 169)))], [.inl (1 : Int32), .inl (nI k)], H3)) (C := []) rfl trivial ?_
    refine mw_if (P := (nI k) = (1 : Int32)) (a := 37) (b := 41) (fun _ => rfl) trivial (fun h2 => ?_) (fun h2 => ?_)
    · -- 37
      have kk1 : k = 1 := nI_is (x := (1 : Int32)) (by omega) h2 (by decide)
      rw [show (if k = 1 then s else cm) = s from if_pos kk1] at hR
      refine mw_go mu_g471 (k := 7) (f1 := (48, [(4, .inl s), (6, .inl s), (5, .inl (nI k)), (3, .inl wh), (2, .inr (.inr (some (D.ip j)))), (1, .inr (.inr (some q))), (0, .inr (.inr (some 169)))], [.inl ((nI k) - (nI k) / (2 : Int32) * (2 : Int32)), .inl s, .inr (.inr (some 169))], H3)) (C := [¬ (2 : Int32) = 0]) rfl (show ¬ (2 : Int32) = 0 from (by decide)) ?_
      refine mw_if (P := ((nI k) - (nI k) / (2 : Int32) * (2 : Int32)) = 0) (a := 51) (b := 55) (fun _ => rfl) trivial (fun h3 => ?_) (fun h3 => ?_)
      · -- 51
        refine mw_go mu_g471 (k := 2) (f1 := (57, [(4, .inl s), (6, .inl s), (5, .inl (nI k)), (3, .inl wh), (2, .inr (.inr (some (D.ip j)))), (1, .inr (.inr (some q))), (0, .inr (.inr (some 169)))], [.inl (1 : Int32), .inl s, .inr (.inr (some 169))], H3)) (C := []) rfl trivial ?_
        rw [show (if k % 2 = 0 then (1 : Int32) else s) = (1 : Int32) from if_pos (rI_ev (by omega) h3)] at hR
        refine mw_if (P := s = (1 : Int32)) (a := 60) (b := 64) (fun _ => rfl) trivial (fun h4 => ?_) (fun h4 => ?_)
        · -- 60
          rw [if_pos h4] at hR
          refine mw_go mu_g471 (k := 2) (f1 := (65, [(4, .inl s), (6, .inl s), (5, .inl (nI k)), (3, .inl wh), (2, .inr (.inr (some (D.ip j)))), (1, .inr (.inr (some q))), (0, .inr (.inr (some 169)))], [.inl (1 : Int32), .inr (.inr (some 169))], H3)) (C := []) rfl trivial ?_
          refine mw_cE (as := [.inl (1 : Int32)]) (o := some 169) (S1 := []) rfl rfl rfl rfl (Nat.le_of_ble_eq_true rfl) (by decide) hr2.2.2.1.1 rfl (by decide) (rp_sound (x := 1)) (fun H9 e9 => absurd e9.1 (by decide)) (fun v9 H9 e9 => ?_)
          obtain ⟨_, rfl, e9⟩ := e9
          rw [e9]
          clear e9 H9
          show mu_W _ mu_m471 (68, [(4, .inl s), (6, .inl s), (5, .inl (nI k)), (3, .inl wh), (2, .inr (.inr (some (D.ip j)))), (1, .inr (.inr (some q))), (0, .inr (.inr (some 169)))], [], H3) _
          refine mw_go mu_g471 (k := 2) (f1 := (6, [(5, .inl ((nI k) + 1)), (4, .inl s), (6, .inl s), (3, .inl wh), (2, .inr (.inr (some (D.ip j)))), (1, .inr (.inr (some q))), (0, .inr (.inr (some 169)))], [], H3)) (C := []) rfl trivial ?_
          refine mw_sub (L' := [(5, .inl (nI (k + 1))), (4, .inl s), (3, .inl wh), (2, .inr (.inr (some (D.ip j)))), (1, .inr (.inr (some q))), (0, .inr (.inr (some 169)))]) (by intro x hx; simp only [List.mem_cons, List.not_mem_nil, or_false] at hx ⊢; rcases hx with rfl | rfl | rfl | rfl | rfl | rfl <;> first | (simp [nI_add, show (1 : Int32) = nI 1 from rfl]; done) | simp [nI]) ?_
          exact rp_cased0 hh hn hx hk ih h52 m_ (k + 1) _ _ (by omega) hr2 (hf.tr p2) hR
        · -- 64
          rw [if_neg h4] at hR
          refine mw_go mu_g471 (k := 1) (f1 := (65, [(4, .inl s), (6, .inl s), (5, .inl (nI k)), (3, .inl wh), (2, .inr (.inr (some (D.ip j)))), (1, .inr (.inr (some q))), (0, .inr (.inr (some 169)))], [.inl (0 : Int32), .inr (.inr (some 169))], H3)) (C := []) rfl trivial ?_
          exact mw_cE (as := [.inl (0 : Int32)]) (o := some 169) (S1 := []) rfl rfl rfl rfl (Nat.le_of_ble_eq_true rfl) (by decide) hr2.2.2.1.1 rfl (by decide) (rp_sound (x := 0)) (fun H9 e9 => by rw [e9.2]; exact Or.inl ⟨_, rfl, hR.symm, (hf.tr p2).ex⟩) (fun v9 H9 e9 => absurd rfl e9.1)
      · -- 55
        refine mw_go mu_g471 (k := 1) (f1 := (57, [(4, .inl s), (6, .inl s), (5, .inl (nI k)), (3, .inl wh), (2, .inr (.inr (some (D.ip j)))), (1, .inr (.inr (some q))), (0, .inr (.inr (some 169)))], [.inl s, .inl s, .inr (.inr (some 169))], H3)) (C := []) rfl trivial ?_
        rw [show (if k % 2 = 0 then (1 : Int32) else s) = s from if_neg (fun z => h3 (rI_ev2 (by omega) z))] at hR
        refine mw_if (P := s = s) (a := 60) (b := 64) (fun _ => rfl) trivial (fun h4 => ?_) (fun h4 => ?_)
        · -- 60
          rw [if_pos h4] at hR
          refine mw_go mu_g471 (k := 2) (f1 := (65, [(4, .inl s), (6, .inl s), (5, .inl (nI k)), (3, .inl wh), (2, .inr (.inr (some (D.ip j)))), (1, .inr (.inr (some q))), (0, .inr (.inr (some 169)))], [.inl (1 : Int32), .inr (.inr (some 169))], H3)) (C := []) rfl trivial ?_
          refine mw_cE (as := [.inl (1 : Int32)]) (o := some 169) (S1 := []) rfl rfl rfl rfl (Nat.le_of_ble_eq_true rfl) (by decide) hr2.2.2.1.1 rfl (by decide) (rp_sound (x := 1)) (fun H9 e9 => absurd e9.1 (by decide)) (fun v9 H9 e9 => ?_)
          obtain ⟨_, rfl, e9⟩ := e9
          rw [e9]
          clear e9 H9
          show mu_W _ mu_m471 (68, [(4, .inl s), (6, .inl s), (5, .inl (nI k)), (3, .inl wh), (2, .inr (.inr (some (D.ip j)))), (1, .inr (.inr (some q))), (0, .inr (.inr (some 169)))], [], H3) _
          refine mw_go mu_g471 (k := 2) (f1 := (6, [(5, .inl ((nI k) + 1)), (4, .inl s), (6, .inl s), (3, .inl wh), (2, .inr (.inr (some (D.ip j)))), (1, .inr (.inr (some q))), (0, .inr (.inr (some 169)))], [], H3)) (C := []) rfl trivial ?_
          refine mw_sub (L' := [(5, .inl (nI (k + 1))), (4, .inl s), (3, .inl wh), (2, .inr (.inr (some (D.ip j)))), (1, .inr (.inr (some q))), (0, .inr (.inr (some 169)))]) (by intro x hx; simp only [List.mem_cons, List.not_mem_nil, or_false] at hx ⊢; rcases hx with rfl | rfl | rfl | rfl | rfl | rfl <;> first | (simp [nI_add, show (1 : Int32) = nI 1 from rfl]; done) | simp [nI]) ?_
          exact rp_cased0 hh hn hx hk ih h52 m_ (k + 1) _ _ (by omega) hr2 (hf.tr p2) hR
        · -- 64
          rw [if_neg h4] at hR
          refine mw_go mu_g471 (k := 1) (f1 := (65, [(4, .inl s), (6, .inl s), (5, .inl (nI k)), (3, .inl wh), (2, .inr (.inr (some (D.ip j)))), (1, .inr (.inr (some q))), (0, .inr (.inr (some 169)))], [.inl (0 : Int32), .inr (.inr (some 169))], H3)) (C := []) rfl trivial ?_
          exact mw_cE (as := [.inl (0 : Int32)]) (o := some 169) (S1 := []) rfl rfl rfl rfl (Nat.le_of_ble_eq_true rfl) (by decide) hr2.2.2.1.1 rfl (by decide) (rp_sound (x := 0)) (fun H9 e9 => by rw [e9.2]; exact Or.inl ⟨_, rfl, hR.symm, (hf.tr p2).ex⟩) (fun v9 H9 e9 => absurd rfl e9.1)
    · -- 41
      have kk1 : ¬ k = 1 := fun w => h2 (by rw [w]; rfl)
      rw [show (if k = 1 then s else cm) = cm from if_neg kk1] at hR
      refine mw_go mu_g471 (k := 5) (f1 := (48, [(6, .inl s), (5, .inl (nI k)), (4, .inl cm), (3, .inl wh), (2, .inr (.inr (some (D.ip j)))), (1, .inr (.inr (some q))), (0, .inr (.inr (some 169)))], [.inl ((nI k) - (nI k) / (2 : Int32) * (2 : Int32)), .inl s, .inr (.inr (some 169))], H3)) (C := [¬ (2 : Int32) = 0]) rfl (show ¬ (2 : Int32) = 0 from (by decide)) ?_
      refine mw_if (P := ((nI k) - (nI k) / (2 : Int32) * (2 : Int32)) = 0) (a := 51) (b := 55) (fun _ => rfl) trivial (fun h3 => ?_) (fun h3 => ?_)
      · -- 51
        refine mw_go mu_g471 (k := 2) (f1 := (57, [(6, .inl s), (5, .inl (nI k)), (4, .inl cm), (3, .inl wh), (2, .inr (.inr (some (D.ip j)))), (1, .inr (.inr (some q))), (0, .inr (.inr (some 169)))], [.inl (1 : Int32), .inl s, .inr (.inr (some 169))], H3)) (C := []) rfl trivial ?_
        rw [show (if k % 2 = 0 then (1 : Int32) else cm) = (1 : Int32) from if_pos (rI_ev (by omega) h3)] at hR
        refine mw_if (P := s = (1 : Int32)) (a := 60) (b := 64) (fun _ => rfl) trivial (fun h4 => ?_) (fun h4 => ?_)
        · -- 60
          rw [if_pos h4] at hR
          refine mw_go mu_g471 (k := 2) (f1 := (65, [(6, .inl s), (5, .inl (nI k)), (4, .inl cm), (3, .inl wh), (2, .inr (.inr (some (D.ip j)))), (1, .inr (.inr (some q))), (0, .inr (.inr (some 169)))], [.inl (1 : Int32), .inr (.inr (some 169))], H3)) (C := []) rfl trivial ?_
          refine mw_cE (as := [.inl (1 : Int32)]) (o := some 169) (S1 := []) rfl rfl rfl rfl (Nat.le_of_ble_eq_true rfl) (by decide) hr2.2.2.1.1 rfl (by decide) (rp_sound (x := 1)) (fun H9 e9 => absurd e9.1 (by decide)) (fun v9 H9 e9 => ?_)
          obtain ⟨_, rfl, e9⟩ := e9
          rw [e9]
          clear e9 H9
          show mu_W _ mu_m471 (68, [(6, .inl s), (5, .inl (nI k)), (4, .inl cm), (3, .inl wh), (2, .inr (.inr (some (D.ip j)))), (1, .inr (.inr (some q))), (0, .inr (.inr (some 169)))], [], H3) _
          refine mw_go mu_g471 (k := 2) (f1 := (6, [(5, .inl ((nI k) + 1)), (6, .inl s), (4, .inl cm), (3, .inl wh), (2, .inr (.inr (some (D.ip j)))), (1, .inr (.inr (some q))), (0, .inr (.inr (some 169)))], [], H3)) (C := []) rfl trivial ?_
          refine mw_sub (L' := [(5, .inl (nI (k + 1))), (4, .inl cm), (3, .inl wh), (2, .inr (.inr (some (D.ip j)))), (1, .inr (.inr (some q))), (0, .inr (.inr (some 169)))]) (by intro x hx; simp only [List.mem_cons, List.not_mem_nil, or_false] at hx ⊢; rcases hx with rfl | rfl | rfl | rfl | rfl | rfl <;> first | (simp [nI_add, show (1 : Int32) = nI 1 from rfl]; done) | simp [nI]) ?_
          exact rp_cased0 hh hn hx hk ih h52 m_ (k + 1) _ _ (by omega) hr2 (hf.tr p2) hR
        · -- 64
          rw [if_neg h4] at hR
          refine mw_go mu_g471 (k := 1) (f1 := (65, [(6, .inl s), (5, .inl (nI k)), (4, .inl cm), (3, .inl wh), (2, .inr (.inr (some (D.ip j)))), (1, .inr (.inr (some q))), (0, .inr (.inr (some 169)))], [.inl (0 : Int32), .inr (.inr (some 169))], H3)) (C := []) rfl trivial ?_
          exact mw_cE (as := [.inl (0 : Int32)]) (o := some 169) (S1 := []) rfl rfl rfl rfl (Nat.le_of_ble_eq_true rfl) (by decide) hr2.2.2.1.1 rfl (by decide) (rp_sound (x := 0)) (fun H9 e9 => by rw [e9.2]; exact Or.inl ⟨_, rfl, hR.symm, (hf.tr p2).ex⟩) (fun v9 H9 e9 => absurd rfl e9.1)
      · -- 55
        refine mw_go mu_g471 (k := 1) (f1 := (57, [(6, .inl s), (5, .inl (nI k)), (4, .inl cm), (3, .inl wh), (2, .inr (.inr (some (D.ip j)))), (1, .inr (.inr (some q))), (0, .inr (.inr (some 169)))], [.inl cm, .inl s, .inr (.inr (some 169))], H3)) (C := []) rfl trivial ?_
        rw [show (if k % 2 = 0 then (1 : Int32) else cm) = cm from if_neg (fun z => h3 (rI_ev2 (by omega) z))] at hR
        refine mw_if (P := s = cm) (a := 60) (b := 64) (fun _ => rfl) trivial (fun h4 => ?_) (fun h4 => ?_)
        · -- 60
          rw [if_pos h4] at hR
          refine mw_go mu_g471 (k := 2) (f1 := (65, [(6, .inl s), (5, .inl (nI k)), (4, .inl cm), (3, .inl wh), (2, .inr (.inr (some (D.ip j)))), (1, .inr (.inr (some q))), (0, .inr (.inr (some 169)))], [.inl (1 : Int32), .inr (.inr (some 169))], H3)) (C := []) rfl trivial ?_
          refine mw_cE (as := [.inl (1 : Int32)]) (o := some 169) (S1 := []) rfl rfl rfl rfl (Nat.le_of_ble_eq_true rfl) (by decide) hr2.2.2.1.1 rfl (by decide) (rp_sound (x := 1)) (fun H9 e9 => absurd e9.1 (by decide)) (fun v9 H9 e9 => ?_)
          obtain ⟨_, rfl, e9⟩ := e9
          rw [e9]
          clear e9 H9
          show mu_W _ mu_m471 (68, [(6, .inl s), (5, .inl (nI k)), (4, .inl cm), (3, .inl wh), (2, .inr (.inr (some (D.ip j)))), (1, .inr (.inr (some q))), (0, .inr (.inr (some 169)))], [], H3) _
          refine mw_go mu_g471 (k := 2) (f1 := (6, [(5, .inl ((nI k) + 1)), (6, .inl s), (4, .inl cm), (3, .inl wh), (2, .inr (.inr (some (D.ip j)))), (1, .inr (.inr (some q))), (0, .inr (.inr (some 169)))], [], H3)) (C := []) rfl trivial ?_
          refine mw_sub (L' := [(5, .inl (nI (k + 1))), (4, .inl cm), (3, .inl wh), (2, .inr (.inr (some (D.ip j)))), (1, .inr (.inr (some q))), (0, .inr (.inr (some 169)))]) (by intro x hx; simp only [List.mem_cons, List.not_mem_nil, or_false] at hx ⊢; rcases hx with rfl | rfl | rfl | rfl | rfl | rfl <;> first | (simp [nI_add, show (1 : Int32) = nI 1 from rfl]; done) | simp [nI]) ?_
          exact rp_cased0 hh hn hx hk ih h52 m_ (k + 1) _ _ (by omega) hr2 (hf.tr p2) hR
        · -- 64
          rw [if_neg h4] at hR
          refine mw_go mu_g471 (k := 1) (f1 := (65, [(6, .inl s), (5, .inl (nI k)), (4, .inl cm), (3, .inl wh), (2, .inr (.inr (some (D.ip j)))), (1, .inr (.inr (some q))), (0, .inr (.inr (some 169)))], [.inl (0 : Int32), .inr (.inr (some 169))], H3)) (C := []) rfl trivial ?_
          exact mw_cE (as := [.inl (0 : Int32)]) (o := some 169) (S1 := []) rfl rfl rfl rfl (Nat.le_of_ble_eq_true rfl) (by decide) hr2.2.2.1.1 rfl (by decide) (rp_sound (x := 0)) (fun H9 e9 => by rw [e9.2]; exact Or.inl ⟨_, rfl, hR.symm, (hf.tr p2).ex⟩) (fun v9 H9 e9 => absurd rfl e9.1)
theorem rp_cased {Hb H : mu_H} {D : MD} {sp : Nat} {ss : Nat → Int32} {j l d dd q : Nat} {wh : Int32} {c : Tre} (hh : sts H D sp ss) (hn : nd Hb D.G dd q c) (hx : exw (l + 1) c) (hk : nmk D j c) (ih : srk Hb D sp ss j wh l) (hr : rms Hb D H) (h52 : tkd c = 52) : mu_TE 2 (mu_D (d + 2 * l + 9)) 471 [.inr (.inr (some 169)), .inr (.inr (some q)), .inr (.inr (some (D.ip j))), .inl wh] H (fun H1 => csl (fun k => srt D j ss wh l 1 (tkk c k)) (tsn c) 0 0 = none ∧ ffr 1 H H1) (fun v H1 => ∃ x, v = some (.inl x) ∧ csl (fun k => srt D j ss wh l 1 (tkk c k)) (tsn c) 0 0 = some x ∧ ffr 0 H H1) := by
  refine mu_meth (M := mu_m471) rfl rfl ?_
  refine mw_ht (mu_fn_of (show [0, 1, 2, 3].Nodup by decide)) ?_
  refine mw_go mu_g471 (k := 4) (f1 := (6, [(5, .inl (0 : Int32)), (4, .inl (0 : Int32)), (0, .inr (.inr (some 169))), (1, .inr (.inr (some q))), (2, .inr (.inr (some (D.ip j)))), (3, .inl wh)], [], H)) (C := []) rfl trivial ?_
  refine mw_sub (L' := [(5, .inl (nI 0)), (4, .inl (0 : Int32)), (3, .inl wh), (2, .inr (.inr (some (D.ip j)))), (1, .inr (.inr (some q))), (0, .inr (.inr (some 169)))]) (by intro x hx; simp only [List.mem_cons, List.not_mem_nil, or_false] at hx ⊢; rcases hx with rfl | rfl | rfl | rfl | rfl | rfl <;> simp [nI]) ?_
  exact rp_cased0 hh hn hx hk ih h52 (tsn c) 0 0 _ (Nat.zero_add _) hr ffr.rf rfl
theorem rp_chB {Hb H0 H : mu_H} {D : MD} {j l d q y k m : Nat} {wh pl : Int32} {c : Tre} {f : Nat → Option Int32} {R : Option Int32} {E : Option Int32} (hr : rms Hb D H) (hf : ffr 0 H0 H) (hy : mu_TE 2 (mu_D (d + 2 * l + 8)) 467 [.inr (.inr (some 169)), .inr (.inr (some y)), .inr (.inr (some (D.ip j))), .inl wh, .inl (if pl = 0 then (if chs c = 2 then (1 : Int32) else 0) else 1)] H (fun H1 => E = none ∧ ffr 1 H H1) (fun v H1 => ∃ x, v = some (.inl x) ∧ E = some x ∧ ffr 0 H H1)) (hRn : E = none → R = none) (hRs : ∀ s, E = some s → (if s = chs c then cnl f (chs c) m (k + 1) else none) = R) (hnx : ∀ H1, rms Hb D H1 → ffr 0 H0 H1 → cnl f (chs c) m (k + 1) = R → mu_W (mu_D (d + 2 * l + 8)) mu_m472 (38, [(6, .inl (nI (k + 1))), (5, .inl (chs c)), (4, .inl pl), (3, .inl wh), (2, .inr (.inr (some (D.ip j)))), (1, .inr (.inr (some q))), (0, .inr (.inr (some 169)))], [], H1) (fun r => (∃ H1, r = (.inr 2, H1) ∧ R = none ∧ ffr 1 H0 H1) ∨ ∃ v H1, r = (.inl v, H1) ∧ ∃ x, v = some (.inl x) ∧ R = some x ∧ ffr 0 H0 H1)) : mu_W (mu_D (d + 2 * l + 8)) mu_m472 (73, [(6, .inl (nI k)), (5, .inl (chs c)), (4, .inl pl), (3, .inl wh), (2, .inr (.inr (some (D.ip j)))), (1, .inr (.inr (some q))), (0, .inr (.inr (some 169)))], [.inr (.inr (some y))], H) (fun r => (∃ H1, r = (.inr 2, H1) ∧ R = none ∧ ffr 1 H0 H1) ∨ ∃ v H1, r = (.inl v, H1) ∧ ∃ x, v = some (.inl x) ∧ R = some x ∧ ffr 0 H0 H1) := by
  refine mw_go mu_g472 (k := 7) (f1 := (83, [(7, .inr (.inr (some y))), (6, .inl (nI k)), (5, .inl (chs c)), (4, .inl pl), (3, .inl wh), (2, .inr (.inr (some (D.ip j)))), (1, .inr (.inr (some q))), (0, .inr (.inr (some 169)))], [.inl pl, .inl wh, .inr (.inr (some (D.ip j))), .inr (.inr (some y)), .inr (.inr (some 169)), .inr (.inr (some 169))], H)) (C := []) rfl trivial ?_
  refine mw_if (P := pl = 0) (a := 86) (b := 92) (fun _ => rfl) trivial (fun h1 => ?_) (fun h1 => ?_)
  · -- 86
    refine mw_go mu_g472 (k := 2) (f1 := (89, [(7, .inr (.inr (some y))), (6, .inl (nI k)), (5, .inl (chs c)), (4, .inl pl), (3, .inl wh), (2, .inr (.inr (some (D.ip j)))), (1, .inr (.inr (some q))), (0, .inr (.inr (some 169)))], [.inl (2 : Int32), .inl (chs c), .inl wh, .inr (.inr (some (D.ip j))), .inr (.inr (some y)), .inr (.inr (some 169)), .inr (.inr (some 169))], H)) (C := []) rfl trivial ?_
    refine mw_if (P := (chs c) = (2 : Int32)) (a := 92) (b := 96) (fun _ => rfl) trivial (fun h2 => ?_) (fun h2 => ?_)
    · -- 92
      refine mw_go mu_g472 (k := 2) (f1 := (97, [(7, .inr (.inr (some y))), (6, .inl (nI k)), (5, .inl (chs c)), (4, .inl pl), (3, .inl wh), (2, .inr (.inr (some (D.ip j)))), (1, .inr (.inr (some q))), (0, .inr (.inr (some 169)))], [.inl (1 : Int32), .inl wh, .inr (.inr (some (D.ip j))), .inr (.inr (some y)), .inr (.inr (some 169)), .inr (.inr (some 169))], H)) (C := []) rfl trivial ?_
      rw [show (if pl = 0 then (if chs c = 2 then (1 : Int32) else 0) else 1) = (1 : Int32) from by rw [if_pos h1, if_pos h2]] at hy
      have hy2 := hy
      refine mw_cE (as := [.inr (.inr (some y)), .inr (.inr (some (D.ip j))), .inl wh, .inl (1 : Int32)]) (o := (some 169)) (S1 := [.inr (.inr (some 169))]) rfl rfl rfl rfl (Nat.le_of_ble_eq_true rfl) (by decide) (show mu_is H (some 169) 1 from hr.2.2.1.1) rfl (by decide) hy2 (fun E9 e9 => Or.inl ⟨_, rfl, hRn e9.1, (hf.tr e9.2).wk (by decide)⟩) (fun v9 H1 e9 => ?_)
      obtain ⟨s, rfl, p1, p2⟩ := e9
      show mu_W _ mu_m472 (100, [(7, .inr (.inr (some y))), (6, .inl (nI k)), (5, .inl (chs c)), (4, .inl pl), (3, .inl wh), (2, .inr (.inr (some (D.ip j)))), (1, .inr (.inr (some q))), (0, .inr (.inr (some 169)))], [.inl s, .inr (.inr (some 169))], H1) _
      have hR := hRs s p1
      have hr2 := p2.rms hr
      refine mw_go mu_g472 (k := 1) (f1 := (102, [(7, .inr (.inr (some y))), (6, .inl (nI k)), (5, .inl (chs c)), (4, .inl pl), (3, .inl wh), (2, .inr (.inr (some (D.ip j)))), (1, .inr (.inr (some q))), (0, .inr (.inr (some 169)))], [.inl (chs c), .inl s, .inr (.inr (some 169))], H1)) (C := []) rfl trivial ?_
      refine mw_if (P := s = (chs c)) (a := 105) (b := 109) (fun _ => rfl) trivial (fun h9 => ?_) (fun h9 => ?_)
      · -- 105
        rw [if_pos h9] at hR
        refine mw_go mu_g472 (k := 2) (f1 := (110, [(7, .inr (.inr (some y))), (6, .inl (nI k)), (5, .inl (chs c)), (4, .inl pl), (3, .inl wh), (2, .inr (.inr (some (D.ip j)))), (1, .inr (.inr (some q))), (0, .inr (.inr (some 169)))], [.inl (1 : Int32), .inr (.inr (some 169))], H1)) (C := []) rfl trivial ?_
        refine mw_cE (as := [.inl (1 : Int32)]) (o := some 169) (S1 := []) rfl rfl rfl rfl (Nat.le_of_ble_eq_true rfl) (by decide) hr2.2.2.1.1 rfl (by decide) (rp_sound (x := 1)) (fun H9 e9 => absurd e9.1 (by decide)) (fun v9 H9 e9 => ?_)
        obtain ⟨_, rfl, e9⟩ := e9
        rw [e9]
        clear e9 H9
        show mu_W _ mu_m472 (113, [(7, .inr (.inr (some y))), (6, .inl (nI k)), (5, .inl (chs c)), (4, .inl pl), (3, .inl wh), (2, .inr (.inr (some (D.ip j)))), (1, .inr (.inr (some q))), (0, .inr (.inr (some 169)))], [], H1) _
        refine mw_go mu_g472 (k := 2) (f1 := (38, [(6, .inl ((nI k) + 1)), (7, .inr (.inr (some y))), (5, .inl (chs c)), (4, .inl pl), (3, .inl wh), (2, .inr (.inr (some (D.ip j)))), (1, .inr (.inr (some q))), (0, .inr (.inr (some 169)))], [], H1)) (C := []) rfl trivial ?_
        refine mw_sub (L' := [(6, .inl (nI (k + 1))), (5, .inl (chs c)), (4, .inl pl), (3, .inl wh), (2, .inr (.inr (some (D.ip j)))), (1, .inr (.inr (some q))), (0, .inr (.inr (some 169)))]) (by intro x hx; simp only [List.mem_cons, List.not_mem_nil, or_false] at hx ⊢; rcases hx with rfl | rfl | rfl | rfl | rfl | rfl | rfl <;> first | (simp [nI_add, show (1 : Int32) = nI 1 from rfl]; done) | simp [nI]) ?_
        exact hnx _ (p2.rms hr) (hf.tr p2) hR
      · -- 109
        rw [if_neg h9] at hR
        refine mw_go mu_g472 (k := 1) (f1 := (110, [(7, .inr (.inr (some y))), (6, .inl (nI k)), (5, .inl (chs c)), (4, .inl pl), (3, .inl wh), (2, .inr (.inr (some (D.ip j)))), (1, .inr (.inr (some q))), (0, .inr (.inr (some 169)))], [.inl (0 : Int32), .inr (.inr (some 169))], H1)) (C := []) rfl trivial ?_
        exact mw_cE (as := [.inl (0 : Int32)]) (o := some 169) (S1 := []) rfl rfl rfl rfl (Nat.le_of_ble_eq_true rfl) (by decide) hr2.2.2.1.1 rfl (by decide) (rp_sound (x := 0)) (fun H9 e9 => by rw [e9.2]; exact Or.inl ⟨_, rfl, hR.symm, (hf.tr p2).ex⟩) (fun v9 H9 e9 => absurd rfl e9.1)
    · -- 96
      refine mw_go mu_g472 (k := 1) (f1 := (97, [(7, .inr (.inr (some y))), (6, .inl (nI k)), (5, .inl (chs c)), (4, .inl pl), (3, .inl wh), (2, .inr (.inr (some (D.ip j)))), (1, .inr (.inr (some q))), (0, .inr (.inr (some 169)))], [.inl (0 : Int32), .inl wh, .inr (.inr (some (D.ip j))), .inr (.inr (some y)), .inr (.inr (some 169)), .inr (.inr (some 169))], H)) (C := []) rfl trivial ?_
      rw [show (if pl = 0 then (if chs c = 2 then (1 : Int32) else 0) else 1) = (0 : Int32) from by rw [if_pos h1, if_neg h2]] at hy
      have hy2 := hy
      refine mw_cE (as := [.inr (.inr (some y)), .inr (.inr (some (D.ip j))), .inl wh, .inl (0 : Int32)]) (o := (some 169)) (S1 := [.inr (.inr (some 169))]) rfl rfl rfl rfl (Nat.le_of_ble_eq_true rfl) (by decide) (show mu_is H (some 169) 1 from hr.2.2.1.1) rfl (by decide) hy2 (fun E9 e9 => Or.inl ⟨_, rfl, hRn e9.1, (hf.tr e9.2).wk (by decide)⟩) (fun v9 H2 e9 => ?_)
      obtain ⟨s, rfl, p1, p2⟩ := e9
      show mu_W _ mu_m472 (100, [(7, .inr (.inr (some y))), (6, .inl (nI k)), (5, .inl (chs c)), (4, .inl pl), (3, .inl wh), (2, .inr (.inr (some (D.ip j)))), (1, .inr (.inr (some q))), (0, .inr (.inr (some 169)))], [.inl s, .inr (.inr (some 169))], H2) _
      have hR := hRs s p1
      have hr2 := p2.rms hr
      refine mw_go mu_g472 (k := 1) (f1 := (102, [(7, .inr (.inr (some y))), (6, .inl (nI k)), (5, .inl (chs c)), (4, .inl pl), (3, .inl wh), (2, .inr (.inr (some (D.ip j)))), (1, .inr (.inr (some q))), (0, .inr (.inr (some 169)))], [.inl (chs c), .inl s, .inr (.inr (some 169))], H2)) (C := []) rfl trivial ?_
      refine mw_if (P := s = (chs c)) (a := 105) (b := 109) (fun _ => rfl) trivial (fun h9 => ?_) (fun h9 => ?_)
      · -- 105
        rw [if_pos h9] at hR
        refine mw_go mu_g472 (k := 2) (f1 := (110, [(7, .inr (.inr (some y))), (6, .inl (nI k)), (5, .inl (chs c)), (4, .inl pl), (3, .inl wh), (2, .inr (.inr (some (D.ip j)))), (1, .inr (.inr (some q))), (0, .inr (.inr (some 169)))], [.inl (1 : Int32), .inr (.inr (some 169))], H2)) (C := []) rfl trivial ?_
        refine mw_cE (as := [.inl (1 : Int32)]) (o := some 169) (S1 := []) rfl rfl rfl rfl (Nat.le_of_ble_eq_true rfl) (by decide) hr2.2.2.1.1 rfl (by decide) (rp_sound (x := 1)) (fun H9 e9 => absurd e9.1 (by decide)) (fun v9 H9 e9 => ?_)
        obtain ⟨_, rfl, e9⟩ := e9
        rw [e9]
        clear e9 H9
        show mu_W _ mu_m472 (113, [(7, .inr (.inr (some y))), (6, .inl (nI k)), (5, .inl (chs c)), (4, .inl pl), (3, .inl wh), (2, .inr (.inr (some (D.ip j)))), (1, .inr (.inr (some q))), (0, .inr (.inr (some 169)))], [], H2) _
        refine mw_go mu_g472 (k := 2) (f1 := (38, [(6, .inl ((nI k) + 1)), (7, .inr (.inr (some y))), (5, .inl (chs c)), (4, .inl pl), (3, .inl wh), (2, .inr (.inr (some (D.ip j)))), (1, .inr (.inr (some q))), (0, .inr (.inr (some 169)))], [], H2)) (C := []) rfl trivial ?_
        refine mw_sub (L' := [(6, .inl (nI (k + 1))), (5, .inl (chs c)), (4, .inl pl), (3, .inl wh), (2, .inr (.inr (some (D.ip j)))), (1, .inr (.inr (some q))), (0, .inr (.inr (some 169)))]) (by intro x hx; simp only [List.mem_cons, List.not_mem_nil, or_false] at hx ⊢; rcases hx with rfl | rfl | rfl | rfl | rfl | rfl | rfl <;> first | (simp [nI_add, show (1 : Int32) = nI 1 from rfl]; done) | simp [nI]) ?_
        exact hnx _ (p2.rms hr) (hf.tr p2) hR
      · -- 109
        rw [if_neg h9] at hR
        refine mw_go mu_g472 (k := 1) (f1 := (110, [(7, .inr (.inr (some y))), (6, .inl (nI k)), (5, .inl (chs c)), (4, .inl pl), (3, .inl wh), (2, .inr (.inr (some (D.ip j)))), (1, .inr (.inr (some q))), (0, .inr (.inr (some 169)))], [.inl (0 : Int32), .inr (.inr (some 169))], H2)) (C := []) rfl trivial ?_
        exact mw_cE (as := [.inl (0 : Int32)]) (o := some 169) (S1 := []) rfl rfl rfl rfl (Nat.le_of_ble_eq_true rfl) (by decide) hr2.2.2.1.1 rfl (by decide) (rp_sound (x := 0)) (fun H9 e9 => by rw [e9.2]; exact Or.inl ⟨_, rfl, hR.symm, (hf.tr p2).ex⟩) (fun v9 H9 e9 => absurd rfl e9.1)
  · -- 92
    refine mw_go mu_g472 (k := 2) (f1 := (97, [(7, .inr (.inr (some y))), (6, .inl (nI k)), (5, .inl (chs c)), (4, .inl pl), (3, .inl wh), (2, .inr (.inr (some (D.ip j)))), (1, .inr (.inr (some q))), (0, .inr (.inr (some 169)))], [.inl (1 : Int32), .inl wh, .inr (.inr (some (D.ip j))), .inr (.inr (some y)), .inr (.inr (some 169)), .inr (.inr (some 169))], H)) (C := []) rfl trivial ?_
    rw [show (if pl = 0 then (if chs c = 2 then (1 : Int32) else 0) else 1) = (1 : Int32) from if_neg h1] at hy
    have hy2 := hy
    refine mw_cE (as := [.inr (.inr (some y)), .inr (.inr (some (D.ip j))), .inl wh, .inl (1 : Int32)]) (o := (some 169)) (S1 := [.inr (.inr (some 169))]) rfl rfl rfl rfl (Nat.le_of_ble_eq_true rfl) (by decide) (show mu_is H (some 169) 1 from hr.2.2.1.1) rfl (by decide) hy2 (fun E9 e9 => Or.inl ⟨_, rfl, hRn e9.1, (hf.tr e9.2).wk (by decide)⟩) (fun v9 H3 e9 => ?_)
    obtain ⟨s, rfl, p1, p2⟩ := e9
    show mu_W _ mu_m472 (100, [(7, .inr (.inr (some y))), (6, .inl (nI k)), (5, .inl (chs c)), (4, .inl pl), (3, .inl wh), (2, .inr (.inr (some (D.ip j)))), (1, .inr (.inr (some q))), (0, .inr (.inr (some 169)))], [.inl s, .inr (.inr (some 169))], H3) _
    have hR := hRs s p1
    have hr2 := p2.rms hr
    refine mw_go mu_g472 (k := 1) (f1 := (102, [(7, .inr (.inr (some y))), (6, .inl (nI k)), (5, .inl (chs c)), (4, .inl pl), (3, .inl wh), (2, .inr (.inr (some (D.ip j)))), (1, .inr (.inr (some q))), (0, .inr (.inr (some 169)))], [.inl (chs c), .inl s, .inr (.inr (some 169))], H3)) (C := []) rfl trivial ?_
    refine mw_if (P := s = (chs c)) (a := 105) (b := 109) (fun _ => rfl) trivial (fun h9 => ?_) (fun h9 => ?_)
    · -- 105
      rw [if_pos h9] at hR
      refine mw_go mu_g472 (k := 2) (f1 := (110, [(7, .inr (.inr (some y))), (6, .inl (nI k)), (5, .inl (chs c)), (4, .inl pl), (3, .inl wh), (2, .inr (.inr (some (D.ip j)))), (1, .inr (.inr (some q))), (0, .inr (.inr (some 169)))], [.inl (1 : Int32), .inr (.inr (some 169))], H3)) (C := []) rfl trivial ?_
      refine mw_cE (as := [.inl (1 : Int32)]) (o := some 169) (S1 := []) rfl rfl rfl rfl (Nat.le_of_ble_eq_true rfl) (by decide) hr2.2.2.1.1 rfl (by decide) (rp_sound (x := 1)) (fun H9 e9 => absurd e9.1 (by decide)) (fun v9 H9 e9 => ?_)
      obtain ⟨_, rfl, e9⟩ := e9
      rw [e9]
      clear e9 H9
      show mu_W _ mu_m472 (113, [(7, .inr (.inr (some y))), (6, .inl (nI k)), (5, .inl (chs c)), (4, .inl pl), (3, .inl wh), (2, .inr (.inr (some (D.ip j)))), (1, .inr (.inr (some q))), (0, .inr (.inr (some 169)))], [], H3) _
      refine mw_go mu_g472 (k := 2) (f1 := (38, [(6, .inl ((nI k) + 1)), (7, .inr (.inr (some y))), (5, .inl (chs c)), (4, .inl pl), (3, .inl wh), (2, .inr (.inr (some (D.ip j)))), (1, .inr (.inr (some q))), (0, .inr (.inr (some 169)))], [], H3)) (C := []) rfl trivial ?_
      refine mw_sub (L' := [(6, .inl (nI (k + 1))), (5, .inl (chs c)), (4, .inl pl), (3, .inl wh), (2, .inr (.inr (some (D.ip j)))), (1, .inr (.inr (some q))), (0, .inr (.inr (some 169)))]) (by intro x hx; simp only [List.mem_cons, List.not_mem_nil, or_false] at hx ⊢; rcases hx with rfl | rfl | rfl | rfl | rfl | rfl | rfl <;> first | (simp [nI_add, show (1 : Int32) = nI 1 from rfl]; done) | simp [nI]) ?_
      exact hnx _ (p2.rms hr) (hf.tr p2) hR
    · -- 109
      rw [if_neg h9] at hR
      refine mw_go mu_g472 (k := 1) (f1 := (110, [(7, .inr (.inr (some y))), (6, .inl (nI k)), (5, .inl (chs c)), (4, .inl pl), (3, .inl wh), (2, .inr (.inr (some (D.ip j)))), (1, .inr (.inr (some q))), (0, .inr (.inr (some 169)))], [.inl (0 : Int32), .inr (.inr (some 169))], H3)) (C := []) rfl trivial ?_
      exact mw_cE (as := [.inl (0 : Int32)]) (o := some 169) (S1 := []) rfl rfl rfl rfl (Nat.le_of_ble_eq_true rfl) (by decide) hr2.2.2.1.1 rfl (by decide) (rp_sound (x := 0)) (fun H9 e9 => by rw [e9.2]; exact Or.inl ⟨_, rfl, hR.symm, (hf.tr p2).ex⟩) (fun v9 H9 e9 => absurd rfl e9.1)
theorem rp_chained0 {Hb H0 : mu_H} {D : MD} {sp : Nat} {ss : Nat → Int32} {j l d dd q : Nat} {wh : Int32} {c : Tre} {R : Option Int32} (hh : sts H0 D sp ss) (hn : nd Hb D.G dd q c) (hx : exw (l + 1) c) (hk : nmk D j c) (ih : srk Hb D sp ss j wh l) {pl : Int32} (h66 : tkd c = 66) : ∀ m_ k H, k + m_ = tsn c → rms Hb D H → ffr 0 H0 H → cnl (fun k => srt D j ss wh l (if pl = 0 then (if chs c = 2 then (1 : Int32) else 0) else 1) (lkp c k)) (chs c) m_ k = R → mu_W (mu_D (d + 2 * l + 8)) mu_m472 (38, [(6, .inl (nI k)), (5, .inl (chs c)), (4, .inl pl), (3, .inl wh), (2, .inr (.inr (some (D.ip j)))), (1, .inr (.inr (some q))), (0, .inr (.inr (some 169)))], [], H) (fun r => (∃ H1, r = (.inr 2, H1) ∧ R = none ∧ ffr 1 H0 H1) ∨ ∃ v H1, r = (.inl v, H1) ∧ ∃ x, v = some (.inl x) ∧ R = some x ∧ ffr 0 H0 H1)
  | 0, k, H, hm_, hr, hf, hR => by
    obtain ⟨kd1, ⟨is1, nF1, lt1⟩, ⟨st1, sr1, sf1⟩, ⟨n2_1, n3_1, n7_1⟩, nm1, ar1, aq1, aF1, ai1, ⟨al1, am1, ax1⟩, ch1, dp1⟩ := nd.ra (c := c) hn hr.2.1
    have hl := hn.s26
    refine mw_go mu_g472 (k := 3) (f1 := (44, [(6, .inl (nI k)), (5, .inl (chs c)), (4, .inl pl), (3, .inl wh), (2, .inr (.inr (some (D.ip j)))), (1, .inr (.inr (some q))), (0, .inr (.inr (some 169)))], [.inl (mu_i H q 2), .inl (nI k)], H)) (C := [mu_is H (some q) 18]) rfl (show mu_is H (some q) 18 from is1) ?_
    refine mw_fr (f' := (44, [(6, .inl (nI k)), (5, .inl (chs c)), (4, .inl pl), (3, .inl wh), (2, .inr (.inr (some (D.ip j)))), (1, .inr (.inr (some q))), (0, .inr (.inr (some 169)))], [.inl (nI (tsn c)), .inl (nI k)], H)) (by first | (rw [n2_1]; done) | (rw [n2_1]; rfl)) ?_
    refine mw_if (P := (nI k) < (nI (tsn c))) (a := 47) (b := 119) (fun _ => rfl) trivial (fun h1 => absurd h1 (by rw [show k = tsn c by omega]; exact Int32.lt_irrefl)) (fun h1 => ?_)
    refine mw_go mu_g472 (k := 1) (f1 := (121, [(6, .inl (nI k)), (5, .inl (chs c)), (4, .inl pl), (3, .inl wh), (2, .inr (.inr (some (D.ip j)))), (1, .inr (.inr (some q))), (0, .inr (.inr (some 169)))], [.inl (chs c)], H)) (C := []) rfl trivial ?_
    exact mw_of (fun _ => mu_ret rfl trivial (Or.inr ⟨_, _, rfl, _, rfl, hR.symm, hf⟩))
  | m_ + 1, k, H, hm_, hr, hf, hR => by
    obtain ⟨kd1, ⟨is1, nF1, lt1⟩, ⟨st1, sr1, sf1⟩, ⟨n2_1, n3_1, n7_1⟩, nm1, ar1, aq1, aF1, ai1, ⟨al1, am1, ax1⟩, ch1, dp1⟩ := nd.ra (c := c) hn hr.2.1
    have hl := hn.s26
    have kt : k < tsn c := by omega
    have xk := hx.lk kt
    have pk : (if pl = 0 then (if chs c = 2 then (1 : Int32) else 0) else 1) = 0 ∨ (if pl = 0 then (if chs c = 2 then (1 : Int32) else 0) else 1) = 1 := by
      by_cases e : pl = 0
      · by_cases e2 : chs c = 2
        · rw [if_pos e, if_pos e2]; exact Or.inr rfl
        · rw [if_pos e, if_neg e2]; exact Or.inl rfl
      · rw [if_neg e]; exact Or.inr rfl
    rw [cnl] at hR
    refine mw_go mu_g472 (k := 3) (f1 := (44, [(6, .inl (nI k)), (5, .inl (chs c)), (4, .inl pl), (3, .inl wh), (2, .inr (.inr (some (D.ip j)))), (1, .inr (.inr (some q))), (0, .inr (.inr (some 169)))], [.inl (mu_i H q 2), .inl (nI k)], H)) (C := [mu_is H (some q) 18]) rfl (show mu_is H (some q) 18 from is1) ?_
    refine mw_fr (f' := (44, [(6, .inl (nI k)), (5, .inl (chs c)), (4, .inl pl), (3, .inl wh), (2, .inr (.inr (some (D.ip j)))), (1, .inr (.inr (some q))), (0, .inr (.inr (some 169)))], [.inl (nI (tsn c)), .inl (nI k)], H)) (by first | (rw [n2_1]; done) | (rw [n2_1]; rfl)) ?_
    refine mw_if (P := (nI k) < (nI (tsn c))) (a := 47) (b := 119) (fun _ => rfl) trivial (fun h1 => ?_) (fun h1 => absurd (nI_lt kt (by omega)) h1)
    refine mw_go mu_g472 (k := 1) (f1 := (49, [(6, .inl (nI k)), (5, .inl (chs c)), (4, .inl pl), (3, .inl wh), (2, .inr (.inr (some (D.ip j)))), (1, .inr (.inr (some q))), (0, .inr (.inr (some 169)))], [.inl (nI k)], H)) (C := []) rfl trivial ?_
    refine mw_if (P := (nI k) = 0) (a := 52) (b := 61) (fun _ => rfl) trivial (fun h2 => ?_) (fun h2 => ?_)
    · -- 52
      have kz : k = 0 := nI_is (x := (0 : Int32)) (by omega) h2 (by decide)
      obtain ⟨y, yr2, yn2⟩ := ch1 0 (show 0 < tsn c by omega)
      have yn2 : nd Hb D.G (dd - 1) y (tkk c 0) := yn2
      obtain ⟨b1_2, b2_2, b3_2, b4_2⟩ := ar_at ai1 (by decide) (Nat.lt_of_lt_of_le (show 0 < tsn c by omega) al1) (Nat.lt_of_le_of_lt ax1 (by decide))
      have y2_2 : mu_r H ar1 (0 : Int32).toNatClampNeg = some y := yr2
      refine mw_go mu_g472 (k := 2) (f1 := (56, [(6, .inl (nI k)), (5, .inl (chs c)), (4, .inl pl), (3, .inl wh), (2, .inr (.inr (some (D.ip j)))), (1, .inr (.inr (some q))), (0, .inr (.inr (some 169)))], [.inr (.inr (mu_r H q 1))], H)) (C := [mu_is H (some q) 18]) rfl (show mu_is H (some q) 18 from is1) ?_
      refine mw_fr (f' := (56, [(6, .inl (nI k)), (5, .inl (chs c)), (4, .inl pl), (3, .inl wh), (2, .inr (.inr (some (D.ip j)))), (1, .inr (.inr (some q))), (0, .inr (.inr (some 169)))], [.inr (.inr (some ar1))], H)) (by first | (rw [aq1]; done) | (rw [aq1]; rfl)) ?_
      refine mw_go mu_g472 (k := 2) (f1 := (58, [(6, .inl (nI k)), (5, .inl (chs c)), (4, .inl pl), (3, .inl wh), (2, .inr (.inr (some (D.ip j)))), (1, .inr (.inr (some q))), (0, .inr (.inr (some 169)))], [.inr (.inr (mu_r H ar1 (0 : Int32).toNatClampNeg))], H)) (C := [mu_is H (some ar1) (mu_k H ar1), 103 ≤ mu_k H ar1 ∧ mu_k H ar1 ≤ 110 ∧ mu_k H ar1 ≠ 108, vp_in (0 : Int32) (mu_n H ar1)]) rfl (show (mu_is H (some ar1) (mu_k H ar1)) ∧ (103 ≤ mu_k H ar1 ∧ mu_k H ar1 ≤ 110 ∧ mu_k H ar1 ≠ 108) ∧ (vp_in (0 : Int32) (mu_n H ar1)) from ⟨b1_2, b2_2, b3_2⟩) ?_
      refine mw_fr (f' := (58, [(6, .inl (nI k)), (5, .inl (chs c)), (4, .inl pl), (3, .inl wh), (2, .inr (.inr (some (D.ip j)))), (1, .inr (.inr (some q))), (0, .inr (.inr (some 169)))], [.inr (.inr (some y))], H)) (by first | (rw [y2_2]; done) | (rw [y2_2]; rfl)) ?_
      refine mw_go mu_g472 (k := 1) (f1 := (73, [(6, .inl (nI k)), (5, .inl (chs c)), (4, .inl pl), (3, .inl wh), (2, .inr (.inr (some (D.ip j)))), (1, .inr (.inr (some q))), (0, .inr (.inr (some 169)))], [.inr (.inr (some y))], H)) (C := []) rfl trivial ?_
      refine mw_sub (L' := [(6, .inl (nI k)), (5, .inl (chs c)), (4, .inl pl), (3, .inl wh), (2, .inr (.inr (some (D.ip j)))), (1, .inr (.inr (some q))), (0, .inr (.inr (some 169)))]) (by simp) ?_
      have el : lkp c k = tkk c 0 := by rw [kz]; exact if_neg (fun z => absurd z.2 (Nat.lt_irrefl _))
      refine rp_chB (E := srt D j ss wh l (if pl = 0 then (if chs c = 2 then (1 : Int32) else 0) else 1) (lkp c k)) hr hf (ih d _ (lkp c k) H _ _ pk hr (hh.ff hf) (by rw [el]; exact yn2) xk.1 (hk.p hx kt)) (fun e => by rw [e] at hR; exact hR.symm) (fun s e => by rw [e] at hR; exact hR) (fun H1 r1 f1 z1 => rp_chained0 hh hn hx hk ih h66 m_ (k + 1) _ (by omega) r1 f1 z1)
    · -- 61
      have kz : 0 < k := by
        by_cases z : k = 0
        · exact absurd (by rw [z]; rfl) h2
        · omega
      have t1 := xk.2 h66 kz
      obtain ⟨y, yr3, yn3⟩ := ch1 k kt
      have yn3 : nd Hb D.G (dd - 1) y (tkk c k) := yn3
      obtain ⟨b1_3, b2_3, b3_3, b4_3⟩ := ar_at ai1 (by decide) (Nat.lt_of_lt_of_le kt al1) (Nat.lt_of_le_of_lt ax1 (by decide))
      have y2_3 : mu_r H ar1 (nI k).toNatClampNeg = some y := by rw [b4_3]; exact yr3
      obtain ⟨kd4, ⟨is4, nF4, lt4⟩, ⟨st4, sr4, sf4⟩, ⟨n2_4, n3_4, n7_4⟩, nm4, ar4, aq4, aF4, ai4, ⟨al4, am4, ax4⟩, ch4, dp4⟩ := nd.ra (c := (tkk c k)) yn3 hr.2.1
      obtain ⟨z, yr5, yn5⟩ := ch4 0 (by rw [t1]; exact Nat.one_pos)
      have yn5 : nd Hb D.G ((dd - 1) - 1) z (tkk (tkk c k) 0) := yn5
      obtain ⟨b1_5, b2_5, b3_5, b4_5⟩ := ar_at ai4 (by decide) (Nat.lt_of_lt_of_le (by rw [t1]; exact Nat.one_pos) al4) (Nat.lt_of_le_of_lt ax4 (by decide))
      have y2_5 : mu_r H ar4 (0 : Int32).toNatClampNeg = some z := yr5
      refine mw_go mu_g472 (k := 2) (f1 := (65, [(6, .inl (nI k)), (5, .inl (chs c)), (4, .inl pl), (3, .inl wh), (2, .inr (.inr (some (D.ip j)))), (1, .inr (.inr (some q))), (0, .inr (.inr (some 169)))], [.inr (.inr (mu_r H q 1))], H)) (C := [mu_is H (some q) 18]) rfl (show mu_is H (some q) 18 from is1) ?_
      refine mw_fr (f' := (65, [(6, .inl (nI k)), (5, .inl (chs c)), (4, .inl pl), (3, .inl wh), (2, .inr (.inr (some (D.ip j)))), (1, .inr (.inr (some q))), (0, .inr (.inr (some 169)))], [.inr (.inr (some ar1))], H)) (by first | (rw [aq1]; done) | (rw [aq1]; rfl)) ?_
      refine mw_go mu_g472 (k := 2) (f1 := (68, [(6, .inl (nI k)), (5, .inl (chs c)), (4, .inl pl), (3, .inl wh), (2, .inr (.inr (some (D.ip j)))), (1, .inr (.inr (some q))), (0, .inr (.inr (some 169)))], [.inr (.inr (mu_r H ar1 (nI k).toNatClampNeg))], H)) (C := [mu_is H (some ar1) (mu_k H ar1), 103 ≤ mu_k H ar1 ∧ mu_k H ar1 ≤ 110 ∧ mu_k H ar1 ≠ 108, vp_in (nI k) (mu_n H ar1)]) rfl (show (mu_is H (some ar1) (mu_k H ar1)) ∧ (103 ≤ mu_k H ar1 ∧ mu_k H ar1 ≤ 110 ∧ mu_k H ar1 ≠ 108) ∧ (vp_in (nI k) (mu_n H ar1)) from ⟨b1_3, b2_3, b3_3⟩) ?_
      refine mw_fr (f' := (68, [(6, .inl (nI k)), (5, .inl (chs c)), (4, .inl pl), (3, .inl wh), (2, .inr (.inr (some (D.ip j)))), (1, .inr (.inr (some q))), (0, .inr (.inr (some 169)))], [.inr (.inr (some y))], H)) (by first | (rw [y2_3]; done) | (rw [y2_3]; rfl)) ?_
      refine mw_go mu_g472 (k := 1) (f1 := (71, [(6, .inl (nI k)), (5, .inl (chs c)), (4, .inl pl), (3, .inl wh), (2, .inr (.inr (some (D.ip j)))), (1, .inr (.inr (some q))), (0, .inr (.inr (some 169)))], [.inr (.inr (mu_r H y 1))], H)) (C := [mu_is H (some y) 18]) rfl (show mu_is H (some y) 18 from is4) ?_
      refine mw_fr (f' := (71, [(6, .inl (nI k)), (5, .inl (chs c)), (4, .inl pl), (3, .inl wh), (2, .inr (.inr (some (D.ip j)))), (1, .inr (.inr (some q))), (0, .inr (.inr (some 169)))], [.inr (.inr (some ar4))], H)) (by first | (rw [aq4]; done) | (rw [aq4]; rfl)) ?_
      refine mw_go mu_g472 (k := 2) (f1 := (73, [(6, .inl (nI k)), (5, .inl (chs c)), (4, .inl pl), (3, .inl wh), (2, .inr (.inr (some (D.ip j)))), (1, .inr (.inr (some q))), (0, .inr (.inr (some 169)))], [.inr (.inr (mu_r H ar4 (0 : Int32).toNatClampNeg))], H)) (C := [mu_is H (some ar4) (mu_k H ar4), 103 ≤ mu_k H ar4 ∧ mu_k H ar4 ≤ 110 ∧ mu_k H ar4 ≠ 108, vp_in (0 : Int32) (mu_n H ar4)]) rfl (show (mu_is H (some ar4) (mu_k H ar4)) ∧ (103 ≤ mu_k H ar4 ∧ mu_k H ar4 ≤ 110 ∧ mu_k H ar4 ≠ 108) ∧ (vp_in (0 : Int32) (mu_n H ar4)) from ⟨b1_5, b2_5, b3_5⟩) ?_
      refine mw_fr (f' := (73, [(6, .inl (nI k)), (5, .inl (chs c)), (4, .inl pl), (3, .inl wh), (2, .inr (.inr (some (D.ip j)))), (1, .inr (.inr (some q))), (0, .inr (.inr (some 169)))], [.inr (.inr (some z))], H)) (by first | (rw [y2_5]; done) | (rw [y2_5]; rfl)) ?_
      refine mw_sub (L' := [(6, .inl (nI k)), (5, .inl (chs c)), (4, .inl pl), (3, .inl wh), (2, .inr (.inr (some (D.ip j)))), (1, .inr (.inr (some q))), (0, .inr (.inr (some 169)))]) (by simp) ?_
      have el : lkp c k = tkk (tkk c k) 0 := if_pos ⟨h66, kz⟩
      refine rp_chB (E := srt D j ss wh l (if pl = 0 then (if chs c = 2 then (1 : Int32) else 0) else 1) (lkp c k)) hr hf (ih d _ (lkp c k) H _ _ pk hr (hh.ff hf) (by rw [el]; exact yn5) xk.1 (hk.p hx kt)) (fun e => by rw [e] at hR; exact hR.symm) (fun s e => by rw [e] at hR; exact hR) (fun H1 r1 f1 z1 => rp_chained0 hh hn hx hk ih h66 m_ (k + 1) _ (by omega) r1 f1 z1)
theorem exw_66 {l : Nat} {c : Tre} (h : exw (l + 1) c) (h6 : tkd c = 66) : 1 < tsn c := by
  have no : ∀ {ks : List Nat}, tkd c ∈ ks → 66 ∈ ks := fun h1 => by rw [← h6]; exact h1
  rcases h with h | h | h | h | h | h | ⟨h1, h2, h3, ms, h4, h5⟩
  · exact absurd (no h.1) (by decide)
  · exact absurd (no h.1) (by decide)
  · exact absurd (no h.1) (by decide)
  · exact absurd (no h.1) (by decide)
  · exact absurd (no h.1) (by decide)
  · exact absurd (h6.symm.trans h.1) (by decide)
  · omega
theorem rp_chained {Hb H : mu_H} {D : MD} {sp : Nat} {ss : Nat → Int32} {j l d dd q : Nat} {wh : Int32} {c : Tre} (hh : sts H D sp ss) (hn : nd Hb D.G dd q c) (hx : exw (l + 1) c) (hk : nmk D j c) (ih : srk Hb D sp ss j wh l) {pl : Int32} (hr : rms Hb D H) (h66 : tkd c = 66) : mu_TE 2 (mu_D (d + 2 * l + 9)) 472 [.inr (.inr (some 169)), .inr (.inr (some q)), .inr (.inr (some (D.ip j))), .inl wh, .inl pl] H (fun H1 => cnl (fun k => srt D j ss wh l (if pl = 0 then (if chs c = 2 then (1 : Int32) else 0) else 1) (lkp c k)) (chs c) (tsn c) 0 = none ∧ ffr 1 H H1) (fun v H1 => ∃ x, v = some (.inl x) ∧ cnl (fun k => srt D j ss wh l (if pl = 0 then (if chs c = 2 then (1 : Int32) else 0) else 1) (lkp c k)) (chs c) (tsn c) 0 = some x ∧ ffr 0 H H1) := by
  refine mu_meth (M := mu_m472) rfl rfl ?_
  refine mw_ht (mu_fn_of (show [0, 1, 2, 3, 4].Nodup by decide)) ?_
  have h2 : 1 < tsn c := exw_66 hx h66
  obtain ⟨kd1, ⟨is1, nF1, lt1⟩, ⟨st1, sr1, sf1⟩, ⟨n2_1, n3_1, n7_1⟩, nm1, ar1, aq1, aF1, ai1, ⟨al1, am1, ax1⟩, ch1, dp1⟩ := nd.ra (c := c) hn hr.2.1
  obtain ⟨y, yr2, yn2⟩ := ch1 1 h2
  have yn2 : nd Hb D.G (dd - 1) y (tkk c 1) := yn2
  obtain ⟨b1_2, b2_2, b3_2, b4_2⟩ := ar_at ai1 (by decide) (Nat.lt_of_lt_of_le h2 al1) (Nat.lt_of_le_of_lt ax1 (by decide))
  have y2_2 : mu_r H ar1 (1 : Int32).toNatClampNeg = some y := yr2
  obtain ⟨kd3, ⟨is3, nF3, lt3⟩, ⟨st3, sr3, sf3⟩, ⟨n2_3, n3_3, n7_3⟩, nm3, ar3, aq3, aF3, ai3, ⟨al3, am3, ax3⟩, ch3, dp3⟩ := nd.ra (c := (tkk c 1)) yn2 hr.2.1
  refine mw_go mu_g472 (k := 2) (f1 := (4, [(0, .inr (.inr (some 169))), (1, .inr (.inr (some q))), (2, .inr (.inr (some (D.ip j)))), (3, .inl wh), (4, .inl pl)], [.inr (.inr (mu_r H q 1))], H)) (C := [mu_is H (some q) 18]) rfl (show mu_is H (some q) 18 from is1) ?_
  refine mw_fr (f' := (4, [(0, .inr (.inr (some 169))), (1, .inr (.inr (some q))), (2, .inr (.inr (some (D.ip j)))), (3, .inl wh), (4, .inl pl)], [.inr (.inr (some ar1))], H)) (by first | (rw [aq1]; done) | (rw [aq1]; rfl)) ?_
  refine mw_go mu_g472 (k := 2) (f1 := (6, [(0, .inr (.inr (some 169))), (1, .inr (.inr (some q))), (2, .inr (.inr (some (D.ip j)))), (3, .inl wh), (4, .inl pl)], [.inr (.inr (mu_r H ar1 (1 : Int32).toNatClampNeg))], H)) (C := [mu_is H (some ar1) (mu_k H ar1), 103 ≤ mu_k H ar1 ∧ mu_k H ar1 ≤ 110 ∧ mu_k H ar1 ≠ 108, vp_in (1 : Int32) (mu_n H ar1)]) rfl (show (mu_is H (some ar1) (mu_k H ar1)) ∧ (103 ≤ mu_k H ar1 ∧ mu_k H ar1 ≤ 110 ∧ mu_k H ar1 ≠ 108) ∧ (vp_in (1 : Int32) (mu_n H ar1)) from ⟨b1_2, b2_2, b3_2⟩) ?_
  refine mw_fr (f' := (6, [(0, .inr (.inr (some 169))), (1, .inr (.inr (some q))), (2, .inr (.inr (some (D.ip j)))), (3, .inl wh), (4, .inl pl)], [.inr (.inr (some y))], H)) (by first | (rw [y2_2]; done) | (rw [y2_2]; rfl)) ?_
  refine mw_go mu_g472 (k := 1) (f1 := (8, [(0, .inr (.inr (some 169))), (1, .inr (.inr (some q))), (2, .inr (.inr (some (D.ip j)))), (3, .inl wh), (4, .inl pl)], [.inr (.inr (some 1000020)), .inr (.inr (some y))], H)) (C := []) rfl trivial ?_
  refine mw_cIe (fun _ => rfl) (show mu_is H (some y) 18 from is3) (agr.isL (e := d + 2 * l + 5) (j := 20) yn2 hr.2.1 (by decide)) ?_
  refine mw_if (P := (if tkd (tkk c 1) = 20 then 1 else 0) = 0) (a := 14) (b := 28) (fun _ => rfl) trivial (fun hi4 => ?_) (fun hi4 => ?_)
  · -- 14
    have ek4 : ¬ tkd (tkk c 1) = 20 := fun e => by rw [if_pos e] at hi4; exact absurd hi4 (by decide)
    refine mw_go mu_g472 (k := 2) (f1 := (18, [(0, .inr (.inr (some 169))), (1, .inr (.inr (some q))), (2, .inr (.inr (some (D.ip j)))), (3, .inl wh), (4, .inl pl)], [.inr (.inr (mu_r H q 1))], H)) (C := [mu_is H (some q) 18]) rfl (show mu_is H (some q) 18 from is1) ?_
    refine mw_fr (f' := (18, [(0, .inr (.inr (some 169))), (1, .inr (.inr (some q))), (2, .inr (.inr (some (D.ip j)))), (3, .inl wh), (4, .inl pl)], [.inr (.inr (some ar1))], H)) (by first | (rw [aq1]; done) | (rw [aq1]; rfl)) ?_
    refine mw_go mu_g472 (k := 2) (f1 := (20, [(0, .inr (.inr (some 169))), (1, .inr (.inr (some q))), (2, .inr (.inr (some (D.ip j)))), (3, .inl wh), (4, .inl pl)], [.inr (.inr (mu_r H ar1 (1 : Int32).toNatClampNeg))], H)) (C := [mu_is H (some ar1) (mu_k H ar1), 103 ≤ mu_k H ar1 ∧ mu_k H ar1 ≤ 110 ∧ mu_k H ar1 ≠ 108, vp_in (1 : Int32) (mu_n H ar1)]) rfl (show (mu_is H (some ar1) (mu_k H ar1)) ∧ (103 ≤ mu_k H ar1 ∧ mu_k H ar1 ≤ 110 ∧ mu_k H ar1 ≠ 108) ∧ (vp_in (1 : Int32) (mu_n H ar1)) from ⟨b1_2, b2_2, b3_2⟩) ?_
    refine mw_fr (f' := (20, [(0, .inr (.inr (some 169))), (1, .inr (.inr (some q))), (2, .inr (.inr (some (D.ip j)))), (3, .inl wh), (4, .inl pl)], [.inr (.inr (some y))], H)) (by first | (rw [y2_2]; done) | (rw [y2_2]; rfl)) ?_
    refine mw_go mu_g472 (k := 1) (f1 := (22, [(0, .inr (.inr (some 169))), (1, .inr (.inr (some q))), (2, .inr (.inr (some (D.ip j)))), (3, .inl wh), (4, .inl pl)], [.inr (.inr (some 1000040)), .inr (.inr (some y))], H)) (C := []) rfl trivial ?_
    refine mw_cIe (fun _ => rfl) (show mu_is H (some y) 18 from is3) (agr.isL (e := d + 2 * l + 5) (j := 40) yn2 hr.2.1 (by decide)) ?_
    refine mw_if (P := (if tkd (tkk c 1) = 40 then 1 else 0) = 0) (a := 32) (b := 28) (fun _ => rfl) trivial (fun hi5 => ?_) (fun hi5 => ?_)
    · -- 32
      have ek5 : ¬ tkd (tkk c 1) = 40 := fun e => by rw [if_pos e] at hi5; exact absurd hi5 (by decide)
      refine mw_go mu_g472 (k := 4) (f1 := (38, [(6, .inl (0 : Int32)), (5, .inl (2 : Int32)), (0, .inr (.inr (some 169))), (1, .inr (.inr (some q))), (2, .inr (.inr (some (D.ip j)))), (3, .inl wh), (4, .inl pl)], [], H)) (C := []) rfl trivial ?_
      have ec : chs c = 2 := if_neg (fun z => z.elim ek4 ek5)
      refine mw_fr (f' := (38, [(6, .inl (0 : Int32)), (5, .inl (chs c)), (0, .inr (.inr (some 169))), (1, .inr (.inr (some q))), (2, .inr (.inr (some (D.ip j)))), (3, .inl wh), (4, .inl pl)], [], H)) (by rw [ec]) ?_
      refine mw_sub (L' := [(6, .inl (nI 0)), (5, .inl (chs c)), (4, .inl pl), (3, .inl wh), (2, .inr (.inr (some (D.ip j)))), (1, .inr (.inr (some q))), (0, .inr (.inr (some 169)))]) (by intro x hx; simp only [List.mem_cons, List.not_mem_nil, or_false] at hx ⊢; rcases hx with rfl | rfl | rfl | rfl | rfl | rfl | rfl <;> simp [nI]) ?_
      exact rp_chained0 hh hn hx hk ih h66 (tsn c) 0 _ (Nat.zero_add _) hr ffr.rf rfl
    · -- 28
      have ek5 : tkd (tkk c 1) = 40 := Decidable.byContradiction (fun e => hi5 (if_neg e))
      refine mw_go mu_g472 (k := 5) (f1 := (38, [(6, .inl (0 : Int32)), (5, .inl (1 : Int32)), (0, .inr (.inr (some 169))), (1, .inr (.inr (some q))), (2, .inr (.inr (some (D.ip j)))), (3, .inl wh), (4, .inl pl)], [], H)) (C := []) rfl trivial ?_
      have ec : chs c = 1 := if_pos (Or.inr ek5)
      refine mw_fr (f' := (38, [(6, .inl (0 : Int32)), (5, .inl (chs c)), (0, .inr (.inr (some 169))), (1, .inr (.inr (some q))), (2, .inr (.inr (some (D.ip j)))), (3, .inl wh), (4, .inl pl)], [], H)) (by rw [ec]) ?_
      refine mw_sub (L' := [(6, .inl (nI 0)), (5, .inl (chs c)), (4, .inl pl), (3, .inl wh), (2, .inr (.inr (some (D.ip j)))), (1, .inr (.inr (some q))), (0, .inr (.inr (some 169)))]) (by intro x hx; simp only [List.mem_cons, List.not_mem_nil, or_false] at hx ⊢; rcases hx with rfl | rfl | rfl | rfl | rfl | rfl | rfl <;> simp [nI]) ?_
      exact rp_chained0 hh hn hx hk ih h66 (tsn c) 0 _ (Nat.zero_add _) hr ffr.rf rfl
  · -- 28
    have ek4 : tkd (tkk c 1) = 20 := Decidable.byContradiction (fun e => hi4 (if_neg e))
    refine mw_go mu_g472 (k := 5) (f1 := (38, [(6, .inl (0 : Int32)), (5, .inl (1 : Int32)), (0, .inr (.inr (some 169))), (1, .inr (.inr (some q))), (2, .inr (.inr (some (D.ip j)))), (3, .inl wh), (4, .inl pl)], [], H)) (C := []) rfl trivial ?_
    have ec : chs c = 1 := if_pos (Or.inl ek4)
    refine mw_fr (f' := (38, [(6, .inl (0 : Int32)), (5, .inl (chs c)), (0, .inr (.inr (some 169))), (1, .inr (.inr (some q))), (2, .inr (.inr (some (D.ip j)))), (3, .inl wh), (4, .inl pl)], [], H)) (by rw [ec]) ?_
    refine mw_sub (L' := [(6, .inl (nI 0)), (5, .inl (chs c)), (4, .inl pl), (3, .inl wh), (2, .inr (.inr (some (D.ip j)))), (1, .inr (.inr (some q))), (0, .inr (.inr (some 169)))]) (by intro x hx; simp only [List.mem_cons, List.not_mem_nil, or_false] at hx ⊢; rcases hx with rfl | rfl | rfl | rfl | rfl | rfl | rfl <;> simp [nI]) ?_
    exact rp_chained0 hh hn hx hk ih h66 (tsn c) 0 _ (Nat.zero_add _) hr ffr.rf rfl
