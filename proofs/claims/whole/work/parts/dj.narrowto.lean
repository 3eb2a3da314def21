/-! RELATION: narrowTo -/
section NarrowTo
variable {H : mu_H} {U V : Ud} {m d id st P bf bt n k fr fk : Nat} {C : Nat → Nat} {fc : Nat → Int64} {S : Nat → Bool} {ls f : Nat → Nat} {A B : Nat → Prop}
theorem OPT.congr (h : OPT U fr fk k A) (hx : ∀ x, x < fk → (A x ↔ B x)) : OPT U fr fk k B := by
  rcases h with ⟨h1, h2⟩ | ⟨n, ls, h1, h2, h3, h4⟩
  · exact Or.inl ⟨h1, fun x q => (hx x q).mp (h2 x q)⟩
  · refine Or.inr ⟨n, ls, h1, h2, h3, fun x => ?_⟩
    rw [h4 x]
    exact ⟨fun q => ⟨q.1, (hx x q.1).mp q.2⟩, fun q => ⟨q.1, (hx x q.1).mpr q.2⟩⟩
theorem OPT.eq (h : OPT U fr fk k A) (e12 : V.2.2.1 129 12 = U.2.2.1 129 12) (e13 : V.2.2.1 129 13 = U.2.2.1 129 13) : OPT V fr fk k A := by
  unfold OPT at h ⊢
  rw [e12, e13]
  exact h
/-- another place's list changes nothing here -/
theorem OPT.other (h : OPT U fr fk k A) (h13 : (V.2.2.1 129 13).2 k = (U.2.2.1 129 13).2 k) (h12 : ∀ q, fr ≤ q → q < fr + fk → (V.2.2.1 129 12).2 q = (U.2.2.1 129 12).2 q) : OPT V fr fk k A := by
  rcases h with ⟨h1, h2⟩ | ⟨n, ls, h1, h2, h3, h4⟩
  · exact Or.inl ⟨h13.trans h1, h2⟩
  · have hn := lm_len h3 h4
    exact Or.inr ⟨n, ls, h13.trans h1, fun i hi => (h12 (fr + i) (by omega) (by omega)).trans (h2 i hi), h3, h4⟩
theorem lst_lm (hz : stz fc st S) (hf : hfm fc st = 0) (hS : ∀ x, S x = true → x < fk) : (∀ i j, i < j → j < hsz fc st → nmzU fc st i < nmzU fc st j) ∧ (∀ x, lmz (nmzU fc st) (hsz fc st) x = true ↔ S x = true) ∧ hsz fc st ≤ fk := by
  obtain ⟨h1, h2, h3⟩ := hz.2.2.1 hf
  have hm : ∀ x, lmz (nmzU fc st) (hsz fc st) x = true ↔ S x = true := fun x => by
    rw [lmz_iff, h3.2 x]
    constructor
    · rintro ⟨i, a, b⟩
      exact ⟨i, a, by rw [Nat.one_mul, b]; exact Nat.le_refl _, by rw [show 1 * i + 1 - 1 = i by omega, b]; exact Nat.le_refl _⟩
    · rintro ⟨i, a, b, c⟩
      rw [Nat.one_mul] at b
      rw [show 1 * i + 1 - 1 = i by omega] at c
      exact ⟨i, a, by omega⟩
  refine ⟨h2, hm, lm_len (A := fun x => S x = true) h2 (fun x => ?_)⟩
  rw [hm x]
  exact ⟨fun q => ⟨hS x q, q⟩, fun q => q.2⟩
def F286 : Uf := ⟨[], [(129, 19), (129, 20)], [(129, 12), (129, 13)], [], [146], false⟩
/-- PathProver$Relation.narrowTo(II)V -/
abbrev mu_m286 : ev_M := (3, none, [], ev_b286)
theorem mu_g286 : mu_good mu_m286 := mu_goodk ev_k286
theorem rl_ntoL (h : um m H) (e : ud m H = U) (hS : spx m U P f) (hk : k < P) (hz : BZ U bf bt) (hl12 : sm f 0 P ≤ (U.2.2.1 129 12).1) (hl12b : (U.2.2.1 129 12).1 < 2147483648) (ho : OPT U (sm f 0 k) (f k) k A) (hs : sat U id st fc) (hst : stz fc st S) (hSk : ∀ x, S x = true → x < f k) (hoc : (U.2.2.1 129 13).2 k = -1) (hA : ∀ x, x < f k → A x) (hf : hfm fc st = 0) : mu_TV (mu_D (d + 5)) 286 [.inr (.inr (some 129)), .inl (nI id), .inl (nI k)] H (fun H1 => um m H1 ∧ ur m C H H1 ∧ uq F286 U (ud m H1) ∧ (∃ bf' bt', BZ (ud m H1) bf' bt') ∧ OPT (ud m H1) (sm f 0 k) (f k) k (fun x => A x ∧ S x = true) ∧ (∀ j, ¬ j = k → ((ud m H1).2.2.1 129 13).2 j = (U.2.2.1 129 13).2 j) ∧ ∀ j, (j < sm f 0 k ∨ sm f 0 k + f k ≤ j) → ((ud m H1).2.2.1 129 12).2 j = (U.2.2.1 129 12).2 j) := by
  have hS0 := hS
  obtain ⟨⟨s4, s10, s11, s12⟩, hk5, ⟨g8, g8b, g18, g18b⟩, ⟨gP, gpd, gsm⟩, hsp, hmo⟩ := (show spx m U P f from hS)
  have hsk := sm_seg (f := f) hk
  have hk7 := hk5 k hk
  have hfb := sm_part (f := f) hk
  have hS6 : ∀ x, S x = true → x < 16384 := fun x q => by have z := hSk x q; omega
  refine mu_meth (M := mu_m286) rfl rfl ?_
  refine mw_ht (mu_fn_of (show [0, 1, 2].Nodup by decide)) ?_
  refine mw_go mu_g286 (k := 2) (f1 := (4, [(0, .inr (.inr (some 129))), (1, .inl (nI id)), (2, .inl (nI k))], [.inr (.inr (mu_r H 129 13))], H)) (C := [mu_is H (some 129) 9]) rfl (show mu_is H (some 129) 9 from (h.1.1.is rfl)) ?_
  rw [(h.1.1.r (p := 129) (j := 13) (q := 141) rfl)]
  refine mw_go mu_g286 (k := 2) (f1 := (6, [(0, .inr (.inr (some 129))), (1, .inl (nI id)), (2, .inl (nI k))], [.inl (mu_i H 141 (nI k).toNatClampNeg)], H)) (C := [mu_isr H (some 141) 100, vp_in (nI k) (mu_n H 141)]) rfl (show (mu_isr H (some 141) 100) ∧ (vp_in (nI k) (mu_n H 141)) from ⟨((h.iA e rfl rfl ((ud_q (m := m) (P := 129) (j := 13) e rfl).symm.trans (h.1.1.r (p := 129) (j := 13) (q := 141) rfl)))).r, (by rw [show mu_n H 141 = 14 from (h.1.1.a (p := 141) (x := (100, 14)) rfl).2]; exact vp_in_nI (n := k) (by omega) (by decide))⟩) ?_
  rw [(show (mu_i H 141 (nI k).toNatClampNeg) = (-1 : Int32) from ((congrArg (mu_i H 141) (show (nI k).toNatClampNeg = k from nI_clamp (by omega))).trans (h.gA e rfl rfl ((ud_q (m := m) (P := 129) (j := 13) e rfl).symm.trans (h.1.1.r (p := 129) (j := 13) (q := 141) rfl)))).trans ((congrArg (fun z => z.2 k) (show U.2.2.1 129 13 = (U.2.2.1 129 13) from rfl)).trans hoc))]
  refine mw_if (P := (-1 : Int32) < 0) (a := 9) (b := 54) (fun _ => rfl) trivial (fun h1 => ?_) (fun h1 => absurd (by decide) h1)
  refine mw_go mu_g286 (k := 2) (f1 := (13, [(0, .inr (.inr (some 129))), (1, .inl (nI id)), (2, .inl (nI k))], [.inr (.inr (mu_r H 129 0))], H)) (C := [mu_is H (some 129) 9]) rfl (show mu_is H (some 129) 9 from (h.1.1.is rfl)) ?_
  rw [(h.1.1.r (p := 129) (j := 0) (q := 99) rfl)]
  refine mw_go mu_g286 (k := 1) (f1 := (16, [(0, .inr (.inr (some 129))), (1, .inl (nI id)), (2, .inl (nI k))], [.inr (.inr (mu_r H 99 2))], H)) (C := [mu_is H (some 99) 13]) rfl (show mu_is H (some 99) 13 from (h.1.1.is rfl)) ?_
  rw [(h.1.1.r (p := 99) (j := 2) (q := 113) rfl)]
  refine mw_go mu_g286 (k := 1) (f1 := (17, [(0, .inr (.inr (some 129))), (1, .inl (nI id)), (2, .inl (nI k))], [.inl (nI id), .inr (.inr (some 113))], H)) (C := []) rfl trivial ?_
  refine mw_cIe (fun _ => rfl) (show mu_is H (some 113) 11 from (h.1.1.is rfl)) (st_listed (d := (d + 2)) h e hs) ?_
  rw [if_pos hf]
  refine mw_if (P := (1 : Int32) = 0) (a := 54) (b := 23) (fun _ => rfl) trivial (fun h3 => absurd h3 (by decide)) (fun h3 => ?_)
  refine mw_go mu_g286 (k := 2) (f1 := (27, [(0, .inr (.inr (some 129))), (1, .inl (nI id)), (2, .inl (nI k))], [.inr (.inr (mu_r H 129 13))], H)) (C := [mu_is H (some 129) 9]) rfl (show mu_is H (some 129) 9 from (h.1.1.is rfl)) ?_
  rw [(h.1.1.r (p := 129) (j := 13) (q := 141) rfl)]
  refine mw_go mu_g286 (k := 3) (f1 := (32, [(0, .inr (.inr (some 129))), (1, .inl (nI id)), (2, .inl (nI k))], [.inr (.inr (mu_r H 129 0)), .inl (nI k), .inr (.inr (some 141))], H)) (C := [mu_is H (some 129) 9]) rfl (show mu_is H (some 129) 9 from (h.1.1.is rfl)) ?_
  rw [(h.1.1.r (p := 129) (j := 0) (q := 99) rfl)]
  refine mw_go mu_g286 (k := 1) (f1 := (35, [(0, .inr (.inr (some 129))), (1, .inl (nI id)), (2, .inl (nI k))], [.inr (.inr (mu_r H 99 2)), .inl (nI k), .inr (.inr (some 141))], H)) (C := [mu_is H (some 99) 13]) rfl (show mu_is H (some 99) 13 from (h.1.1.is rfl)) ?_
  rw [(h.1.1.r (p := 99) (j := 2) (q := 113) rfl)]
  refine mw_go mu_g286 (k := 3) (f1 := (40, [(0, .inr (.inr (some 129))), (1, .inl (nI id)), (2, .inl (nI k))], [.inr (.inr (mu_r H 129 12)), .inl (nI id), .inr (.inr (some 113)), .inl (nI k), .inr (.inr (some 141))], H)) (C := [mu_is H (some 129) 9]) rfl (show mu_is H (some 129) 9 from (h.1.1.is rfl)) ?_
  rw [(show mu_r H 129 12 = (U.2.2.2.1 129 12) from (ud_q (U := U) (m := m) (P := 129) (j := 12) e rfl))]
  refine mw_go mu_g286 (k := 2) (f1 := (44, [(0, .inr (.inr (some 129))), (1, .inl (nI id)), (2, .inl (nI k))], [.inr (.inr (mu_r H 129 0)), .inr (.inr (U.2.2.2.1 129 12)), .inl (nI id), .inr (.inr (some 113)), .inl (nI k), .inr (.inr (some 141))], H)) (C := [mu_is H (some 129) 9]) rfl (show mu_is H (some 129) 9 from (h.1.1.is rfl)) ?_
  rw [(h.1.1.r (p := 129) (j := 0) (q := 99) rfl)]
  refine mw_go mu_g286 (k := 1) (f1 := (47, [(0, .inr (.inr (some 129))), (1, .inl (nI id)), (2, .inl (nI k))], [.inr (.inr (mu_r H 99 7)), .inr (.inr (U.2.2.2.1 129 12)), .inl (nI id), .inr (.inr (some 113)), .inl (nI k), .inr (.inr (some 141))], H)) (C := [mu_is H (some 99) 13]) rfl (show mu_is H (some 99) 13 from (h.1.1.is rfl)) ?_
  rw [(h.1.1.r (p := 99) (j := 7) (q := 122) rfl)]
  refine mw_go mu_g286 (k := 2) (f1 := (49, [(0, .inr (.inr (some 129))), (1, .inl (nI id)), (2, .inl (nI k))], [.inl (mu_i H 122 (nI k).toNatClampNeg), .inr (.inr (U.2.2.2.1 129 12)), .inl (nI id), .inr (.inr (some 113)), .inl (nI k), .inr (.inr (some 141))], H)) (C := [mu_isr H (some 122) 100, vp_in (nI k) (mu_n H 122)]) rfl (show (mu_isr H (some 122) 100) ∧ (vp_in (nI k) (mu_n H 122)) from ⟨((h.iA e rfl rfl ((ud_q (m := m) (P := 99) (j := 7) e rfl).symm.trans (h.1.1.r (p := 99) (j := 7) (q := 122) rfl)))).r, (by rw [show mu_n H 122 = 14 from (h.1.1.a (p := 122) (x := (100, 14)) rfl).2]; exact vp_in_nI (n := k) (by omega) (by decide))⟩) ?_
  rw [(show (mu_i H 122 (nI k).toNatClampNeg) = (nI (sm f 0 k)) from ((congrArg (mu_i H 122) (show (nI k).toNatClampNeg = k from nI_clamp (by omega))).trans (h.gA e rfl rfl ((ud_q (m := m) (P := 99) (j := 7) e rfl).symm.trans (h.1.1.r (p := 99) (j := 7) (q := 122) rfl)))).trans ((congrArg (fun z => z.2 k) (show U.2.2.1 99 7 = (U.2.2.1 99 7) from rfl)).trans (hk5 k (by omega)).2.1))]
  obtain ⟨hlr, hlm, hln⟩ := lst_lm hst hf hSk
  refine mw_cI (fun _ => rfl) (show mu_is H (some 113) 11 from (h.1.1.is rfl)) (st_list (d := (d + 2)) (C := C) (fr := sm f 0 k) h e hs hst hf ⟨by omega, hl12b⟩) (fun x4 Q4 q4 => ?_)
  obtain ⟨rfl, u4, r4, z4, hls, hke⟩ := q4
  have ht4 : ur m C H Q4 := (ur.refl m C H).trans r4
  obtain ⟨V4, d4⟩ : ∃ V, ud m Q4 = V := ⟨_, rfl⟩
  rw [d4] at z4 hls hke
  have qf4 : uq F286 U V4 := (uq.refl F286 U).tr z4 rfl
  refine mw_go mu_g286 (k := 1) (f1 := (53, [(0, .inr (.inr (some 129))), (1, .inl (nI id)), (2, .inl (nI k))], [], (mu_si Q4 141 (nI k).toNatClampNeg (nI (hsz fc st))))) (C := [mu_is Q4 (some 141) 100, vp_in (nI k) (mu_n Q4 141)]) rfl (show (mu_is Q4 (some 141) 100) ∧ (vp_in (nI k) (mu_n Q4 141)) from ⟨(u4.iA d4 rfl rfl ((ud_q (m := m) (P := 129) (j := 13) d4 rfl).symm.trans (u4.1.1.r (p := 129) (j := 13) (q := 141) rfl))), (by rw [show mu_n Q4 141 = 14 from (u4.1.1.a (p := 141) (x := (100, 14)) rfl).2]; exact vp_in_nI (n := k) (by omega) (by decide))⟩) ?_
  rw [(show (nI k).toNatClampNeg = k from nI_clamp (by omega))]
  obtain ⟨u5, r5, d5⟩ : um m (mu_si Q4 141 k (nI (hsz fc st))) ∧ ur m C Q4 (mu_si Q4 141 k (nI (hsz fc st))) ∧ ud m (mu_si Q4 141 k (nI (hsz fc st))) = (upA V4 129 13 k (nI (hsz fc st))) := u4.sA (C := C) d4 rfl rfl ((ud_q (m := m) (P := 129) (j := 13) d4 rfl).symm.trans (u4.1.1.r (p := 129) (j := 13) (q := 141) rfl))
  generalize (mu_si Q4 141 k (nI (hsz fc st))) = Q5 at u5 r5 d5 ⊢
  have qf5 : uq F286 U (upA V4 129 13 k (nI (hsz fc st))) := qf4.A rfl
  have ht5 : ur m C H Q5 := ht4.trans r5
  exact mw_of (fun _ => mu_ret rfl trivial ⟨Q5, rfl, u5, ht5, (by rw [d5]; exact qf5), ⟨bf, bt, (by rw [d5]; exact ⟨⟨(z4.i 129 19 rfl).trans hz.1.1, (z4.i 129 20 rfl).trans hz.1.2.1, hz.1.2.2⟩, fun w hw hn => (by rw [show (upA V4 129 13 k (nI (hsz fc st))).2.2.2.2.1 146 = U.2.2.2.2.1 146 from z4.l 146 rfl]; exact hz.2 w hw hn)⟩)⟩, (by rw [d5]; exact Or.inr ⟨hsz fc st, nmzU fc st, if_pos rfl, hls, hlr, fun x => by rw [hlm x]; exact ⟨fun q => ⟨hSk x q, hA x (hSk x q), q⟩, fun q => q.2.2⟩⟩), (by rw [d5]; exact fun j hj => (if_neg hj).trans (congrArg (fun q => q.2 j) (z4.a 129 13 rfl))), (by rw [d5]; exact fun j hj => hke j (by omega))⟩)
theorem rl_ntoU (h : um m H) (e : ud m H = U) (hS : spx m U P f) (hk : k < P) (hz : BZ U bf bt) (hl12 : sm f 0 P ≤ (U.2.2.1 129 12).1) (hl12b : (U.2.2.1 129 12).1 < 2147483648) (ho : OPT U (sm f 0 k) (f k) k A) (hs : sat U id st fc) (hst : stz fc st S) (hSk : ∀ x, S x = true → x < f k) (hoc : (U.2.2.1 129 13).2 k = -1) (hf : ¬ hfm fc st = 0) : mu_TV (mu_D (d + 5)) 286 [.inr (.inr (some 129)), .inl (nI id), .inl (nI k)] H (fun H1 => um m H1 ∧ ur m C H H1 ∧ uq F286 U (ud m H1) ∧ (∃ bf' bt', BZ (ud m H1) bf' bt') ∧ OPT (ud m H1) (sm f 0 k) (f k) k (fun x => A x ∧ S x = true) ∧ (∀ j, ¬ j = k → ((ud m H1).2.2.1 129 13).2 j = (U.2.2.1 129 13).2 j) ∧ ∀ j, (j < sm f 0 k ∨ sm f 0 k + f k ≤ j) → ((ud m H1).2.2.1 129 12).2 j = (U.2.2.1 129 12).2 j) := by
  have hS0 := hS
  obtain ⟨⟨s4, s10, s11, s12⟩, hk5, ⟨g8, g8b, g18, g18b⟩, ⟨gP, gpd, gsm⟩, hsp, hmo⟩ := (show spx m U P f from hS)
  have hsk := sm_seg (f := f) hk
  have hk7 := hk5 k hk
  have hfb := sm_part (f := f) hk
  have hS6 : ∀ x, S x = true → x < 16384 := fun x q => by have z := hSk x q; omega
  refine mu_meth (M := mu_m286) rfl rfl ?_
  refine mw_ht (mu_fn_of (show [0, 1, 2].Nodup by decide)) ?_
  refine mw_go mu_g286 (k := 2) (f1 := (4, [(0, .inr (.inr (some 129))), (1, .inl (nI id)), (2, .inl (nI k))], [.inr (.inr (mu_r H 129 13))], H)) (C := [mu_is H (some 129) 9]) rfl (show mu_is H (some 129) 9 from (h.1.1.is rfl)) ?_
  rw [(h.1.1.r (p := 129) (j := 13) (q := 141) rfl)]
  refine mw_go mu_g286 (k := 2) (f1 := (6, [(0, .inr (.inr (some 129))), (1, .inl (nI id)), (2, .inl (nI k))], [.inl (mu_i H 141 (nI k).toNatClampNeg)], H)) (C := [mu_isr H (some 141) 100, vp_in (nI k) (mu_n H 141)]) rfl (show (mu_isr H (some 141) 100) ∧ (vp_in (nI k) (mu_n H 141)) from ⟨((h.iA e rfl rfl ((ud_q (m := m) (P := 129) (j := 13) e rfl).symm.trans (h.1.1.r (p := 129) (j := 13) (q := 141) rfl)))).r, (by rw [show mu_n H 141 = 14 from (h.1.1.a (p := 141) (x := (100, 14)) rfl).2]; exact vp_in_nI (n := k) (by omega) (by decide))⟩) ?_
  rw [(show (mu_i H 141 (nI k).toNatClampNeg) = (-1 : Int32) from ((congrArg (mu_i H 141) (show (nI k).toNatClampNeg = k from nI_clamp (by omega))).trans (h.gA e rfl rfl ((ud_q (m := m) (P := 129) (j := 13) e rfl).symm.trans (h.1.1.r (p := 129) (j := 13) (q := 141) rfl)))).trans ((congrArg (fun z => z.2 k) (show U.2.2.1 129 13 = (U.2.2.1 129 13) from rfl)).trans hoc))]
  refine mw_if (P := (-1 : Int32) < 0) (a := 9) (b := 54) (fun _ => rfl) trivial (fun h1 => ?_) (fun h1 => absurd (by decide) h1)
  refine mw_go mu_g286 (k := 2) (f1 := (13, [(0, .inr (.inr (some 129))), (1, .inl (nI id)), (2, .inl (nI k))], [.inr (.inr (mu_r H 129 0))], H)) (C := [mu_is H (some 129) 9]) rfl (show mu_is H (some 129) 9 from (h.1.1.is rfl)) ?_
  rw [(h.1.1.r (p := 129) (j := 0) (q := 99) rfl)]
  refine mw_go mu_g286 (k := 1) (f1 := (16, [(0, .inr (.inr (some 129))), (1, .inl (nI id)), (2, .inl (nI k))], [.inr (.inr (mu_r H 99 2))], H)) (C := [mu_is H (some 99) 13]) rfl (show mu_is H (some 99) 13 from (h.1.1.is rfl)) ?_
  rw [(h.1.1.r (p := 99) (j := 2) (q := 113) rfl)]
  refine mw_go mu_g286 (k := 1) (f1 := (17, [(0, .inr (.inr (some 129))), (1, .inl (nI id)), (2, .inl (nI k))], [.inl (nI id), .inr (.inr (some 113))], H)) (C := []) rfl trivial ?_
  refine mw_cIe (fun _ => rfl) (show mu_is H (some 113) 11 from (h.1.1.is rfl)) (st_listed (d := (d + 2)) h e hs) ?_
  rw [if_neg hf]
  refine mw_if (P := (0 : Int32) = 0) (a := 54) (b := 23) (fun _ => rfl) trivial (fun h3 => ?_) (fun h3 => absurd (by decide) h3)
  refine mw_go mu_g286 (k := 4) (f1 := (60, [(0, .inr (.inr (some 129))), (1, .inl (nI id)), (2, .inl (nI k))], [.inr (.inr (mu_r H 129 0)), .inl (0 : Int32), .inr (.inr (some 129))], H)) (C := [mu_is H (some 129) 9]) rfl (show mu_is H (some 129) 9 from (h.1.1.is rfl)) ?_
  rw [(h.1.1.r (p := 129) (j := 0) (q := 99) rfl)]
  refine mw_go mu_g286 (k := 1) (f1 := (63, [(0, .inr (.inr (some 129))), (1, .inl (nI id)), (2, .inl (nI k))], [.inr (.inr (mu_r H 99 5)), .inl (0 : Int32), .inr (.inr (some 129))], H)) (C := [mu_is H (some 99) 13]) rfl (show mu_is H (some 99) 13 from (h.1.1.is rfl)) ?_
  rw [(h.1.1.r (p := 99) (j := 5) (q := 120) rfl)]
  refine mw_go mu_g286 (k := 2) (f1 := (65, [(0, .inr (.inr (some 129))), (1, .inl (nI id)), (2, .inl (nI k))], [.inl (mu_i H 120 (nI k).toNatClampNeg), .inl (0 : Int32), .inr (.inr (some 129))], H)) (C := [mu_isr H (some 120) 100, vp_in (nI k) (mu_n H 120)]) rfl (show (mu_isr H (some 120) 100) ∧ (vp_in (nI k) (mu_n H 120)) from ⟨((h.iA e rfl rfl ((ud_q (m := m) (P := 99) (j := 5) e rfl).symm.trans (h.1.1.r (p := 99) (j := 5) (q := 120) rfl)))).r, (by rw [show mu_n H 120 = 14 from (h.1.1.a (p := 120) (x := (100, 14)) rfl).2]; exact vp_in_nI (n := k) (by omega) (by decide))⟩) ?_
  rw [(show (mu_i H 120 (nI k).toNatClampNeg) = (nI (f k)) from ((congrArg (mu_i H 120) (show (nI k).toNatClampNeg = k from nI_clamp (by omega))).trans (h.gA e rfl rfl ((ud_q (m := m) (P := 99) (j := 5) e rfl).symm.trans (h.1.1.r (p := 99) (j := 5) (q := 120) rfl)))).trans ((congrArg (fun z => z.2 k) (show U.2.2.1 99 5 = (U.2.2.1 99 5) from rfl)).trans (hk5 k (by omega)).1))]
  refine mw_go mu_g286 (k := 2) (f1 := (68, [(0, .inr (.inr (some 129))), (1, .inl (nI id)), (2, .inl (nI k))], [.inl ((nI (f k)) + (63 : Int32)), .inl (0 : Int32), .inr (.inr (some 129))], H)) (C := []) rfl trivial ?_
  rw [(show ((nI (f k)) + (63 : Int32)) = (nI ((f k) + 63)) from (nI_add (f k) 63))]
  refine mw_go mu_g286 (k := 2) (f1 := (71, [(0, .inr (.inr (some 129))), (1, .inl (nI id)), (2, .inl (nI k))], [.inl ((nI ((f k) + 63)) >>> ((6 : Int32) &&& 31)), .inl (0 : Int32), .inr (.inr (some 129))], H)) (C := []) rfl trivial ?_
  rw [(show ((nI ((f k) + 63)) >>> ((6 : Int32) &&& 31)) = (nI (((f k) + 63) / 64)) from (nI_shr6 (a := (f k) + 63) (by omega)))]
  refine mw_cV (fun _ => rfl) (show mu_is H (some 129) 9 from (h.1.1.is rfl)) (rl_clear (d := (d + 1)) (C := C) (a := 0) (b := ((f k) + 63) / 64) h e hz) (fun Q4 q4 => ?_)
  obtain ⟨u4, r4, d4⟩ := q4
  have ht4 : ur m C H Q4 := (ur.refl m C H).trans r4
  have qf4 : uq F286 U (upI (upI (upM U 146 bf (fun _ => (0 : Int64)) (bt - bf)) 129 19 (nI 0)) 129 20 (nI (((f k) + 63) / 64))) := ((((uq.refl F286 U).M rfl).I rfl).I rfl)
  obtain ⟨hz2, hz0⟩ := BZ.clear hz (a := 0) (b := ((f k) + 63) / 64) (by omega) (by omega)
  refine mw_go mu_g286 (k := 2) (f1 := (78, [(0, .inr (.inr (some 129))), (1, .inl (nI id)), (2, .inl (nI k))], [.inr (.inr (mu_r Q4 129 0))], Q4)) (C := [mu_is Q4 (some 129) 9]) rfl (show mu_is Q4 (some 129) 9 from (u4.1.1.is rfl)) ?_
  rw [(u4.1.1.r (p := 129) (j := 0) (q := 99) rfl)]
  refine mw_go mu_g286 (k := 1) (f1 := (81, [(0, .inr (.inr (some 129))), (1, .inl (nI id)), (2, .inl (nI k))], [.inr (.inr (mu_r Q4 99 2))], Q4)) (C := [mu_is Q4 (some 99) 13]) rfl (show mu_is Q4 (some 99) 13 from (u4.1.1.is rfl)) ?_
  rw [(u4.1.1.r (p := 99) (j := 2) (q := 113) rfl)]
  refine mw_go mu_g286 (k := 3) (f1 := (86, [(0, .inr (.inr (some 129))), (1, .inl (nI id)), (2, .inl (nI k))], [.inr (.inr (mu_r Q4 129 18)), .inl (nI id), .inr (.inr (some 113))], Q4)) (C := [mu_is Q4 (some 129) 9]) rfl (show mu_is Q4 (some 129) 9 from (u4.1.1.is rfl)) ?_
  rw [(u4.1.1.r (p := 129) (j := 18) (q := 146) rfl)]
  refine mw_cV (fun _ => rfl) (show mu_is Q4 (some 113) 11 from (u4.1.1.is rfl)) (st_unp_146 (d := (d + 1)) (C := C) u4 d4 (st := st) (fc := fc) hs hst hS6 (fun _ t ht => bts_zero hz0 (by have q := hst.2.1.2; omega))) (fun Q5 q5 => ?_)
  obtain ⟨u5, r5, z5, hbb⟩ := q5
  have ht5 : ur m C H Q5 := ht4.trans r5
  obtain ⟨V5, d5⟩ : ∃ V, ud m Q5 = V := ⟨_, rfl⟩
  rw [d5] at z5 hbb
  have qf5 : uq F286 U V5 := qf4.tr z5 rfl
  have hB : ∀ t, t < 16384 → (bts (V5.2.2.2.2.1 146) t = true ↔ S t = true) := fun t ht => by rw [hbb t, bts_zero hz0 ht]; exact ⟨fun q => q.elim (fun y => (by cases y)) (fun y => y), Or.inr⟩
  refine mw_go mu_g286 (k := 2) (f1 := (91, [(0, .inr (.inr (some 129))), (1, .inl (nI id)), (2, .inl (nI k))], [.inl (nI k), .inr (.inr (some 129))], Q5)) (C := []) rfl trivial ?_
  refine mw_cV (fun _ => rfl) (show mu_is Q5 (some 129) 9 from (u5.1.1.is rfl)) (rl_narrow (d := d) (C := C) (k := k) (A := A) u5 d5 (spx_keep hS (show (V5.2.1 99 4) = (U.2.1 99 4) from (z5.i 99 4 rfl)) (show (V5.2.1 99 10) = (U.2.1 99 10) from (z5.i 99 10 rfl)) (show (V5.2.1 99 11) = (U.2.1 99 11) from (z5.i 99 11 rfl)) (show (V5.2.1 99 12) = (U.2.1 99 12) from (z5.i 99 12 rfl)) (show (V5.2.2.1 99 5) = (U.2.2.1 99 5) from (z5.a 99 5 rfl)) (show (V5.2.2.1 99 7) = (U.2.2.1 99 7) from (z5.a 99 7 rfl)) (show (V5.2.2.1 99 6) = (U.2.2.1 99 6) from (z5.a 99 6 rfl)) (show (V5.2.2.1 99 8).1 = (U.2.2.1 99 8).1 from (z5.n 99 8 rfl)) (show (V5.2.2.1 99 18).1 = (U.2.2.1 99 18).1 from (z5.n 99 18 rfl)) (show (V5.2.2.2.1 100 0) = (U.2.2.2.1 100 0) from (z5.r 100 0 rfl)) (show (V5.2.2.2.1 99 0) = (U.2.2.2.1 99 0) from (z5.r 99 0 rfl))) hk (fun s hs hb => hSk s ((hB s (by omega)).mp hb)) (by rw [(show (V5.2.2.1 129 12).1 = (U.2.2.1 129 12).1 from (z5.n 129 12 rfl))]; exact hl12) (by rw [(show (V5.2.2.1 129 12).1 = (U.2.2.1 129 12).1 from (z5.n 129 12 rfl))]; exact hl12b) (ho.eq (show (V5.2.2.1 129 12) = (U.2.2.1 129 12) from (z5.a 129 12 rfl)) (show (V5.2.2.1 129 13) = (U.2.2.1 129 13) from (z5.a 129 13 rfl)))) (fun Q6 q6 => ?_)
  obtain ⟨u6, r6, z6, ho2, hc2, hd2⟩ := q6
  have ht6 : ur m C H Q6 := ht5.trans r6
  obtain ⟨V6, d6⟩ : ∃ V, ud m Q6 = V := ⟨_, rfl⟩
  rw [d6] at z6 ho2 hc2 hd2
  have qf6 : uq F286 U V6 := qf5.tr z6 rfl
  have hzz : BZ V5 0 ((f k + 63) / 64) := BZ.of (z5.i 129 19 rfl) (z5.i 129 20 rfl) (by omega) (by omega) (fun t ht hbt => ⟨Nat.zero_le _, by have q := hSk t ((hB t ht).mp hbt); omega⟩)
  exact mw_of (fun _ => mu_ret rfl trivial ⟨Q6, rfl, u6, ht6, (by rw [d6]; exact qf6), ⟨0, (f k + 63) / 64, (by rw [d6]; exact ⟨⟨(z6.i 129 19 rfl).trans hzz.1.1, (z6.i 129 20 rfl).trans hzz.1.2.1, hzz.1.2.2⟩, fun w hw hn => (by rw [show V6.2.2.2.2.1 146 = V5.2.2.2.2.1 146 from z6.l 146 rfl]; exact hzz.2 w hw hn)⟩)⟩, (by rw [d6]; exact ho2.congr (fun x hx => ⟨fun q => ⟨q.1, (hB x (by omega)).mp q.2⟩, fun q => ⟨q.1, (hB x (by omega)).mpr q.2⟩⟩)), (by rw [d6]; exact fun j hj => (hc2 j hj).trans (congrArg (fun q => q.2 j) (z5.a 129 13 rfl))), (by rw [d6]; exact fun j hj => (hd2 j hj).trans (congrArg (fun q => q.2 j) (z5.a 129 12 rfl)))⟩)
theorem rl_ntoV (h : um m H) (e : ud m H = U) (hS : spx m U P f) (hk : k < P) (hz : BZ U bf bt) (hl12 : sm f 0 P ≤ (U.2.2.1 129 12).1) (hl12b : (U.2.2.1 129 12).1 < 2147483648) (ho : OPT U (sm f 0 k) (f k) k A) (hs : sat U id st fc) (hst : stz fc st S) (hSk : ∀ x, S x = true → x < f k) (hoc : (U.2.2.1 129 13).2 k = nI n) (hn : n ≤ f k) : mu_TV (mu_D (d + 5)) 286 [.inr (.inr (some 129)), .inl (nI id), .inl (nI k)] H (fun H1 => um m H1 ∧ ur m C H H1 ∧ uq F286 U (ud m H1) ∧ (∃ bf' bt', BZ (ud m H1) bf' bt') ∧ OPT (ud m H1) (sm f 0 k) (f k) k (fun x => A x ∧ S x = true) ∧ (∀ j, ¬ j = k → ((ud m H1).2.2.1 129 13).2 j = (U.2.2.1 129 13).2 j) ∧ ∀ j, (j < sm f 0 k ∨ sm f 0 k + f k ≤ j) → ((ud m H1).2.2.1 129 12).2 j = (U.2.2.1 129 12).2 j) := by
  have hS0 := hS
  obtain ⟨⟨s4, s10, s11, s12⟩, hk5, ⟨g8, g8b, g18, g18b⟩, ⟨gP, gpd, gsm⟩, hsp, hmo⟩ := (show spx m U P f from hS)
  have hsk := sm_seg (f := f) hk
  have hk7 := hk5 k hk
  have hfb := sm_part (f := f) hk
  have hS6 : ∀ x, S x = true → x < 16384 := fun x q => by have z := hSk x q; omega
  refine mu_meth (M := mu_m286) rfl rfl ?_
  refine mw_ht (mu_fn_of (show [0, 1, 2].Nodup by decide)) ?_
  refine mw_go mu_g286 (k := 2) (f1 := (4, [(0, .inr (.inr (some 129))), (1, .inl (nI id)), (2, .inl (nI k))], [.inr (.inr (mu_r H 129 13))], H)) (C := [mu_is H (some 129) 9]) rfl (show mu_is H (some 129) 9 from (h.1.1.is rfl)) ?_
  rw [(h.1.1.r (p := 129) (j := 13) (q := 141) rfl)]
  refine mw_go mu_g286 (k := 2) (f1 := (6, [(0, .inr (.inr (some 129))), (1, .inl (nI id)), (2, .inl (nI k))], [.inl (mu_i H 141 (nI k).toNatClampNeg)], H)) (C := [mu_isr H (some 141) 100, vp_in (nI k) (mu_n H 141)]) rfl (show (mu_isr H (some 141) 100) ∧ (vp_in (nI k) (mu_n H 141)) from ⟨((h.iA e rfl rfl ((ud_q (m := m) (P := 129) (j := 13) e rfl).symm.trans (h.1.1.r (p := 129) (j := 13) (q := 141) rfl)))).r, (by rw [show mu_n H 141 = 14 from (h.1.1.a (p := 141) (x := (100, 14)) rfl).2]; exact vp_in_nI (n := k) (by omega) (by decide))⟩) ?_
  rw [(show (mu_i H 141 (nI k).toNatClampNeg) = (nI n) from ((congrArg (mu_i H 141) (show (nI k).toNatClampNeg = k from nI_clamp (by omega))).trans (h.gA e rfl rfl ((ud_q (m := m) (P := 129) (j := 13) e rfl).symm.trans (h.1.1.r (p := 129) (j := 13) (q := 141) rfl)))).trans ((congrArg (fun z => z.2 k) (show U.2.2.1 129 13 = (U.2.2.1 129 13) from rfl)).trans hoc))]
  refine mw_if (P := (nI n) < 0) (a := 9) (b := 54) (fun _ => rfl) trivial (fun h1 => absurd h1 (nI_pos (by omega))) (fun h1 => ?_)
  refine mw_go mu_g286 (k := 4) (f1 := (60, [(0, .inr (.inr (some 129))), (1, .inl (nI id)), (2, .inl (nI k))], [.inr (.inr (mu_r H 129 0)), .inl (0 : Int32), .inr (.inr (some 129))], H)) (C := [mu_is H (some 129) 9]) rfl (show mu_is H (some 129) 9 from (h.1.1.is rfl)) ?_
  rw [(h.1.1.r (p := 129) (j := 0) (q := 99) rfl)]
  refine mw_go mu_g286 (k := 1) (f1 := (63, [(0, .inr (.inr (some 129))), (1, .inl (nI id)), (2, .inl (nI k))], [.inr (.inr (mu_r H 99 5)), .inl (0 : Int32), .inr (.inr (some 129))], H)) (C := [mu_is H (some 99) 13]) rfl (show mu_is H (some 99) 13 from (h.1.1.is rfl)) ?_
  rw [(h.1.1.r (p := 99) (j := 5) (q := 120) rfl)]
  refine mw_go mu_g286 (k := 2) (f1 := (65, [(0, .inr (.inr (some 129))), (1, .inl (nI id)), (2, .inl (nI k))], [.inl (mu_i H 120 (nI k).toNatClampNeg), .inl (0 : Int32), .inr (.inr (some 129))], H)) (C := [mu_isr H (some 120) 100, vp_in (nI k) (mu_n H 120)]) rfl (show (mu_isr H (some 120) 100) ∧ (vp_in (nI k) (mu_n H 120)) from ⟨((h.iA e rfl rfl ((ud_q (m := m) (P := 99) (j := 5) e rfl).symm.trans (h.1.1.r (p := 99) (j := 5) (q := 120) rfl)))).r, (by rw [show mu_n H 120 = 14 from (h.1.1.a (p := 120) (x := (100, 14)) rfl).2]; exact vp_in_nI (n := k) (by omega) (by decide))⟩) ?_
  rw [(show (mu_i H 120 (nI k).toNatClampNeg) = (nI (f k)) from ((congrArg (mu_i H 120) (show (nI k).toNatClampNeg = k from nI_clamp (by omega))).trans (h.gA e rfl rfl ((ud_q (m := m) (P := 99) (j := 5) e rfl).symm.trans (h.1.1.r (p := 99) (j := 5) (q := 120) rfl)))).trans ((congrArg (fun z => z.2 k) (show U.2.2.1 99 5 = (U.2.2.1 99 5) from rfl)).trans (hk5 k (by omega)).1))]
  refine mw_go mu_g286 (k := 2) (f1 := (68, [(0, .inr (.inr (some 129))), (1, .inl (nI id)), (2, .inl (nI k))], [.inl ((nI (f k)) + (63 : Int32)), .inl (0 : Int32), .inr (.inr (some 129))], H)) (C := []) rfl trivial ?_
  rw [(show ((nI (f k)) + (63 : Int32)) = (nI ((f k) + 63)) from (nI_add (f k) 63))]
  refine mw_go mu_g286 (k := 2) (f1 := (71, [(0, .inr (.inr (some 129))), (1, .inl (nI id)), (2, .inl (nI k))], [.inl ((nI ((f k) + 63)) >>> ((6 : Int32) &&& 31)), .inl (0 : Int32), .inr (.inr (some 129))], H)) (C := []) rfl trivial ?_
  rw [(show ((nI ((f k) + 63)) >>> ((6 : Int32) &&& 31)) = (nI (((f k) + 63) / 64)) from (nI_shr6 (a := (f k) + 63) (by omega)))]
  refine mw_cV (fun _ => rfl) (show mu_is H (some 129) 9 from (h.1.1.is rfl)) (rl_clear (d := (d + 1)) (C := C) (a := 0) (b := ((f k) + 63) / 64) h e hz) (fun Q2 q2 => ?_)
  obtain ⟨u2, r2, d2⟩ := q2
  have ht2 : ur m C H Q2 := (ur.refl m C H).trans r2
  have qf2 : uq F286 U (upI (upI (upM U 146 bf (fun _ => (0 : Int64)) (bt - bf)) 129 19 (nI 0)) 129 20 (nI (((f k) + 63) / 64))) := ((((uq.refl F286 U).M rfl).I rfl).I rfl)
  obtain ⟨hz2, hz0⟩ := BZ.clear hz (a := 0) (b := ((f k) + 63) / 64) (by omega) (by omega)
  refine mw_go mu_g286 (k := 2) (f1 := (78, [(0, .inr (.inr (some 129))), (1, .inl (nI id)), (2, .inl (nI k))], [.inr (.inr (mu_r Q2 129 0))], Q2)) (C := [mu_is Q2 (some 129) 9]) rfl (show mu_is Q2 (some 129) 9 from (u2.1.1.is rfl)) ?_
  rw [(u2.1.1.r (p := 129) (j := 0) (q := 99) rfl)]
  refine mw_go mu_g286 (k := 1) (f1 := (81, [(0, .inr (.inr (some 129))), (1, .inl (nI id)), (2, .inl (nI k))], [.inr (.inr (mu_r Q2 99 2))], Q2)) (C := [mu_is Q2 (some 99) 13]) rfl (show mu_is Q2 (some 99) 13 from (u2.1.1.is rfl)) ?_
  rw [(u2.1.1.r (p := 99) (j := 2) (q := 113) rfl)]
  refine mw_go mu_g286 (k := 3) (f1 := (86, [(0, .inr (.inr (some 129))), (1, .inl (nI id)), (2, .inl (nI k))], [.inr (.inr (mu_r Q2 129 18)), .inl (nI id), .inr (.inr (some 113))], Q2)) (C := [mu_is Q2 (some 129) 9]) rfl (show mu_is Q2 (some 129) 9 from (u2.1.1.is rfl)) ?_
  rw [(u2.1.1.r (p := 129) (j := 18) (q := 146) rfl)]
  refine mw_cV (fun _ => rfl) (show mu_is Q2 (some 113) 11 from (u2.1.1.is rfl)) (st_unp_146 (d := (d + 1)) (C := C) u2 d2 (st := st) (fc := fc) hs hst hS6 (fun _ t ht => bts_zero hz0 (by have q := hst.2.1.2; omega))) (fun Q3 q3 => ?_)
  obtain ⟨u3, r3, z3, hbb⟩ := q3
  have ht3 : ur m C H Q3 := ht2.trans r3
  obtain ⟨V3, d3⟩ : ∃ V, ud m Q3 = V := ⟨_, rfl⟩
  rw [d3] at z3 hbb
  have qf3 : uq F286 U V3 := qf2.tr z3 rfl
  have hB : ∀ t, t < 16384 → (bts (V3.2.2.2.2.1 146) t = true ↔ S t = true) := fun t ht => by rw [hbb t, bts_zero hz0 ht]; exact ⟨fun q => q.elim (fun y => (by cases y)) (fun y => y), Or.inr⟩
  refine mw_go mu_g286 (k := 2) (f1 := (91, [(0, .inr (.inr (some 129))), (1, .inl (nI id)), (2, .inl (nI k))], [.inl (nI k), .inr (.inr (some 129))], Q3)) (C := []) rfl trivial ?_
  refine mw_cV (fun _ => rfl) (show mu_is Q3 (some 129) 9 from (u3.1.1.is rfl)) (rl_narrow (d := d) (C := C) (k := k) (A := A) u3 d3 (spx_keep hS (show (V3.2.1 99 4) = (U.2.1 99 4) from (z3.i 99 4 rfl)) (show (V3.2.1 99 10) = (U.2.1 99 10) from (z3.i 99 10 rfl)) (show (V3.2.1 99 11) = (U.2.1 99 11) from (z3.i 99 11 rfl)) (show (V3.2.1 99 12) = (U.2.1 99 12) from (z3.i 99 12 rfl)) (show (V3.2.2.1 99 5) = (U.2.2.1 99 5) from (z3.a 99 5 rfl)) (show (V3.2.2.1 99 7) = (U.2.2.1 99 7) from (z3.a 99 7 rfl)) (show (V3.2.2.1 99 6) = (U.2.2.1 99 6) from (z3.a 99 6 rfl)) (show (V3.2.2.1 99 8).1 = (U.2.2.1 99 8).1 from (z3.n 99 8 rfl)) (show (V3.2.2.1 99 18).1 = (U.2.2.1 99 18).1 from (z3.n 99 18 rfl)) (show (V3.2.2.2.1 100 0) = (U.2.2.2.1 100 0) from (z3.r 100 0 rfl)) (show (V3.2.2.2.1 99 0) = (U.2.2.2.1 99 0) from (z3.r 99 0 rfl))) hk (fun s hs hb => hSk s ((hB s (by omega)).mp hb)) (by rw [(show (V3.2.2.1 129 12).1 = (U.2.2.1 129 12).1 from (z3.n 129 12 rfl))]; exact hl12) (by rw [(show (V3.2.2.1 129 12).1 = (U.2.2.1 129 12).1 from (z3.n 129 12 rfl))]; exact hl12b) (ho.eq (show (V3.2.2.1 129 12) = (U.2.2.1 129 12) from (z3.a 129 12 rfl)) (show (V3.2.2.1 129 13) = (U.2.2.1 129 13) from (z3.a 129 13 rfl)))) (fun Q4 q4 => ?_)
  obtain ⟨u4, r4, z4, ho2, hc2, hd2⟩ := q4
  have ht4 : ur m C H Q4 := ht3.trans r4
  obtain ⟨V4, d4⟩ : ∃ V, ud m Q4 = V := ⟨_, rfl⟩
  rw [d4] at z4 ho2 hc2 hd2
  have qf4 : uq F286 U V4 := qf3.tr z4 rfl
  have hzz : BZ V3 0 ((f k + 63) / 64) := BZ.of (z3.i 129 19 rfl) (z3.i 129 20 rfl) (by omega) (by omega) (fun t ht hbt => ⟨Nat.zero_le _, by have q := hSk t ((hB t ht).mp hbt); omega⟩)
  exact mw_of (fun _ => mu_ret rfl trivial ⟨Q4, rfl, u4, ht4, (by rw [d4]; exact qf4), ⟨0, (f k + 63) / 64, (by rw [d4]; exact ⟨⟨(z4.i 129 19 rfl).trans hzz.1.1, (z4.i 129 20 rfl).trans hzz.1.2.1, hzz.1.2.2⟩, fun w hw hn => (by rw [show V4.2.2.2.2.1 146 = V3.2.2.2.2.1 146 from z4.l 146 rfl]; exact hzz.2 w hw hn)⟩)⟩, (by rw [d4]; exact ho2.congr (fun x hx => ⟨fun q => ⟨q.1, (hB x (by omega)).mp q.2⟩, fun q => ⟨q.1, (hB x (by omega)).mpr q.2⟩⟩)), (by rw [d4]; exact fun j hj => (hc2 j hj).trans (congrArg (fun q => q.2 j) (z3.a 129 13 rfl))), (by rw [d4]; exact fun j hj => (hd2 j hj).trans (congrArg (fun q => q.2 j) (z3.a 129 12 rfl)))⟩)
theorem rl_nto (h : um m H) (e : ud m H = U) (hS : spx m U P f) (hk : k < P) (hz : BZ U bf bt) (hl12 : sm f 0 P ≤ (U.2.2.1 129 12).1) (hl12b : (U.2.2.1 129 12).1 < 2147483648) (ho : OPT U (sm f 0 k) (f k) k A) (hs : sat U id st fc) (hst : stz fc st S) (hSk : ∀ x, S x = true → x < f k) : mu_TV (mu_D (d + 5)) 286 [.inr (.inr (some 129)), .inl (nI id), .inl (nI k)] H (fun H1 => um m H1 ∧ ur m C H H1 ∧ uq F286 U (ud m H1) ∧ (∃ bf' bt', BZ (ud m H1) bf' bt') ∧ OPT (ud m H1) (sm f 0 k) (f k) k (fun x => A x ∧ S x = true) ∧ (∀ j, ¬ j = k → ((ud m H1).2.2.1 129 13).2 j = (U.2.2.1 129 13).2 j) ∧ ∀ j, (j < sm f 0 k ∨ sm f 0 k + f k ≤ j) → ((ud m H1).2.2.1 129 12).2 j = (U.2.2.1 129 12).2 j) := by
  have ho0 := ho
  rcases ho0 with ⟨h1, h2⟩ | ⟨n, ls, h1, h2, h3, h4⟩
  · by_cases hf : hfm fc st = 0
    · exact rl_ntoL h e hS hk hz hl12 hl12b ho hs hst hSk h1 h2 hf
    · exact rl_ntoU h e hS hk hz hl12 hl12b ho hs hst hSk h1 hf
  · exact rl_ntoV h e hS hk hz hl12 hl12b ho hs hst hSk h1 (lm_len h3 h4)
end NarrowTo
