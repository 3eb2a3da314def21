/-! RELATION: options of a place -/
section Narrow
variable {H : mu_H} {U V : Ud} {m d id st P bf bt n w t k N fr fk y l x : Nat} {C : Nat → Nat} {fc : Nat → Int64} {S : Nat → Bool} {ls lt f : Nat → Nat} {A B : Nat → Prop}
/-- the options of a place: all, or a rising list -/
def OPT (V : Ud) (fr fk k : Nat) (A : Nat → Prop) : Prop := ((V.2.2.1 129 13).2 k = -1 ∧ ∀ x, x < fk → A x) ∨ ∃ n ls, (V.2.2.1 129 13).2 k = nI n ∧ (∀ i, i < n → (V.2.2.1 129 12).2 (fr + i) = nI (ls i)) ∧ (∀ i j, i < j → j < n → ls i < ls j) ∧ ∀ x, lmz ls n x = true ↔ x < fk ∧ A x
theorem lm_lt (hm : ∀ x, lmz ls n x = true ↔ x < fk ∧ A x) (i : Nat) (hi : i < n) : ls i < fk := ((hm (ls i)).mp ((lmz_iff n).mpr ⟨i, hi, rfl⟩)).1
theorem lm_len (hr : ∀ i j, i < j → j < n → ls i < ls j) (hm : ∀ x, lmz ls n x = true ↔ x < fk ∧ A x) : n ≤ fk := by
  by_cases h0 : n = 0
  · omega
  · have z1 := rise_le hr (n - 1) (by omega)
    have z2 := lm_lt hm (n - 1) (by omega)
    omega
/-- the ends of a filter -/
def FLT (V : Ud) (fr y l : Nat) (ls lt : Nat → Nat) (B : Nat → Prop) : Prop := l ≤ y ∧ (∀ i, i < l → (V.2.2.1 129 12).2 (fr + i) = nI (lt i)) ∧ (∀ i j, i < j → j < l → lt i < lt j) ∧ (∀ i, i < l → ∃ j, j < y ∧ lt i = ls j) ∧ ∀ x, lmz lt l x = true ↔ lmz ls y x = true ∧ B x
theorem FLT.yes (h : FLT V fr y l ls lt B) (hb : B (ls y)) (hr : ∀ i j, i < j → j < n → ls i < ls j) (hy : y < n) : FLT (upA V 129 12 (fr + l) (nI (ls y))) fr (y + 1) (l + 1) ls (fun i => if i = l then ls y else lt i) B := by
  obtain ⟨h1, h2, h3, h4, h5⟩ := h
  refine ⟨by omega, fun i hi => ?_, fun i j hi hj => ?_, fun i hi => ?_, fun x => ?_⟩
  · show (if fr + i = fr + l then nI (ls y) else (V.2.2.1 129 12).2 (fr + i)) = nI (if i = l then ls y else lt i)
    by_cases e : i = l
    · rw [if_pos (by omega), if_pos e]
    · rw [if_neg (by omega), if_neg e]
      exact h2 i (by omega)
  · show (if i = l then ls y else lt i) < (if j = l then ls y else lt j)
    rw [if_neg (by omega)]
    by_cases e : j = l
    · rw [if_pos e]
      obtain ⟨q, q1, q2⟩ := h4 i (by omega)
      rw [q2]
      exact hr q y q1 hy
    · rw [if_neg e]
      exact h3 i j hi (by omega)
  · show ∃ j, j < y + 1 ∧ (if i = l then ls y else lt i) = ls j
    by_cases e : i = l
    · rw [if_pos e]
      exact ⟨y, by omega, rfl⟩
    · rw [if_neg e]
      obtain ⟨q, q1, q2⟩ := h4 i (by omega)
      exact ⟨q, by omega, q2⟩
  · have e0 : lmz (fun i => if i = l then ls y else lt i) l = lmz lt l := lmz_congr (fun i hi => if_neg (by omega))
    show (lmz (fun i => if i = l then ls y else lt i) l x || decide ((if l = l then ls y else lt l) = x)) = true ↔ (lmz ls y x || decide (ls y = x)) = true ∧ B x
    rw [e0, if_pos rfl, Bool.or_eq_true, Bool.or_eq_true, h5 x, decide_eq_true_iff]
    constructor
    · rintro (⟨a, b⟩ | a)
      · exact ⟨Or.inl a, b⟩
      · exact ⟨Or.inr a, a ▸ hb⟩
    · rintro ⟨a | a, b⟩
      · exact Or.inl ⟨a, b⟩
      · exact Or.inr a
theorem FLT.no (h : FLT V fr y l ls lt B) (hb : ¬ B (ls y)) : FLT V fr (y + 1) l ls lt B := by
  obtain ⟨h1, h2, h3, h4, h5⟩ := h
  refine ⟨by omega, h2, h3, fun i hi => ?_, fun x => ?_⟩
  · obtain ⟨q, q1, q2⟩ := h4 i hi
    exact ⟨q, by omega, q2⟩
  · show lmz lt l x = true ↔ (lmz ls y x || decide (ls y = x)) = true ∧ B x
    rw [Bool.or_eq_true, h5 x, decide_eq_true_iff]
    constructor
    · rintro ⟨a, b⟩
      exact ⟨Or.inl a, b⟩
    · rintro ⟨a | a, b⟩
      · exact ⟨a, b⟩
      · exact absurd (a ▸ b) hb
theorem sm_seg (hk : k < P) : sm f 0 k + f k ≤ sm f 0 P := by
  have h1 : sm f 0 (k + 1) = sm f 0 k + f k := sm_last (fun _ _ => rfl)
  have h2 := sm_le_add (f := f) (a := 0) (k + 1) (P - (k + 1))
  rw [show k + 1 + (P - (k + 1)) = P by omega] at h2
  omega
theorem sm_part (hk : k < P) : f k ≤ sm f 0 P := by
  have h1 := sm_seg (f := f) hk
  omega
/-- PathProver$Relation.narrow(I)V -/
abbrev mu_m284 : ev_M := (6, none, [], ev_b284)
theorem mu_g284 : mu_good mu_m284 := mu_goodk ev_k284
def F284 : Uf := ⟨[], [], [(129, 12), (129, 13)], [], [], false⟩
theorem rl_narrow0 (h : um m H) (e : ud m H = U) (hS : spx m U P f) (hk : k < P) (hb1 : ∀ s, s / 64 < (f k + 63) / 64 → bts (U.2.2.2.2.1 146) s = true → s < f k) (hl12 : sm f 0 P ≤ (U.2.2.1 129 12).1) (hl12b : (U.2.2.1 129 12).1 < 2147483648) (hoc : (U.2.2.1 129 13).2 k = -1) (hA : ∀ x, x < f k → A x) : mu_TV (mu_D (d + 4)) 284 [.inr (.inr (some 129)), .inl (nI k)] H (fun H1 => um m H1 ∧ ur m C H H1 ∧ uq F284 U (ud m H1) ∧ OPT (ud m H1) (sm f 0 k) (f k) k (fun x => A x ∧ bts (U.2.2.2.2.1 146) x = true) ∧ (∀ j, ¬ j = k → ((ud m H1).2.2.1 129 13).2 j = (U.2.2.1 129 13).2 j) ∧ ∀ j, (j < sm f 0 k ∨ sm f 0 k + f k ≤ j) → ((ud m H1).2.2.1 129 12).2 j = (U.2.2.1 129 12).2 j) := by
  obtain ⟨⟨s4, s10, s11, s12⟩, hk5, ⟨g8, g8b, g18, g18b⟩, ⟨gP, gpd, gsm⟩, hsp, hmo⟩ := hS
  have hsk := sm_seg (f := f) hk
  have hk7 := hk5 k hk
  have hfb := sm_part (f := f) hk
  refine mu_meth (M := mu_m284) rfl rfl ?_
  refine mw_ht (mu_fn_of (show [0, 1].Nodup by decide)) ?_
  refine mw_go mu_g284 (k := 2) (f1 := (4, [(0, .inr (.inr (some 129))), (1, .inl (nI k))], [.inr (.inr (mu_r H 129 0))], H)) (C := [mu_is H (some 129) 9]) rfl (show mu_is H (some 129) 9 from (h.1.1.is rfl)) ?_
  rw [(h.1.1.r (p := 129) (j := 0) (q := 99) rfl)]
  refine mw_go mu_g284 (k := 1) (f1 := (7, [(0, .inr (.inr (some 129))), (1, .inl (nI k))], [.inr (.inr (mu_r H 99 7))], H)) (C := [mu_is H (some 99) 13]) rfl (show mu_is H (some 99) 13 from (h.1.1.is rfl)) ?_
  rw [(h.1.1.r (p := 99) (j := 7) (q := 122) rfl)]
  refine mw_go mu_g284 (k := 2) (f1 := (9, [(0, .inr (.inr (some 129))), (1, .inl (nI k))], [.inl (mu_i H 122 (nI k).toNatClampNeg)], H)) (C := [mu_isr H (some 122) 100, vp_in (nI k) (mu_n H 122)]) rfl (show (mu_isr H (some 122) 100) ∧ (vp_in (nI k) (mu_n H 122)) from ⟨((h.iA e rfl rfl ((ud_q (m := m) (P := 99) (j := 7) e rfl).symm.trans (h.1.1.r (p := 99) (j := 7) (q := 122) rfl)))).r, (by rw [show mu_n H 122 = 14 from (h.1.1.a (p := 122) (x := (100, 14)) rfl).2]; exact vp_in_nI (n := k) (by omega) (by decide))⟩) ?_
  rw [(show (mu_i H 122 (nI k).toNatClampNeg) = (nI (sm f 0 k)) from ((congrArg (mu_i H 122) (show (nI k).toNatClampNeg = k from nI_clamp (by omega))).trans (h.gA e rfl rfl ((ud_q (m := m) (P := 99) (j := 7) e rfl).symm.trans (h.1.1.r (p := 99) (j := 7) (q := 122) rfl)))).trans ((congrArg (fun z => z.2 k) (show U.2.2.1 99 7 = (U.2.2.1 99 7) from rfl)).trans (hk5 k (by omega)).2.1))]
  refine mw_go mu_g284 (k := 3) (f1 := (14, [(2, .inl (nI (sm f 0 k))), (0, .inr (.inr (some 129))), (1, .inl (nI k))], [.inr (.inr (mu_r H 129 13))], H)) (C := [mu_is H (some 129) 9]) rfl (show mu_is H (some 129) 9 from (h.1.1.is rfl)) ?_
  rw [(h.1.1.r (p := 129) (j := 13) (q := 141) rfl)]
  refine mw_go mu_g284 (k := 2) (f1 := (16, [(2, .inl (nI (sm f 0 k))), (0, .inr (.inr (some 129))), (1, .inl (nI k))], [.inl (mu_i H 141 (nI k).toNatClampNeg)], H)) (C := [mu_isr H (some 141) 100, vp_in (nI k) (mu_n H 141)]) rfl (show (mu_isr H (some 141) 100) ∧ (vp_in (nI k) (mu_n H 141)) from ⟨((h.iA e rfl rfl ((ud_q (m := m) (P := 129) (j := 13) e rfl).symm.trans (h.1.1.r (p := 129) (j := 13) (q := 141) rfl)))).r, (by rw [show mu_n H 141 = 14 from (h.1.1.a (p := 141) (x := (100, 14)) rfl).2]; exact vp_in_nI (n := k) (by omega) (by decide))⟩) ?_
  rw [(show (mu_i H 141 (nI k).toNatClampNeg) = (-1 : Int32) from ((congrArg (mu_i H 141) (show (nI k).toNatClampNeg = k from nI_clamp (by omega))).trans (h.gA e rfl rfl ((ud_q (m := m) (P := 129) (j := 13) e rfl).symm.trans (h.1.1.r (p := 129) (j := 13) (q := 141) rfl)))).trans ((congrArg (fun z => z.2 k) (show U.2.2.1 129 13 = (U.2.2.1 129 13) from rfl)).trans hoc))]
  refine mw_if (P := (-1 : Int32) < 0) (a := 19) (b := 54) (fun _ => rfl) trivial (fun h1 => ?_) (fun h1 => absurd (by decide) h1)
  refine mw_go mu_g284 (k := 2) (f1 := (23, [(2, .inl (nI (sm f 0 k))), (0, .inr (.inr (some 129))), (1, .inl (nI k))], [.inr (.inr (mu_r H 129 13))], H)) (C := [mu_is H (some 129) 9]) rfl (show mu_is H (some 129) 9 from (h.1.1.is rfl)) ?_
  rw [(h.1.1.r (p := 129) (j := 13) (q := 141) rfl)]
  refine mw_go mu_g284 (k := 4) (f1 := (29, [(2, .inl (nI (sm f 0 k))), (0, .inr (.inr (some 129))), (1, .inl (nI k))], [.inr (.inr (mu_r H 129 18)), .inr (.inr (some 129)), .inl (nI k), .inr (.inr (some 141))], H)) (C := [mu_is H (some 129) 9]) rfl (show mu_is H (some 129) 9 from (h.1.1.is rfl)) ?_
  rw [(h.1.1.r (p := 129) (j := 18) (q := 146) rfl)]
  refine mw_go mu_g284 (k := 2) (f1 := (33, [(2, .inl (nI (sm f 0 k))), (0, .inr (.inr (some 129))), (1, .inl (nI k))], [.inr (.inr (mu_r H 129 12)), .inr (.inr (some 146)), .inr (.inr (some 129)), .inl (nI k), .inr (.inr (some 141))], H)) (C := [mu_is H (some 129) 9]) rfl (show mu_is H (some 129) 9 from (h.1.1.is rfl)) ?_
  rw [(show mu_r H 129 12 = (U.2.2.2.1 129 12) from (ud_q (U := U) (m := m) (P := 129) (j := 12) e rfl))]
  refine mw_go mu_g284 (k := 3) (f1 := (38, [(2, .inl (nI (sm f 0 k))), (0, .inr (.inr (some 129))), (1, .inl (nI k))], [.inr (.inr (mu_r H 129 0)), .inl (nI (sm f 0 k)), .inr (.inr (U.2.2.2.1 129 12)), .inr (.inr (some 146)), .inr (.inr (some 129)), .inl (nI k), .inr (.inr (some 141))], H)) (C := [mu_is H (some 129) 9]) rfl (show mu_is H (some 129) 9 from (h.1.1.is rfl)) ?_
  rw [(h.1.1.r (p := 129) (j := 0) (q := 99) rfl)]
  refine mw_go mu_g284 (k := 1) (f1 := (41, [(2, .inl (nI (sm f 0 k))), (0, .inr (.inr (some 129))), (1, .inl (nI k))], [.inr (.inr (mu_r H 99 5)), .inl (nI (sm f 0 k)), .inr (.inr (U.2.2.2.1 129 12)), .inr (.inr (some 146)), .inr (.inr (some 129)), .inl (nI k), .inr (.inr (some 141))], H)) (C := [mu_is H (some 99) 13]) rfl (show mu_is H (some 99) 13 from (h.1.1.is rfl)) ?_
  rw [(h.1.1.r (p := 99) (j := 5) (q := 120) rfl)]
  refine mw_go mu_g284 (k := 2) (f1 := (43, [(2, .inl (nI (sm f 0 k))), (0, .inr (.inr (some 129))), (1, .inl (nI k))], [.inl (mu_i H 120 (nI k).toNatClampNeg), .inl (nI (sm f 0 k)), .inr (.inr (U.2.2.2.1 129 12)), .inr (.inr (some 146)), .inr (.inr (some 129)), .inl (nI k), .inr (.inr (some 141))], H)) (C := [mu_isr H (some 120) 100, vp_in (nI k) (mu_n H 120)]) rfl (show (mu_isr H (some 120) 100) ∧ (vp_in (nI k) (mu_n H 120)) from ⟨((h.iA e rfl rfl ((ud_q (m := m) (P := 99) (j := 5) e rfl).symm.trans (h.1.1.r (p := 99) (j := 5) (q := 120) rfl)))).r, (by rw [show mu_n H 120 = 14 from (h.1.1.a (p := 120) (x := (100, 14)) rfl).2]; exact vp_in_nI (n := k) (by omega) (by decide))⟩) ?_
  rw [(show (mu_i H 120 (nI k).toNatClampNeg) = (nI (f k)) from ((congrArg (mu_i H 120) (show (nI k).toNatClampNeg = k from nI_clamp (by omega))).trans (h.gA e rfl rfl ((ud_q (m := m) (P := 99) (j := 5) e rfl).symm.trans (h.1.1.r (p := 99) (j := 5) (q := 120) rfl)))).trans ((congrArg (fun z => z.2 k) (show U.2.2.1 99 5 = (U.2.2.1 99 5) from rfl)).trans (hk5 k (by omega)).1))]
  refine mw_go mu_g284 (k := 2) (f1 := (46, [(2, .inl (nI (sm f 0 k))), (0, .inr (.inr (some 129))), (1, .inl (nI k))], [.inl ((nI (f k)) + (63 : Int32)), .inl (nI (sm f 0 k)), .inr (.inr (U.2.2.2.1 129 12)), .inr (.inr (some 146)), .inr (.inr (some 129)), .inl (nI k), .inr (.inr (some 141))], H)) (C := []) rfl trivial ?_
  rw [(show ((nI (f k)) + (63 : Int32)) = (nI ((f k) + 63)) from (nI_add (f k) 63))]
  refine mw_go mu_g284 (k := 2) (f1 := (49, [(2, .inl (nI (sm f 0 k))), (0, .inr (.inr (some 129))), (1, .inl (nI k))], [.inl ((nI ((f k) + 63)) >>> ((6 : Int32) &&& 31)), .inl (nI (sm f 0 k)), .inr (.inr (U.2.2.2.1 129 12)), .inr (.inr (some 146)), .inr (.inr (some 129)), .inl (nI k), .inr (.inr (some 141))], H)) (C := []) rfl trivial ?_
  rw [(show ((nI ((f k) + 63)) >>> ((6 : Int32) &&& 31)) = (nI (((f k) + 63) / 64)) from (nI_shr6 (a := (f k) + 63) (by omega)))]
  refine mw_cI (fun _ => rfl) (show mu_is H (some 129) 9 from (h.1.1.is rfl)) (rl_listb12 (d := d) (C := C) (fr := sm f 0 k) (wd := (f k + 63) / 64) (Z := f k) h e hb1 (by omega) (by omega) hl12b) (fun x2 Q2 q2 => ?_)
  obtain ⟨n, rfl, u2, r2, z2, ls, hls, hen, hke⟩ := q2
  have ht2 : ur m C H Q2 := (ur.refl m C H).trans r2
  obtain ⟨V2, d2⟩ : ∃ V, ud m Q2 = V := ⟨_, rfl⟩
  rw [d2] at z2 hls hke
  have qf2 : uq F284 U V2 := (uq.refl F284 U).tr z2 rfl
  refine mw_go mu_g284 (k := 1) (f1 := (53, [(2, .inl (nI (sm f 0 k))), (0, .inr (.inr (some 129))), (1, .inl (nI k))], [], (mu_si Q2 141 (nI k).toNatClampNeg (nI n)))) (C := [mu_is Q2 (some 141) 100, vp_in (nI k) (mu_n Q2 141)]) rfl (show (mu_is Q2 (some 141) 100) ∧ (vp_in (nI k) (mu_n Q2 141)) from ⟨(u2.iA d2 rfl rfl ((ud_q (m := m) (P := 129) (j := 13) d2 rfl).symm.trans (u2.1.1.r (p := 129) (j := 13) (q := 141) rfl))), (by rw [show mu_n Q2 141 = 14 from (u2.1.1.a (p := 141) (x := (100, 14)) rfl).2]; exact vp_in_nI (n := k) (by omega) (by decide))⟩) ?_
  rw [(show (nI k).toNatClampNeg = k from nI_clamp (by omega))]
  obtain ⟨u3, r3, d3⟩ : um m (mu_si Q2 141 k (nI n)) ∧ ur m C Q2 (mu_si Q2 141 k (nI n)) ∧ ud m (mu_si Q2 141 k (nI n)) = (upA V2 129 13 k (nI n)) := u2.sA (C := C) d2 rfl rfl ((ud_q (m := m) (P := 129) (j := 13) d2 rfl).symm.trans (u2.1.1.r (p := 129) (j := 13) (q := 141) rfl))
  generalize (mu_si Q2 141 k (nI n)) = Q3 at u3 r3 d3 ⊢
  have qf3 : uq F284 U (upA V2 129 13 k (nI n)) := qf2.A rfl
  have ht3 : ur m C H Q3 := ht2.trans r3
  obtain ⟨hlr, hlT, hlm⟩ := enw_list (T := f k) hen (fun s q => btu_T q)
  exact mw_of (fun _ => mu_ret rfl trivial ⟨Q3, rfl, u3, ht3, (by rw [d3]; exact qf3), (by rw [d3]; exact Or.inr ⟨n, ls, if_pos rfl, hls, hlr, fun x => by rw [hlm x]; unfold btu; rw [Bool.and_eq_true, decide_eq_true_iff]; exact ⟨fun q => ⟨q.2.1, hA x q.2.1, q.2.2⟩, fun q => ⟨by omega, q.1, q.2.2⟩⟩⟩), (by rw [d3]; exact fun j hj => (if_neg hj).trans (congrArg (fun q => q.2 j) ((show V2.2.2.1 129 13 = U.2.2.1 129 13 from z2.a 129 13 rfl)))), (by rw [d3]; exact fun j hj => hke j (by have q := lm_len (A := fun x => bts (U.2.2.2.2.1 146) x = true) hlr (fun x => by rw [hlm x]; unfold btu; rw [Bool.and_eq_true, decide_eq_true_iff]; exact ⟨fun q => q.2, fun q => ⟨by omega, q⟩⟩); omega))⟩)
def F284a : Uf := ⟨[], [], [(129, 12)], [], [], false⟩
theorem rl_narrow1 (h : um m H) (e : ud m H = U) (hS : spx m U P f) (hk : k < P) (hl12 : sm f 0 P ≤ (U.2.2.1 129 12).1) (hl12b : (U.2.2.1 129 12).1 < 2147483648) (hoc : (U.2.2.1 129 13).2 k = nI n) (hls : ∀ i, i < n → (U.2.2.1 129 12).2 (sm f 0 k + i) = nI (ls i)) (hr : ∀ i j, i < j → j < n → ls i < ls j) (hm : ∀ x, lmz ls n x = true ↔ x < f k ∧ A x) : mu_TV (mu_D (d + 4)) 284 [.inr (.inr (some 129)), .inl (nI k)] H (fun H1 => um m H1 ∧ ur m C H H1 ∧ uq F284 U (ud m H1) ∧ OPT (ud m H1) (sm f 0 k) (f k) k (fun x => A x ∧ bts (U.2.2.2.2.1 146) x = true) ∧ (∀ j, ¬ j = k → ((ud m H1).2.2.1 129 13).2 j = (U.2.2.1 129 13).2 j) ∧ ∀ j, (j < sm f 0 k ∨ sm f 0 k + f k ≤ j) → ((ud m H1).2.2.1 129 12).2 j = (U.2.2.1 129 12).2 j) := by
  obtain ⟨⟨s4, s10, s11, s12⟩, hk5, ⟨g8, g8b, g18, g18b⟩, ⟨gP, gpd, gsm⟩, hsp, hmo⟩ := hS
  have hsk := sm_seg (f := f) hk
  have hk7 := hk5 k hk
  have hfb := sm_part (f := f) hk
  have hnl := lm_len hr hm
  refine mu_meth (M := mu_m284) rfl rfl ?_
  refine mw_ht (mu_fn_of (show [0, 1].Nodup by decide)) ?_
  refine mw_go mu_g284 (k := 2) (f1 := (4, [(0, .inr (.inr (some 129))), (1, .inl (nI k))], [.inr (.inr (mu_r H 129 0))], H)) (C := [mu_is H (some 129) 9]) rfl (show mu_is H (some 129) 9 from (h.1.1.is rfl)) ?_
  rw [(h.1.1.r (p := 129) (j := 0) (q := 99) rfl)]
  refine mw_go mu_g284 (k := 1) (f1 := (7, [(0, .inr (.inr (some 129))), (1, .inl (nI k))], [.inr (.inr (mu_r H 99 7))], H)) (C := [mu_is H (some 99) 13]) rfl (show mu_is H (some 99) 13 from (h.1.1.is rfl)) ?_
  rw [(h.1.1.r (p := 99) (j := 7) (q := 122) rfl)]
  refine mw_go mu_g284 (k := 2) (f1 := (9, [(0, .inr (.inr (some 129))), (1, .inl (nI k))], [.inl (mu_i H 122 (nI k).toNatClampNeg)], H)) (C := [mu_isr H (some 122) 100, vp_in (nI k) (mu_n H 122)]) rfl (show (mu_isr H (some 122) 100) ∧ (vp_in (nI k) (mu_n H 122)) from ⟨((h.iA e rfl rfl ((ud_q (m := m) (P := 99) (j := 7) e rfl).symm.trans (h.1.1.r (p := 99) (j := 7) (q := 122) rfl)))).r, (by rw [show mu_n H 122 = 14 from (h.1.1.a (p := 122) (x := (100, 14)) rfl).2]; exact vp_in_nI (n := k) (by omega) (by decide))⟩) ?_
  rw [(show (mu_i H 122 (nI k).toNatClampNeg) = (nI (sm f 0 k)) from ((congrArg (mu_i H 122) (show (nI k).toNatClampNeg = k from nI_clamp (by omega))).trans (h.gA e rfl rfl ((ud_q (m := m) (P := 99) (j := 7) e rfl).symm.trans (h.1.1.r (p := 99) (j := 7) (q := 122) rfl)))).trans ((congrArg (fun z => z.2 k) (show U.2.2.1 99 7 = (U.2.2.1 99 7) from rfl)).trans (hk5 k (by omega)).2.1))]
  refine mw_go mu_g284 (k := 3) (f1 := (14, [(2, .inl (nI (sm f 0 k))), (0, .inr (.inr (some 129))), (1, .inl (nI k))], [.inr (.inr (mu_r H 129 13))], H)) (C := [mu_is H (some 129) 9]) rfl (show mu_is H (some 129) 9 from (h.1.1.is rfl)) ?_
  rw [(h.1.1.r (p := 129) (j := 13) (q := 141) rfl)]
  refine mw_go mu_g284 (k := 2) (f1 := (16, [(2, .inl (nI (sm f 0 k))), (0, .inr (.inr (some 129))), (1, .inl (nI k))], [.inl (mu_i H 141 (nI k).toNatClampNeg)], H)) (C := [mu_isr H (some 141) 100, vp_in (nI k) (mu_n H 141)]) rfl (show (mu_isr H (some 141) 100) ∧ (vp_in (nI k) (mu_n H 141)) from ⟨((h.iA e rfl rfl ((ud_q (m := m) (P := 129) (j := 13) e rfl).symm.trans (h.1.1.r (p := 129) (j := 13) (q := 141) rfl)))).r, (by rw [show mu_n H 141 = 14 from (h.1.1.a (p := 141) (x := (100, 14)) rfl).2]; exact vp_in_nI (n := k) (by omega) (by decide))⟩) ?_
  rw [(show (mu_i H 141 (nI k).toNatClampNeg) = (nI n) from ((congrArg (mu_i H 141) (show (nI k).toNatClampNeg = k from nI_clamp (by omega))).trans (h.gA e rfl rfl ((ud_q (m := m) (P := 129) (j := 13) e rfl).symm.trans (h.1.1.r (p := 129) (j := 13) (q := 141) rfl)))).trans ((congrArg (fun z => z.2 k) (show U.2.2.1 129 13 = (U.2.2.1 129 13) from rfl)).trans hoc))]
  refine mw_if (P := (nI n) < 0) (a := 19) (b := 54) (fun _ => rfl) trivial (fun h1 => absurd h1 (nI_pos (by omega))) (fun h1 => ?_)
  refine mw_go mu_g284 (k := 4) (f1 := (59, [(4, .inl (0 : Int32)), (3, .inl (0 : Int32)), (2, .inl (nI (sm f 0 k))), (0, .inr (.inr (some 129))), (1, .inl (nI k))], [], H)) (C := []) rfl trivial ?_
  show mu_W _ _ (59, [(4, .inl (nI 0)), (3, .inl (nI 0)), (2, .inl (nI (sm f 0 k))), (0, .inr (.inr (some 129))), (1, .inl (nI k))], [], H) _
  refine mw_sub (L' := [(4, .inl (nI 0)), (3, .inl (nI 0)), (0, .inr (.inr (some 129))), (1, .inl (nI k)), (2, .inl (nI (sm f 0 k)))]) (by simp) ?_
  refine mw_down (α := Nat × Nat × mu_H) (fun zs => (59, [(4, .inl (nI zs.1)), (3, .inl (nI zs.2.1)), (0, .inr (.inr (some 129))), (1, .inl (nI k)), (2, .inl (nI (sm f 0 k)))], [], zs.2.2)) (fun zs => n - zs.1) (fun zs => um m zs.2.2 ∧ ur m C H zs.2.2 ∧ (uq F284a U (ud m zs.2.2)) ∧ (zs.1 ≤ n) ∧ (∃ lt, FLT (ud m zs.2.2) (sm f 0 k) zs.1 zs.2.1 ls lt (fun x => bts (U.2.2.2.2.1 146) x = true)) ∧ (∀ i, zs.1 ≤ i → i < n → ((ud m zs.2.2).2.2.1 129 12).2 (sm f 0 k + i) = nI (ls i)) ∧ (∀ j, (j < sm f 0 k ∨ sm f 0 k + f k ≤ j) → ((ud m zs.2.2).2.2.1 129 12).2 j = (U.2.2.1 129 12).2 j)) (fun zs hza iha => ?_) (0, 0, H) ⟨h, (ur.refl m C H), (show uq F284a U (ud m H) from by rw [e]; exact uq.refl _ _), (show 0 ≤ n from (by omega)), (show ∃ lt, FLT (ud m H) (sm f 0 k) 0 0 ls lt (fun x => bts (U.2.2.2.2.1 146) x = true) from by rw [e]; exact ⟨fun _ => 0, Nat.le_refl _, fun i hi => absurd hi (Nat.not_lt_zero _), fun i j _ hj => absurd hj (Nat.not_lt_zero _), fun i hi => absurd hi (Nat.not_lt_zero _), fun x => ⟨fun q => (by cases q), fun q => (by cases q.1)⟩⟩), (show ∀ i, 0 ≤ i → i < n → ((ud m H).2.2.1 129 12).2 (sm f 0 k + i) = nI (ls i) from by rw [e]; exact (fun i _ hi => hls i hi)), (show ∀ j, (j < sm f 0 k ∨ sm f 0 k + f k ≤ j) → ((ud m H).2.2.1 129 12).2 j = (U.2.2.1 129 12).2 j from by rw [e]; exact (fun j _ => rfl))⟩
  obtain ⟨y, l, Hsa⟩ := zs
  obtain ⟨ua, hta, da, hw, hF, hrest, hout⟩ := hza
  have ua : um m Hsa := ua
  have hta : ur m C H Hsa := hta
  have zza : uq F284a U (ud m Hsa) := da
  have hw : y ≤ n := hw
  have hF : ∃ lt, FLT (ud m Hsa) (sm f 0 k) y l ls lt (fun x => bts (U.2.2.2.2.1 146) x = true) := hF
  have hrest : ∀ i, y ≤ i → i < n → ((ud m Hsa).2.2.1 129 12).2 (sm f 0 k + i) = nI (ls i) := hrest
  have hout : ∀ j, (j < sm f 0 k ∨ sm f 0 k + f k ≤ j) → ((ud m Hsa).2.2.1 129 12).2 j = (U.2.2.1 129 12).2 j := hout
  obtain ⟨Va, da⟩ : ∃ V, ud m Hsa = V := ⟨_, rfl⟩
  rw [da] at zza hF hrest hout
  have qfa : uq F284 U Va := (uq.refl F284 U).tr zza rfl
  show mu_W _ _ (59, [(4, .inl (nI y)), (3, .inl (nI l)), (0, .inr (.inr (some 129))), (1, .inl (nI k)), (2, .inl (nI (sm f 0 k)))], [], Hsa) _
  obtain ⟨lt, hF⟩ := hF
  have hly := hF.1
  refine mw_go mu_g284 (k := 3) (f1 := (65, [(4, .inl (nI y)), (3, .inl (nI l)), (0, .inr (.inr (some 129))), (1, .inl (nI k)), (2, .inl (nI (sm f 0 k)))], [.inr (.inr (mu_r Hsa 129 13)), .inl (nI y)], Hsa)) (C := [mu_is Hsa (some 129) 9]) rfl (show mu_is Hsa (some 129) 9 from (ua.1.1.is rfl)) ?_
  rw [(ua.1.1.r (p := 129) (j := 13) (q := 141) rfl)]
  refine mw_go mu_g284 (k := 2) (f1 := (67, [(4, .inl (nI y)), (3, .inl (nI l)), (0, .inr (.inr (some 129))), (1, .inl (nI k)), (2, .inl (nI (sm f 0 k)))], [.inl (mu_i Hsa 141 (nI k).toNatClampNeg), .inl (nI y)], Hsa)) (C := [mu_isr Hsa (some 141) 100, vp_in (nI k) (mu_n Hsa 141)]) rfl (show (mu_isr Hsa (some 141) 100) ∧ (vp_in (nI k) (mu_n Hsa 141)) from ⟨((ua.iA da rfl rfl ((ud_q (m := m) (P := 129) (j := 13) da rfl).symm.trans (ua.1.1.r (p := 129) (j := 13) (q := 141) rfl)))).r, (by rw [show mu_n Hsa 141 = 14 from (ua.1.1.a (p := 141) (x := (100, 14)) rfl).2]; exact vp_in_nI (n := k) (by omega) (by decide))⟩) ?_
  rw [(show (mu_i Hsa 141 (nI k).toNatClampNeg) = (nI n) from ((congrArg (mu_i Hsa 141) (show (nI k).toNatClampNeg = k from nI_clamp (by omega))).trans (ua.gA da rfl rfl ((ud_q (m := m) (P := 129) (j := 13) da rfl).symm.trans (ua.1.1.r (p := 129) (j := 13) (q := 141) rfl)))).trans ((congrArg (fun z => z.2 k) (show Va.2.2.1 129 13 = (U.2.2.1 129 13) from (zza.a 129 13 rfl))).trans hoc))]
  refine mw_if (P := (nI y) < (nI n)) (a := 70) (b := 112) (fun _ => rfl) trivial (fun h2 => ?_) (fun h2 => ?_)
  · -- 70: (nI y) < (nI n)
    have nh2 : y < n := (nI_ltI (by omega) (by omega)).mp (show nI y < nI n from h2)
    refine mw_go mu_g284 (k := 2) (f1 := (74, [(4, .inl (nI y)), (3, .inl (nI l)), (0, .inr (.inr (some 129))), (1, .inl (nI k)), (2, .inl (nI (sm f 0 k)))], [.inr (.inr (mu_r Hsa 129 12))], Hsa)) (C := [mu_is Hsa (some 129) 9]) rfl (show mu_is Hsa (some 129) 9 from (ua.1.1.is rfl)) ?_
    rw [(show mu_r Hsa 129 12 = (U.2.2.2.1 129 12) from (ud_q (U := Va) (m := m) (P := 129) (j := 12) da rfl).trans (zza.r 129 12 rfl))]
    refine mw_go mu_g284 (k := 3) (f1 := (78, [(4, .inl (nI y)), (3, .inl (nI l)), (0, .inr (.inr (some 129))), (1, .inl (nI k)), (2, .inl (nI (sm f 0 k)))], [.inl ((nI (sm f 0 k)) + (nI y)), .inr (.inr (U.2.2.2.1 129 12))], Hsa)) (C := []) rfl trivial ?_
    rw [(show ((nI (sm f 0 k)) + (nI y)) = (nI ((sm f 0 k) + y)) from (nI_add (sm f 0 k) y))]
    refine mw_go mu_g284 (k := 1) (f1 := (79, [(4, .inl (nI y)), (3, .inl (nI l)), (0, .inr (.inr (some 129))), (1, .inl (nI k)), (2, .inl (nI (sm f 0 k)))], [.inl (mu_i Hsa (mu_p (U.2.2.2.1 129 12)) (nI ((sm f 0 k) + y)).toNatClampNeg)], Hsa)) (C := [mu_isr Hsa (U.2.2.2.1 129 12) 100, vp_in (nI ((sm f 0 k) + y)) (mu_n Hsa (mu_p (U.2.2.2.1 129 12)))]) rfl (show (mu_isr Hsa (U.2.2.2.1 129 12) 100) ∧ (vp_in (nI ((sm f 0 k) + y)) (mu_n Hsa (mu_p (U.2.2.2.1 129 12)))) from ⟨((ua.iA da rfl rfl (show Va.2.2.2.1 129 12 = (U.2.2.2.1 129 12) from (zza.r 129 12 rfl)))).r, (ua.vA (i := (sm f 0 k) + y) da rfl rfl (show Va.2.2.2.1 129 12 = (U.2.2.2.1 129 12) from (zza.r 129 12 rfl)) (show (Va.2.2.1 129 12).1 = (U.2.2.1 129 12).1 from (zza.n 129 12 rfl)) (by omega) (by omega))⟩) ?_
    rw [(show (mu_i Hsa (mu_p (U.2.2.2.1 129 12)) (nI ((sm f 0 k) + y)).toNatClampNeg) = (nI (ls y)) from ((congrArg (mu_i Hsa (mu_p (U.2.2.2.1 129 12))) (show (nI ((sm f 0 k) + y)).toNatClampNeg = (sm f 0 k) + y from nI_clamp (by omega))).trans (ua.gA da rfl rfl (show Va.2.2.2.1 129 12 = (U.2.2.2.1 129 12) from (zza.r 129 12 rfl)))).trans ((congrArg (fun z => z.2 ((sm f 0 k) + y)) (show Va.2.2.1 129 12 = (Va.2.2.1 129 12) from rfl)).trans (hrest y (by omega) (by omega))))]
    have hx3 := lm_lt hm y (by omega)
    refine mw_go mu_g284 (k := 3) (f1 := (85, [(5, .inl (nI (ls y))), (4, .inl (nI y)), (3, .inl (nI l)), (0, .inr (.inr (some 129))), (1, .inl (nI k)), (2, .inl (nI (sm f 0 k)))], [.inr (.inr (mu_r Hsa 129 18))], Hsa)) (C := [mu_is Hsa (some 129) 9]) rfl (show mu_is Hsa (some 129) 9 from (ua.1.1.is rfl)) ?_
    rw [(ua.1.1.r (p := 129) (j := 18) (q := 146) rfl)]
    refine mw_go mu_g284 (k := 1) (f1 := (87, [(5, .inl (nI (ls y))), (4, .inl (nI y)), (3, .inl (nI l)), (0, .inr (.inr (some 129))), (1, .inl (nI k)), (2, .inl (nI (sm f 0 k)))], [.inl (nI (ls y)), .inr (.inr (some 146))], Hsa)) (C := []) rfl trivial ?_
    refine mw_cIe (fun _ => rfl) trivial (pv_has_146 (d := (d + 2)) (k := ls y) ua da (by omega)) ?_
    refine mw_if (P := (if btz (Va.2.2.2.2.1 146 ((ls y) / 64)) ((ls y) % 64) = true then 1 else 0) = 0) (a := 106) (b := 93) (fun _ => rfl) trivial (fun h5 => ?_) (fun h5 => ?_)
    · -- 106: (if btz (Va.2.2.2.2.1 146 ((ls y) / 64)) ((ls y) % 64) = true then 1 else 0) = 0
      have hno : ¬ bts (U.2.2.2.2.1 146) (ls y) = true := fun q => absurd (h5) (by unfold bts at q; rw [show Va.2.2.2.2.1 146 = U.2.2.2.2.1 146 from zza.l 146 rfl, if_pos q]; decide)
      refine mw_go mu_g284 (k := 1) (f1 := (109, [(4, .inl ((nI y) + 1)), (5, .inl (nI (ls y))), (3, .inl (nI l)), (0, .inr (.inr (some 129))), (1, .inl (nI k)), (2, .inl (nI (sm f 0 k)))], [], Hsa)) (C := []) rfl trivial ?_
      rw [(show ((nI y) + 1) = (nI (y + 1)) from (nI_add y 1))]
      refine mw_go mu_g284 (k := 1) (f1 := (59, [(4, .inl (nI (y + 1))), (5, .inl (nI (ls y))), (3, .inl (nI l)), (0, .inr (.inr (some 129))), (1, .inl (nI k)), (2, .inl (nI (sm f 0 k)))], [], Hsa)) (C := []) rfl trivial ?_
      exact mw_sub (by simp) (iha (y + 1, l, Hsa) ⟨ua, hta, (show uq F284a U (ud m Hsa) from by rw [da]; exact zza), (show (y + 1) ≤ n from (by omega)), (show ∃ lt, FLT (ud m Hsa) (sm f 0 k) (y + 1) l ls lt (fun x => bts (U.2.2.2.2.1 146) x = true) from by rw [da]; exact ⟨_, hF.no hno⟩), (show ∀ i, (y + 1) ≤ i → i < n → ((ud m Hsa).2.2.1 129 12).2 (sm f 0 k + i) = nI (ls i) from by rw [da]; exact (fun i h1 h2 => hrest i (by omega) h2)), (show ∀ j, (j < sm f 0 k ∨ sm f 0 k + f k ≤ j) → ((ud m Hsa).2.2.1 129 12).2 j = (U.2.2.1 129 12).2 j from by rw [da]; exact hout)⟩ (by show n - (y + 1) < n - y; omega))
    · -- 93: not (if btz (Va.2.2.2.2.1 146 ((ls y) / 64)) ((ls y) % 64) = true then 1 else 0) = 0
      have hyes : bts (U.2.2.2.2.1 146) (ls y) = true := Decidable.byContradiction (fun q => h5 (by unfold bts at q; rw [show Va.2.2.2.2.1 146 = U.2.2.2.2.1 146 from zza.l 146 rfl, if_neg q]))
      refine mw_go mu_g284 (k := 2) (f1 := (97, [(5, .inl (nI (ls y))), (4, .inl (nI y)), (3, .inl (nI l)), (0, .inr (.inr (some 129))), (1, .inl (nI k)), (2, .inl (nI (sm f 0 k)))], [.inr (.inr (mu_r Hsa 129 12))], Hsa)) (C := [mu_is Hsa (some 129) 9]) rfl (show mu_is Hsa (some 129) 9 from (ua.1.1.is rfl)) ?_
      rw [(show mu_r Hsa 129 12 = (U.2.2.2.1 129 12) from (ud_q (U := Va) (m := m) (P := 129) (j := 12) da rfl).trans (zza.r 129 12 rfl))]
      refine mw_go mu_g284 (k := 3) (f1 := (100, [(5, .inl (nI (ls y))), (4, .inl (nI y)), (3, .inl (nI l)), (0, .inr (.inr (some 129))), (1, .inl (nI k)), (2, .inl (nI (sm f 0 k)))], [.inl ((nI (sm f 0 k)) + (nI l)), .inr (.inr (U.2.2.2.1 129 12))], Hsa)) (C := []) rfl trivial ?_
      rw [(show ((nI (sm f 0 k)) + (nI l)) = (nI ((sm f 0 k) + l)) from (nI_add (sm f 0 k) l))]
      refine mw_go mu_g284 (k := 2) (f1 := (103, [(5, .inl (nI (ls y))), (4, .inl (nI y)), (3, .inl (nI l)), (0, .inr (.inr (some 129))), (1, .inl (nI k)), (2, .inl (nI (sm f 0 k)))], [], (mu_si Hsa (mu_p (U.2.2.2.1 129 12)) (nI ((sm f 0 k) + l)).toNatClampNeg (nI (ls y))))) (C := [mu_is Hsa (U.2.2.2.1 129 12) 100, vp_in (nI ((sm f 0 k) + l)) (mu_n Hsa (mu_p (U.2.2.2.1 129 12)))]) rfl (show (mu_is Hsa (U.2.2.2.1 129 12) 100) ∧ (vp_in (nI ((sm f 0 k) + l)) (mu_n Hsa (mu_p (U.2.2.2.1 129 12)))) from ⟨(ua.iA da rfl rfl (show Va.2.2.2.1 129 12 = (U.2.2.2.1 129 12) from (zza.r 129 12 rfl))), (ua.vA (i := (sm f 0 k) + l) da rfl rfl (show Va.2.2.2.1 129 12 = (U.2.2.2.1 129 12) from (zza.r 129 12 rfl)) (show (Va.2.2.1 129 12).1 = (U.2.2.1 129 12).1 from (zza.n 129 12 rfl)) (by omega) (by omega))⟩) ?_
      rw [(show (nI ((sm f 0 k) + l)).toNatClampNeg = (sm f 0 k) + l from nI_clamp (by omega))]
      obtain ⟨u6, r6, d6⟩ : um m (mu_si Hsa (mu_p (U.2.2.2.1 129 12)) ((sm f 0 k) + l) (nI (ls y))) ∧ ur m C Hsa (mu_si Hsa (mu_p (U.2.2.2.1 129 12)) ((sm f 0 k) + l) (nI (ls y))) ∧ ud m (mu_si Hsa (mu_p (U.2.2.2.1 129 12)) ((sm f 0 k) + l) (nI (ls y))) = (upA Va 129 12 ((sm f 0 k) + l) (nI (ls y))) := ua.sA (C := C) da rfl rfl (show Va.2.2.2.1 129 12 = (U.2.2.2.1 129 12) from (zza.r 129 12 rfl))
      generalize (mu_si Hsa (mu_p (U.2.2.2.1 129 12)) ((sm f 0 k) + l) (nI (ls y))) = Q6 at u6 r6 d6 ⊢
      have qf6 : uq F284 U (upA Va 129 12 ((sm f 0 k) + l) (nI (ls y))) := qfa.A rfl
      have ht6 : ur m C H Q6 := hta.trans r6
      refine mw_go mu_g284 (k := 1) (f1 := (106, [(3, .inl ((nI l) + 1)), (5, .inl (nI (ls y))), (4, .inl (nI y)), (0, .inr (.inr (some 129))), (1, .inl (nI k)), (2, .inl (nI (sm f 0 k)))], [], Q6)) (C := []) rfl trivial ?_
      rw [(show ((nI l) + 1) = (nI (l + 1)) from (nI_add l 1))]
      refine mw_go mu_g284 (k := 1) (f1 := (109, [(4, .inl ((nI y) + 1)), (3, .inl (nI (l + 1))), (5, .inl (nI (ls y))), (0, .inr (.inr (some 129))), (1, .inl (nI k)), (2, .inl (nI (sm f 0 k)))], [], Q6)) (C := []) rfl trivial ?_
      rw [(show ((nI y) + 1) = (nI (y + 1)) from (nI_add y 1))]
      refine mw_go mu_g284 (k := 1) (f1 := (59, [(4, .inl (nI (y + 1))), (3, .inl (nI (l + 1))), (5, .inl (nI (ls y))), (0, .inr (.inr (some 129))), (1, .inl (nI k)), (2, .inl (nI (sm f 0 k)))], [], Q6)) (C := []) rfl trivial ?_
      exact mw_sub (by simp) (iha (y + 1, l + 1, Q6) ⟨u6, ht6, (show uq F284a U (ud m Q6) from by rw [d6]; exact (zza.A rfl)), (show (y + 1) ≤ n from (by omega)), (show ∃ lt, FLT (ud m Q6) (sm f 0 k) (y + 1) (l + 1) ls lt (fun x => bts (U.2.2.2.2.1 146) x = true) from by rw [d6]; exact ⟨_, hF.yes hyes hr (by omega)⟩), (show ∀ i, (y + 1) ≤ i → i < n → ((ud m Q6).2.2.1 129 12).2 (sm f 0 k + i) = nI (ls i) from by rw [d6]; exact (fun i h1 h2 => (by show (if sm f 0 k + i = sm f 0 k + l then nI (ls y) else (Va.2.2.1 129 12).2 (sm f 0 k + i)) = nI (ls i); rw [if_neg (by omega)]; exact hrest i (by omega) h2))), (show ∀ j, (j < sm f 0 k ∨ sm f 0 k + f k ≤ j) → ((ud m Q6).2.2.1 129 12).2 j = (U.2.2.1 129 12).2 j from by rw [d6]; exact (fun j hj => (by show (if j = sm f 0 k + l then nI (ls y) else (Va.2.2.1 129 12).2 j) = _; rw [if_neg (by omega)]; exact hout j hj)))⟩ (by show n - (y + 1) < n - y; omega))
  · -- 112: not (nI y) < (nI n)
    have nh2 : ¬ y < n := fun z => h2 (show nI y < nI n from (nI_ltI (by omega) (by omega)).mpr z)
    refine mw_go mu_g284 (k := 2) (f1 := (116, [(4, .inl (nI y)), (3, .inl (nI l)), (0, .inr (.inr (some 129))), (1, .inl (nI k)), (2, .inl (nI (sm f 0 k)))], [.inr (.inr (mu_r Hsa 129 13))], Hsa)) (C := [mu_is Hsa (some 129) 9]) rfl (show mu_is Hsa (some 129) 9 from (ua.1.1.is rfl)) ?_
    rw [(ua.1.1.r (p := 129) (j := 13) (q := 141) rfl)]
    refine mw_go mu_g284 (k := 3) (f1 := (119, [(4, .inl (nI y)), (3, .inl (nI l)), (0, .inr (.inr (some 129))), (1, .inl (nI k)), (2, .inl (nI (sm f 0 k)))], [], (mu_si Hsa 141 (nI k).toNatClampNeg (nI l)))) (C := [mu_is Hsa (some 141) 100, vp_in (nI k) (mu_n Hsa 141)]) rfl (show (mu_is Hsa (some 141) 100) ∧ (vp_in (nI k) (mu_n Hsa 141)) from ⟨(ua.iA da rfl rfl ((ud_q (m := m) (P := 129) (j := 13) da rfl).symm.trans (ua.1.1.r (p := 129) (j := 13) (q := 141) rfl))), (by rw [show mu_n Hsa 141 = 14 from (ua.1.1.a (p := 141) (x := (100, 14)) rfl).2]; exact vp_in_nI (n := k) (by omega) (by decide))⟩) ?_
    rw [(show (nI k).toNatClampNeg = k from nI_clamp (by omega))]
    obtain ⟨u7, r7, d7⟩ : um m (mu_si Hsa 141 k (nI l)) ∧ ur m C Hsa (mu_si Hsa 141 k (nI l)) ∧ ud m (mu_si Hsa 141 k (nI l)) = (upA Va 129 13 k (nI l)) := ua.sA (C := C) da rfl rfl ((ud_q (m := m) (P := 129) (j := 13) da rfl).symm.trans (ua.1.1.r (p := 129) (j := 13) (q := 141) rfl))
    generalize (mu_si Hsa 141 k (nI l)) = Q7 at u7 r7 d7 ⊢
    have qf7 : uq F284 U (upA Va 129 13 k (nI l)) := qfa.A rfl
    have ht7 : ur m C H Q7 := hta.trans r7
    have hye : y = n := by omega
    rw [hye] at hF
    exact mw_of (fun _ => mu_ret rfl trivial ⟨Q7, rfl, u7, ht7, (by rw [d7]; exact qf7), (by rw [d7]; exact Or.inr ⟨l, lt, if_pos rfl, hF.2.1, hF.2.2.1, fun x => by rw [hF.2.2.2.2 x, hm x]; exact ⟨fun q => ⟨q.1.1, q.1.2, q.2⟩, fun q => ⟨⟨q.1, q.2.1⟩, q.2.2⟩⟩⟩), (by rw [d7]; exact fun j hj => (if_neg hj).trans (congrArg (fun q => q.2 j) (zza.a 129 13 rfl))), (by rw [d7]; exact hout)⟩)
theorem rl_narrow (h : um m H) (e : ud m H = U) (hS : spx m U P f) (hk : k < P) (hb1 : ∀ s, s / 64 < (f k + 63) / 64 → bts (U.2.2.2.2.1 146) s = true → s < f k) (hl12 : sm f 0 P ≤ (U.2.2.1 129 12).1) (hl12b : (U.2.2.1 129 12).1 < 2147483648) (ho : OPT U (sm f 0 k) (f k) k A) : mu_TV (mu_D (d + 4)) 284 [.inr (.inr (some 129)), .inl (nI k)] H (fun H1 => um m H1 ∧ ur m C H H1 ∧ uq F284 U (ud m H1) ∧ OPT (ud m H1) (sm f 0 k) (f k) k (fun x => A x ∧ bts (U.2.2.2.2.1 146) x = true) ∧ (∀ j, ¬ j = k → ((ud m H1).2.2.1 129 13).2 j = (U.2.2.1 129 13).2 j) ∧ ∀ j, (j < sm f 0 k ∨ sm f 0 k + f k ≤ j) → ((ud m H1).2.2.1 129 12).2 j = (U.2.2.1 129 12).2 j) := by
  rcases ho with ⟨h1, h2⟩ | ⟨n, ls, h1, h2, h3, h4⟩
  · exact rl_narrow0 h e hS hk hb1 hl12 hl12b h1 h2
  · exact rl_narrow1 h e hS hk hl12 hl12b h1 h2 h3 h4
end Narrow
