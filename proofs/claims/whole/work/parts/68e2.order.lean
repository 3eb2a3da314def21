/-! The reference: an order of what stands for names -/
def own (D : MD) (s : Nat) : Nat := (pth2 (D.pr 0) s).2
def stdt (D : MD) (s : Nat) : Tre := (pth2 (D.pr 0) s).1
/-- all names are found, and no expression stands on itself -/
def acy (D : MD) (l : Nat) : Prop := ∃ rk : Nat → Nat, ∀ s, s < (D.pr 0).length → nmo D (own D s) l (stdt D s) ∧ ∀ t, usz D (own D s) l (stdt D s) t → rk t < rk s
/-- ol: an order in which each stands on earlier ones alone -/
def ordz (D : MD) (l : Nat) (ol : Nat → Nat) : Prop := (∀ a, a < (D.pr 0).length → ol a < (D.pr 0).length ∧ nmo D (own D (ol a)) l (stdt D (ol a)) ∧ ∀ t, usz D (own D (ol a)) l (stdt D (ol a)) t → ∃ b, b < a ∧ ol b = t) ∧ ∀ i, i < (D.pr 0).length → ∃ a, a < (D.pr 0).length ∧ ol a = i
/-- while the order is made: 2 are in it, 1 are begun -/
def dfi (D : MD) (l : Nat) (w : Nat → Int32) (st : Nat → Nat) (sz : Nat) (ol : Nat → Nat) (on : Nat) : Prop := (∀ i, i < (D.pr 0).length → w i = 0 ∨ w i = 1 ∨ w i = 2) ∧ (sz = cntv w 1 (D.pr 0).length ∧ on = cntv w 2 (D.pr 0).length) ∧ (∀ a, a < sz → st a < (D.pr 0).length ∧ w (st a) = 1) ∧ (∀ i, i < (D.pr 0).length → w i = 1 → ∃ a, a < sz ∧ st a = i) ∧ (∀ a b, a < sz → b < sz → st a = st b → a = b) ∧ (∀ a, a < on → ol a < (D.pr 0).length ∧ w (ol a) = 2 ∧ nmo D (own D (ol a)) l (stdt D (ol a)) ∧ ∀ t, usz D (own D (ol a)) l (stdt D (ol a)) t → ∃ b, b < a ∧ ol b = t) ∧ (∀ i, i < (D.pr 0).length → w i = 2 → ∃ a, a < on ∧ ol a = i) ∧ ∀ a, a + 1 < sz → usz D (own D (st a)) l (stdt D (st a)) (st (a + 1))
section Dfi
variable {D : MD} {l k s : Nat} {w : Nat → Int32} {st : Nat → Nat} {sz : Nat} {ol : Nat → Nat} {on : Nat}
theorem fup_at {α : Type} {f : Nat → α} {i : Nat} {x : α} : fup f i x i = x := if_pos rfl
theorem fup_ne {α : Type} {f : Nat → α} {i k : Nat} {x : α} (h : k ≠ i) : fup f i x k = f k := if_neg h
theorem usz_lt {j t : Nat} : ∀ {l : Nat} {c : Tre}, usz D j l c t → t < (D.pr 0).length
  | 0, _, h => h.elim
  | _ + 1, _, h => by
    rcases h with ⟨_, _, _, _, h⟩ | ⟨_, i, _, h⟩
    · exact h
    · exact usz_lt h
theorem dfi.sum (h : dfi D l w st sz ol on) : cntv w 0 (D.pr 0).length + sz + on = (D.pr 0).length := by
  rw [h.2.1.1, h.2.1.2]
  exact cntv_sum _ h.1
theorem dfi_0 (h : ∀ i, i < (D.pr 0).length → w i = 0) : dfi D l w st 0 ol 0 := by
  have z : ∀ v, v ≠ 0 → 0 = cntv w v (D.pr 0).length := fun v hv => by
    by_cases e : 0 < cntv w v (D.pr 0).length
    · obtain ⟨i, i1, i2⟩ := cntv_pos _ e
      exact absurd ((h i i1).symm.trans i2).symm hv
    · omega
  exact ⟨fun i hi => Or.inl (h i hi), ⟨z 1 (by decide), z 2 (by decide)⟩, fun a ha => absurd ha (Nat.not_lt_zero _), fun i hi e => by rw [h i hi] at e; exact absurd e (by decide), fun a b ha => absurd ha (Nat.not_lt_zero _), fun a ha => absurd ha (Nat.not_lt_zero _), fun i hi e => by rw [h i hi] at e; exact absurd e (by decide), fun a ha => absurd ha (Nat.not_lt_zero _)⟩
/-- one more is begun -/
theorem dfi.push (h : dfi D l w st sz ol on) (hs : s < (D.pr 0).length) (hw : w s = 0) (hu : 0 < sz → usz D (own D (st (sz - 1))) l (stdt D (st (sz - 1))) s) : dfi D l (fup w s 1) (fup st sz s) (sz + 1) ol on ∧ sz < (D.pr 0).length ∧ cntv (fup w s 1) 0 (D.pr 0).length + 1 = cntv w 0 (D.pr 0).length := by
  have c1 := cntv_up (w := w) (v := 1) (x := 1) (i := s) (by rw [hw]; decide) (D.pr 0).length
  have c2 := cntv_up (w := w) (v := 2) (x := 1) (i := s) (by rw [hw]; decide) (D.pr 0).length
  have c0 := cntv_up (w := w) (v := 0) (x := 1) (i := s) (by rw [hw]; decide) (D.pr 0).length
  rw [hw, if_neg (fun z => absurd z.2 (by decide)), if_pos ⟨hs, rfl⟩] at c1
  rw [hw, if_neg (fun z => absurd z.2 (by decide)), if_neg (fun z => absurd z.2 (by decide))] at c2
  rw [hw, if_pos ⟨hs, rfl⟩, if_neg (fun z => absurd z.2 (by decide))] at c0
  have sm := h.sum
  obtain ⟨h1, ⟨h2, h3⟩, h4, h5, h6, h7, h8, h9⟩ := h
  have ns : ∀ a, a < sz → st a ≠ s := fun a ha e => by have := (h4 a ha).2; rw [e, hw] at this; exact absurd this (by decide)
  refine ⟨⟨fun i hi => ?_, ⟨by omega, by omega⟩, fun a ha => ?_, fun i hi e => ?_, fun a b ha hb e => ?_, fun a ha => ?_, fun i hi e => ?_, fun a ha => ?_⟩, by omega, by omega⟩
  · by_cases e : i = s
    · subst e; rw [fup_at]; exact Or.inr (Or.inl rfl)
    · rw [fup_ne e]; exact h1 i hi
  · by_cases e : a = sz
    · subst e; rw [fup_at, fup_at]; exact ⟨hs, rfl⟩
    · rw [fup_ne e, fup_ne (ns a (by omega))]; exact h4 a (by omega)
  · by_cases e2 : i = s
    · exact ⟨sz, Nat.lt_succ_self _, by rw [fup_at]; exact e2.symm⟩
    · rw [fup_ne e2] at e
      obtain ⟨a, a1, a2⟩ := h5 i hi e
      exact ⟨a, by omega, by rw [fup_ne (by omega)]; exact a2⟩
  · by_cases e1 : a = sz
    · by_cases e2 : b = sz
      · omega
      · subst e1
        rw [fup_at, fup_ne e2] at e
        exact absurd e.symm (ns b (by omega))
    · by_cases e2 : b = sz
      · subst e2
        rw [fup_at, fup_ne e1] at e
        exact absurd e (ns a (by omega))
      · rw [fup_ne e1, fup_ne e2] at e
        exact h6 a b (by omega) (by omega) e
  · obtain ⟨q1, q2, q3, q4⟩ := h7 a ha
    exact ⟨q1, by rw [fup_ne (fun e => by rw [e, hw] at q2; exact absurd q2 (by decide))]; exact q2, q3, q4⟩
  · by_cases e2 : i = s
    · subst e2; rw [fup_at] at e; exact absurd e (by decide)
    · rw [fup_ne e2] at e; exact h8 i hi e
  · by_cases e : a + 1 = sz
    · rw [fup_ne (by omega), e, fup_at]
      have := hu (by omega)
      rw [show sz - 1 = a by omega] at this
      exact this
    · rw [fup_ne (by omega), fup_ne (by omega)]; exact h9 a (by omega)
/-- the top is done -/
theorem dfi.pop (h : dfi D l w st sz ol on) (hz : 0 < sz) (hn : nmo D (own D (st (sz - 1))) l (stdt D (st (sz - 1)))) (hu : ∀ t, usz D (own D (st (sz - 1))) l (stdt D (st (sz - 1))) t → w t = 2) : dfi D l (fup w (st (sz - 1)) 2) st (sz - 1) (fup ol on (st (sz - 1))) (on + 1) ∧ on < (D.pr 0).length ∧ cntv (fup w (st (sz - 1)) 2) 0 (D.pr 0).length = cntv w 0 (D.pr 0).length := by
  have sm := h.sum
  obtain ⟨h1, ⟨h2, h3⟩, h4, h5, h6, h7, h8, h9⟩ := h
  obtain ⟨t1, t2⟩ := h4 (sz - 1) (by omega)
  have c1 := cntv_up (w := w) (v := 1) (x := 2) (i := st (sz - 1)) (by rw [t2]; decide) (D.pr 0).length
  have c2 := cntv_up (w := w) (v := 2) (x := 2) (i := st (sz - 1)) (by rw [t2]; decide) (D.pr 0).length
  have c0 := cntv_up (w := w) (v := 0) (x := 2) (i := st (sz - 1)) (by rw [t2]; decide) (D.pr 0).length
  rw [t2, if_pos ⟨t1, rfl⟩, if_neg (fun z => absurd z.2 (by decide))] at c1
  rw [t2, if_neg (fun z => absurd z.2 (by decide)), if_pos ⟨t1, rfl⟩] at c2
  rw [t2, if_neg (fun z => absurd z.2 (by decide)), if_neg (fun z => absurd z.2 (by decide))] at c0
  have nt : ∀ a, a < on → ol a ≠ st (sz - 1) := fun a ha e => by have := (h7 a ha).2.1; rw [e, t2] at this; exact absurd this (by decide)
  refine ⟨⟨fun i hi => ?_, ⟨by omega, by omega⟩, fun a ha => ?_, fun i hi e => ?_, fun a b ha hb e => h6 a b (by omega) (by omega) e, fun a ha => ?_, fun i hi e => ?_, fun a ha => h9 a (by omega)⟩, by omega, by omega⟩
  · by_cases e : i = st (sz - 1)
    · rw [e, fup_at]; exact Or.inr (Or.inr rfl)
    · rw [fup_ne e]; exact h1 i hi
  · rw [fup_ne (fun e => by have := h6 a (sz - 1) (by omega) (by omega) e; omega)]; exact h4 a (by omega)
  · by_cases e2 : i = st (sz - 1)
    · rw [e2, fup_at] at e; exact absurd e (by decide)
    · rw [fup_ne e2] at e
      obtain ⟨a, a1, a2⟩ := h5 i hi e
      exact ⟨a, by have : a ≠ sz - 1 := (fun z => by rw [z] at a2; exact e2 a2.symm); omega, a2⟩
  · by_cases e : a = on
    · subst e
      rw [fup_at, fup_at]
      refine ⟨t1, rfl, hn, fun t ht => ?_⟩
      obtain ⟨b, b1, b2⟩ := h8 t (usz_lt ht) (hu t ht)
      exact ⟨b, b1, by rw [fup_ne (by omega)]; exact b2⟩
    · rw [fup_ne e]
      obtain ⟨q1, q2, q3, q4⟩ := h7 a (by omega)
      refine ⟨q1, by rw [fup_ne (nt a (by omega))]; exact q2, q3, fun t ht => ?_⟩
      obtain ⟨b, b1, b2⟩ := q4 t ht
      exact ⟨b, b1, by rw [fup_ne (by omega)]; exact b2⟩
  · by_cases e2 : i = st (sz - 1)
    · exact ⟨on, Nat.lt_succ_self _, by rw [fup_at]; exact e2.symm⟩
    · rw [fup_ne e2] at e
      obtain ⟨a, a1, a2⟩ := h8 i hi e
      exact ⟨a, by omega, by rw [fup_ne (by omega)]; exact a2⟩
/-- the top stands on one that is begun -/
theorem dfi.bad (h : dfi D l w st sz ol on) (hz : 0 < sz) (hw : w s = 1) (hu : usz D (own D (st (sz - 1))) l (stdt D (st (sz - 1))) s) : ¬ acy D l := by
  intro ⟨rk, hr⟩
  obtain ⟨h1, ⟨h2, h3⟩, h4, h5, h6, h7, h8, h9⟩ := h
  obtain ⟨a, a1, a2⟩ := h5 s (usz_lt hu) hw
  have dn : ∀ m, a + m < sz → rk (st (a + m)) ≤ rk (st a) := by
    intro m
    induction m with
    | zero => intro _; exact Nat.le_refl _
    | succ m ih =>
      intro hm
      have i1 := ih (by omega)
      have i2 := (hr _ (h4 (a + m) (by omega)).1).2 _ (h9 (a + m) (by omega))
      have i3 : rk (st (a + (m + 1))) < rk (st (a + m)) := i2
      omega
  have d1 := dn (sz - 1 - a) (by omega)
  rw [show a + (sz - 1 - a) = sz - 1 by omega, a2] at d1
  have d2 := (hr _ (h4 (sz - 1) (by omega)).1).2 s hu
  omega
theorem ordz.acy (h : ordz D l ol) : acy D l := by
  obtain ⟨o1, o2⟩ := h
  have ex : ∀ i, ∃ a, i < (D.pr 0).length → (a < (D.pr 0).length ∧ ol a = i) ∧ ∀ b, b < a → ol b ≠ i := by
    intro i
    by_cases hi : i < (D.pr 0).length
    · obtain ⟨a, a1, a2⟩ := o2 i hi
      have lm : ∀ m, ∀ a, a < m → a < (D.pr 0).length → ol a = i → ∃ a, (a < (D.pr 0).length ∧ ol a = i) ∧ ∀ b, b < a → ol b ≠ i := by
        intro m
        induction m with
        | zero => intro a ha; exact absurd ha (Nat.not_lt_zero _)
        | succ m ih =>
          intro a ha ha2 e
          by_cases q : ∃ b, b < a ∧ ol b = i
          · obtain ⟨b, b1, b2⟩ := q
            exact ih b (by omega) (by omega) b2
          · exact ⟨a, ⟨ha2, e⟩, fun b hb z => q ⟨b, hb, z⟩⟩
      obtain ⟨a, h1, h2⟩ := lm (a + 1) a (Nat.lt_succ_self _) a1 a2
      exact ⟨a, fun _ => ⟨h1, h2⟩⟩
    · exact ⟨0, fun z => absurd z hi⟩
  refine ⟨fun i => Classical.choose (ex i), fun s hs => ?_⟩
  obtain ⟨⟨c1, c2⟩, c3⟩ := Classical.choose_spec (ex s) hs
  obtain ⟨q1, q2, q3⟩ := o1 _ c1
  rw [c2] at q2 q3
  refine ⟨q2, fun t ht => ?_⟩
  obtain ⟨b, b1, b2⟩ := q3 t ht
  obtain ⟨⟨d1, d2⟩, d3⟩ := Classical.choose_spec (ex t) (usz_lt ht)
  show Classical.choose (ex t) < Classical.choose (ex s)
  by_cases e : Classical.choose (ex t) < Classical.choose (ex s)
  · exact e
  · exact absurd b2 (d3 b (by omega))
theorem dfi.done (h : dfi D l w st sz ol on) (ha : ∀ i, i < (D.pr 0).length → w i = 2) : on = (D.pr 0).length ∧ ordz D l ol := by
  have e : on = (D.pr 0).length := h.2.1.2.trans (cntv_all _ ha)
  obtain ⟨h1, ⟨h2, h3⟩, h4, h5, h6, h7, h8, h9⟩ := h
  rw [e] at h7 h8
  exact ⟨e, fun a ha => ⟨(h7 a ha).1, (h7 a ha).2.2⟩, fun i hi => h8 i hi (ha i hi)⟩
end Dfi
