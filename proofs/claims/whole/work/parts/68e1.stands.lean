/-! The reference: what an expression stands on -/
/-- what the names of an expression stand for, l levels deep -/
def usz (D : MD) (j : Nat) : Nat → Tre → Nat → Prop
  | 0, _, _ => False
  | l + 1, c, t => (tkd c ∈ [64, 33] ∧ ∃ x, fno D j (tns c) = some x ∧ x.2.2 = nI t ∧ t < (D.pr 0).length) ∨ (¬ tkd c ∈ [64, 33] ∧ ∃ i, i < tsn c ∧ usz D j l (tkk c i) t)
section Usz
variable {D : MD} {j : Nat} {w : Nat → Int32}
theorem msl_none {f : Nat → Option Int32} : ∀ m k, msl f m k = none → ∃ i, k ≤ i ∧ i < k + m ∧ f i = none
  | 0, _, h => by cases h
  | m + 1, k, h => by
    rw [msl] at h
    cases e : f k with
    | none => exact ⟨k, Nat.le_refl _, by omega, e⟩
    | some s =>
      rw [e] at h
      dsimp only at h
      by_cases e2 : s < 0
      · rw [if_pos e2] at h
        obtain ⟨i, i1, i2, i3⟩ := msl_none m (k + 1) h
        exact ⟨i, by omega, by omega, i3⟩
      · rw [if_neg e2] at h; cases h
theorem msl_neg {f : Nat → Option Int32} {x : Int32} : ∀ m k, msl f m k = some x → x < 0 → ∀ i, k ≤ i → i < k + m → ∃ y, f i = some y ∧ y < 0
  | 0, _, _, _ => fun i h1 h2 => by omega
  | m + 1, k, h, hx => fun i h1 h2 => by
    rw [msl] at h
    cases e : f k with
    | none => rw [e] at h; cases h
    | some s =>
      rw [e] at h
      dsimp only at h
      by_cases e2 : s < 0
      · rw [if_pos e2] at h
        by_cases e3 : i = k
        · subst e3; exact ⟨s, e, e2⟩
        · exact msl_neg m (k + 1) h hx i (by omega) (by omega)
      · rw [if_neg e2] at h
        cases h
        exact absurd hx e2
theorem msl_pos {f : Nat → Option Int32} {x : Int32} : ∀ m k, msl f m k = some x → ¬ x < 0 → ∃ i, k ≤ i ∧ i < k + m ∧ f i = some x
  | 0, _, h, hx => by cases h; exact absurd (by decide) hx
  | m + 1, k, h, hx => by
    rw [msl] at h
    cases e : f k with
    | none => rw [e] at h; cases h
    | some s =>
      rw [e] at h
      dsimp only at h
      by_cases e2 : s < 0
      · rw [if_pos e2] at h
        obtain ⟨i, i1, i2, i3⟩ := msl_pos m (k + 1) h hx
        exact ⟨i, by omega, by omega, i3⟩
      · rw [if_neg e2] at h
        cases h
        exact ⟨k, Nat.le_refl _, by omega, e⟩
/-- a name is not found -/
theorem mis_none : ∀ {l : Nat} {c : Tre}, nwf l c → mis D j w l c = none → ¬ nmo D j l c
  | 0, _, hw, _ => hw.elim
  | l + 1, c, hw, h => fun hn => by
    rw [mis] at h
    by_cases nk : tkd c ∈ [64, 33]
    · rw [if_pos nk] at h
      cases e : fno D j (tns c) with
      | none => exact hn.1 nk e
      | some x => rw [e] at h; cases h
    · rw [if_neg nk] at h
      obtain ⟨i, _, i2, i3⟩ := msl_none _ _ h
      exact mis_none (hw.2 i (by omega)) i3 (hn.2 i (by omega))
/-- all that it stands on is met -/
theorem mis_neg (hb : mdb D) : ∀ {l : Nat} {c : Tre} {x : Int32}, nwf l c → mis D j w l c = some x → x < 0 → nmo D j l c ∧ ∀ t, usz D j l c t → ¬ w t < 2
  | 0, _, _, hw, _, _ => hw.elim
  | l + 1, c, x, hw, h, hx => by
    have hp := hb.2.1
    rw [mis] at h
    by_cases nk : tkd c ∈ [64, 33]
    · rw [if_pos nk] at h
      cases e : fno D j (tns c) with
      | none => rw [e] at h; cases h
      | some y =>
        rw [e] at h
        refine ⟨⟨fun _ z => (by rw [e] at z; cases z), fun i hi => by rw [(hw.1 nk).2] at hi; exact absurd hi (Nat.not_lt_zero _)⟩, fun t ht w2 => ?_⟩
        rcases ht with ⟨_, y', e1, e2, e3⟩ | ⟨z, _⟩
        · rw [e] at e1
          cases e1
          have h := Option.some.inj h
          rw [if_neg (by rw [e2]; exact nI_nn (by omega)), e2, nI_clamp (by omega), if_pos w2] at h
          rw [← h] at hx
          exact absurd hx (nI_nn (by omega))
        · exact z nk
    · rw [if_neg nk] at h
      have hh := msl_neg _ _ h hx
      refine ⟨⟨fun z => absurd z nk, fun i hi => ?_⟩, fun t ht => ?_⟩
      · obtain ⟨y, y1, y2⟩ := hh i (Nat.zero_le _) (by omega)
        exact (mis_neg hb (hw.2 i hi) y1 y2).1
      · rcases ht with ⟨z, _⟩ | ⟨_, i, hi, ht⟩
        · exact absurd z nk
        · obtain ⟨y, y1, y2⟩ := hh i (Nat.zero_le _) (by omega)
          exact (mis_neg hb (hw.2 i hi) y1 y2).2 t ht
/-- it stands on one that is not met -/
theorem mis_pos (hb : mdb D) (hj : j < D.n) : ∀ {l : Nat} {c : Tre} {x : Int32}, mis D j w l c = some x → ¬ x < 0 → ∃ t, x = nI t ∧ t < (D.pr 0).length ∧ usz D j l c t ∧ w t < 2
  | 0, _, _, h, _ => by cases h
  | l + 1, c, x, h, hx => by
    have hp := hb.2.1
    rw [mis] at h
    by_cases nk : tkd c ∈ [64, 33]
    · rw [if_pos nk] at h
      cases e : fno D j (tns c) with
      | none => rw [e] at h; cases h
      | some y =>
        rw [e] at h
        obtain ⟨ya, yb, yc⟩ := y
        have h := Option.some.inj h
        by_cases e1 : yc < 0
        · rw [if_pos e1] at h
          rw [← h] at hx
          exact absurd (by decide) hx
        · rw [if_neg e1] at h
          obtain ⟨t, t1, t2⟩ := (fno_b hb hj e).2.2.1.resolve_left (fun z => e1 (by rw [z]; decide))
          subst t2
          dsimp only at h
          rw [nI_clamp (by omega)] at h
          by_cases e2 : w t < 2
          · rw [if_pos e2] at h
            exact ⟨t, h.symm, t1, Or.inl ⟨nk, _, e, rfl, t1⟩, e2⟩
          · rw [if_neg e2] at h
            rw [← h] at hx
            exact absurd (by decide) hx
    · rw [if_neg nk] at h
      obtain ⟨i, _, i2, i3⟩ := msl_pos _ _ h hx
      obtain ⟨t, t1, t2, t3, t4⟩ := mis_pos hb hj i3 hx
      exact ⟨t, t1, t2, Or.inr ⟨nk, i, by omega, t3⟩, t4⟩
end Usz
/-! Counting -/
/-- how many of the first N have the worth v -/
def cntv (w : Nat → Int32) (v : Int32) : Nat → Nat
  | 0 => 0
  | n + 1 => cntv w v n + (if w n = v then 1 else 0)
theorem cntv_up {w : Nat → Int32} {v x : Int32} {i : Nat} (hx : w i ≠ x) : ∀ n, cntv (fup w i x) v n + (if i < n ∧ w i = v then 1 else 0) = cntv w v n + (if i < n ∧ x = v then 1 else 0)
  | 0 => by rw [if_neg (fun z => absurd z.1 (Nat.not_lt_zero _)), if_neg (fun z => absurd z.1 (Nat.not_lt_zero _))]; rfl
  | n + 1 => by
    have ih := cntv_up (v := v) hx n
    show cntv (fup w i x) v n + (if fup w i x n = v then 1 else 0) + _ = cntv w v n + (if w n = v then 1 else 0) + _
    by_cases e : i = n
    · subst e
      rw [if_neg (fun z => absurd z.1 (Nat.lt_irrefl _)), if_neg (fun z => absurd z.1 (Nat.lt_irrefl _))] at ih
      have f : fup w i x i = x := if_pos rfl
      rw [f]
      have l1 : i < i + 1 := Nat.lt_succ_self _
      by_cases a : x = v
      · by_cases b : w i = v
        · exact absurd (b.trans a.symm) hx
        · rw [if_pos a, if_neg (fun z => b z.2), if_neg b, if_pos ⟨l1, a⟩]; omega
      · by_cases b : w i = v
        · rw [if_neg a, if_pos ⟨l1, b⟩, if_pos b, if_neg (fun z => a z.2)]; omega
        · rw [if_neg a, if_neg (fun z => b z.2), if_neg b, if_neg (fun z => a z.2)]; omega
    · have f : fup w i x n = w n := if_neg (fun z => e z.symm)
      rw [f]
      have l1 : (i < n + 1) = (i < n) := propext ⟨fun z => by omega, fun z => by omega⟩
      simp only [l1]
      omega
theorem cntv_sum {w : Nat → Int32} : ∀ n, (∀ i, i < n → w i = 0 ∨ w i = 1 ∨ w i = 2) → cntv w 0 n + cntv w 1 n + cntv w 2 n = n
  | 0, _ => rfl
  | n + 1, h => by
    have ih := cntv_sum n (fun i hi => h i (by omega))
    show cntv w 0 n + (if w n = 0 then 1 else 0) + (cntv w 1 n + (if w n = 1 then 1 else 0)) + (cntv w 2 n + (if w n = 2 then 1 else 0)) = n + 1
    rcases h n (Nat.lt_succ_self _) with e | e | e <;> rw [e]
    · rw [if_pos rfl, if_neg (by decide), if_neg (by decide)]; omega
    · rw [if_neg (by decide), if_pos rfl, if_neg (by decide)]; omega
    · rw [if_neg (by decide), if_neg (by decide), if_pos rfl]; omega
theorem cntv_pos {w : Nat → Int32} {v : Int32} : ∀ n, 0 < cntv w v n → ∃ i, i < n ∧ w i = v
  | 0, h => absurd h (Nat.lt_irrefl _)
  | n + 1, h => by
    by_cases e : w n = v
    · exact ⟨n, Nat.lt_succ_self _, e⟩
    · have h : 0 < cntv w v n + (if w n = v then 1 else 0) := h
      rw [if_neg e] at h
      obtain ⟨i, i1, i2⟩ := cntv_pos n h
      exact ⟨i, by omega, i2⟩
theorem cntv_mem {w : Nat → Int32} {v : Int32} {i : Nat} (h : w i = v) : ∀ n, i < n → 0 < cntv w v n
  | 0, hi => absurd hi (Nat.not_lt_zero _)
  | n + 1, hi => by
    show 0 < cntv w v n + (if w n = v then 1 else 0)
    by_cases e : i = n
    · subst e; rw [if_pos h]; omega
    · have := cntv_mem h n (by omega); omega
theorem cntv_all {w : Nat → Int32} {v : Int32} : ∀ n, (∀ i, i < n → w i = v) → cntv w v n = n
  | 0, _ => rfl
  | n + 1, h => by
    show cntv w v n + (if w n = v then 1 else 0) = n + 1
    rw [if_pos (h n (Nat.lt_succ_self _)), cntv_all n (fun i hi => h i (by omega))]
