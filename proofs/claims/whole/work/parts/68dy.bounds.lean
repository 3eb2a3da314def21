/-! The reference: what names of a MODEL stand for lies in its rows -/
theorem fid_b {P : Nat → Bool} : ∀ m k, fid P m k = -1 ∨ ∃ i, i < k + m ∧ fid P m k = nI i
  | 0, _ => Or.inl rfl
  | m + 1, k => by
    rw [fid]
    by_cases e : P k = true
    · rw [if_pos e]; exact Or.inr ⟨k, by omega, rfl⟩
    · rw [if_neg e]
      rcases fid_b (P := P) m (k + 1) with h | ⟨i, h1, h2⟩
      · exact Or.inl h
      · exact Or.inr ⟨i, by omega, h2⟩
/-- the MODEL's numbers lie in its rows -/
def mdb (D : MD) : Prop := (∀ j, j < D.n → ((D.Iv j).2.1 + (D.md j).2.1.length ≤ (D.pr 0).length) ∧ (∀ k, k < (D.md j).2.2.length → tkd (nth (D.md j).2.2 k) = 74 → ∃ s, s < (D.pr 0).length ∧ (D.Iv j).2.2.2.2 k = nI s) ∧ (∀ k, k < (D.md j).2.2.length → tkd (nth (D.md j).2.2 k) = 73 → (D.Iv j).2.2.1 k = -1 ∨ ∃ v, v < (D.pr 1).length ∧ (D.Iv j).2.2.1 k = nI v) ∧ ∀ k i, k < (D.md j).2.2.length → (D.Iv j).2.2.2.1 k = some i → i < D.n) ∧ (D.pr 0).length ≤ 4000 ∧ (D.pr 1).length ≤ 4000 ∧ D.sy.length < 2 ^ 31
section Mdb
variable {D : MD} {j : Nat} {ns : List (List Int32)} {a y s : Int32}
theorem fwk_b (hb : mdb D) : ∀ m k j i, j < D.n → fwk D ns m k j = some i → i < D.n
  | 0, _, j, i, hj, h => by cases h; exact hj
  | m + 1, k, j, i, hj, h => by
    rw [fwk] at h
    cases e : fnd (D.md j).2.2 73 (ns.getD k []) with
    | none => rw [e] at h; cases h
    | some q =>
      rw [e] at h
      dsimp only at h
      cases e2 : (D.Iv j).2.2.2.1 q with
      | none => rw [e2] at h; cases h
      | some i2 =>
        rw [e2] at h
        have hq := (fio_some _ _ _ e).2.2.1
        exact fwk_b hb m (k + 1) i2 i ((hb.1 j hj).2.2.2 q i2 (by omega) e2) h
theorem nn_1 : ¬ (-1 : Int32) = nI 0 := by decide
theorem fvS_b (hb : mdb D) {i : Nat} (hi : i < D.n) {nm : List Int32} : fvS (D.Iv i) (if ns.length = 1 then fpm (D.md i).2.1 nm else none) (fnd (D.md i).2.2 74 nm) = -1 ∨ ∃ v, v < (D.pr 0).length ∧ fvS (D.Iv i) (if ns.length = 1 then fpm (D.md i).2.1 nm else none) (fnd (D.md i).2.2 74 nm) = nI v := by
  obtain ⟨b1, b2, b3, b4⟩ := hb.1 i hi
  cases e : (if ns.length = 1 then fpm (D.md i).2.1 nm else none) with
  | some p =>
    have hp : p < (D.md i).2.1.length := by
      by_cases e1 : ns.length = 1
      · rw [if_pos e1] at e
        have := (fio_some _ _ _ e).2.2.1
        omega
      · rw [if_neg e1] at e; cases e
    exact Or.inr ⟨(D.Iv i).2.1 + p, by omega, nI_add _ _⟩
  | none =>
    cases e2 : fnd (D.md i).2.2 74 nm with
    | none => exact Or.inl rfl
    | some q =>
      have f := fio_some _ _ _ e2
      obtain ⟨v, v1, v2⟩ := b2 q (by have := f.2.2.1; omega) (decide_eq_true_iff.mp f.1).1
      exact Or.inr ⟨v, v1, v2⟩
/-- what is found lies in the MODEL's rows; something is found -/
theorem fno_b (hb : mdb D) (hj : j < D.n) (h : fno D j ns = some (a, y, s)) : (a = -1 ∨ ∃ v, v < (D.pr 1).length ∧ a = nI v) ∧ (y = -1 ∨ ∃ v, v < D.sy.length ∧ y = nI v) ∧ (s = -1 ∨ ∃ v, v < (D.pr 0).length ∧ s = nI v) ∧ (¬ a < 0 ∨ ¬ y < 0 ∨ ¬ s < 0) := by
  unfold fno at h
  cases e : fwk D ns (ns.length - 1) 0 j with
  | none => rw [e] at h; cases h
  | some i =>
    rw [e] at h
    dsimp only at h
    have hi := fwk_b hb _ _ _ _ hj e
    have hS := fvS_b (ns := ns) hb hi (nm := ns.getD (ns.length - 1) [])
    cases e2 : fnd (D.md i).2.2 73 (ns.getD (ns.length - 1) []) with
    | some q =>
      rw [e2] at h
      dsimp only at h
      have f := fio_some _ _ _ e2
      by_cases e3 : (D.Iv i).2.2.1 q < 0
      · rw [if_pos e3] at h; cases h
      · rw [if_neg e3] at h
        cases h
        exact ⟨(hb.1 i hi).2.2.1 q (by have := f.2.2.1; omega) (decide_eq_true_iff.mp f.1).1, Or.inl rfl, hS, Or.inl e3⟩
    | none =>
      rw [e2] at h
      dsimp only at h
      by_cases e3 : fvS (D.Iv i) (if ns.length = 1 then fpm (D.md i).2.1 (ns.getD (ns.length - 1) []) else none) (fnd (D.md i).2.2 74 (ns.getD (ns.length - 1) [])) < 0
      · rw [if_pos e3] at h
        by_cases e4 : (if ns.length = 1 then fid (fun i => decide (D.sy.getD i [] = ns.getD (ns.length - 1) [])) D.sy.length 0 else -1) < 0
        · rw [if_pos e4] at h; cases h
        · rw [if_neg e4] at h
          cases h
          refine ⟨Or.inl rfl, ?_, hS, Or.inr (Or.inl e4)⟩
          by_cases e5 : ns.length = 1
          · rw [if_pos e5]
            rcases fid_b (P := fun i => decide (D.sy.getD i [] = ns.getD (ns.length - 1) [])) D.sy.length 0 with z | ⟨v, v1, v2⟩
            · exact Or.inl z
            · exact Or.inr ⟨v, by omega, v2⟩
          · rw [if_neg e5]; exact Or.inl rfl
      · rw [if_neg e3] at h
        cases h
        exact ⟨Or.inl rfl, Or.inl rfl, hS, Or.inr (Or.inr e3)⟩
end Mdb
/-- names are no empty paths, l levels deep -/
def nwf : Nat → Tre → Prop
  | 0, _ => False
  | l + 1, c => (tkd c ∈ [64, 33] → 0 < (tns c).length ∧ tsn c = 0) ∧ ∀ i, i < tsn c → nwf l (tkk c i)
theorem nwf.up : ∀ {l : Nat} {c : Tre}, nwf l c → nwf (l + 1) c
  | 0, _, h => h.elim
  | _ + 1, _, h => ⟨h.1, fun i hi => nwf.up (h.2 i hi)⟩
theorem nwf.le {l l' : Nat} {c : Tre} (h : nwf l c) (he : l ≤ l') : nwf l' c := by
  obtain ⟨m, rfl⟩ := Nat.le.dest he
  clear he
  induction m with
  | zero => exact h
  | succ m ih => exact ih.up
theorem exw.toN : ∀ {l : Nat} {c : Tre}, exw l c → nwf (2 * l) c
  | 0, _, h => h.elim
  | l + 1, c, h => by
    show nwf (2 * l + 1 + 1) c
    have no : ∀ {ks : List Nat}, tkd c ∈ ks → 64 ∉ ks → 33 ∉ ks → tkd c ∈ [64, 33] → 0 < (tns c).length ∧ tsn c = 0 := fun hk h1 h2 h3 => by
      simp only [List.mem_cons, List.not_mem_nil, or_false] at h3
      rcases h3 with e | e
      · rw [e] at hk; exact absurd hk h1
      · rw [e] at hk; exact absurd hk h2
    rcases h with h | h | ⟨h1, h2, h3⟩ | ⟨h1, h2, h3, h4⟩ | ⟨h1, h2, h3⟩ | ⟨h1, h2, h3, h4⟩ | ⟨h1, h2, h3, ms, h4, h5⟩
    · exact ⟨no h.1 (by decide) (by decide), fun i hi => by rw [h.2] at hi; exact absurd hi (Nat.not_lt_zero _)⟩
    · exact ⟨fun _ => ⟨h.2.2, h.2.1⟩, fun i hi => by rw [h.2.1] at hi; exact absurd hi (Nat.not_lt_zero _)⟩
    · exact ⟨no h1 (by decide) (by decide), fun i hi => by rw [h2] at hi; have e : i = 0 := (by omega); subst e; exact h3.toN.le (by omega)⟩
    · exact ⟨no h1 (by decide) (by decide), fun i hi => by
        rw [h2] at hi
        have e : i = 0 ∨ i = 1 := by omega
        rcases e with e | e
        · subst e; exact h3.toN.le (by omega)
        · subst e; exact h4.toN.le (by omega)⟩
    · exact ⟨no h1 (by decide) (by decide), fun i hi => (h3 i hi).toN.le (by omega)⟩
    · exact ⟨fun e => by rw [h1] at e; exact absurd e (by decide), fun i hi => (h4 i hi).toN.le (by omega)⟩
    · refine ⟨fun e => by rw [h1] at e; exact absurd e (by decide), fun i hi => ?_⟩
      by_cases e0 : i = 0
      · subst e0; exact h3.toN.le (by omega)
      · obtain ⟨k1, k2, k3⟩ := h5 i (by omega) hi
        refine ⟨fun e => ?_, fun i2 hi2 => by rw [k2] at hi2; have e : i2 = 0 := (by omega); subst e; exact k3.toN⟩
        simp only [List.mem_cons, List.not_mem_nil, or_false] at h4 e
        rcases h4 with q | q | q <;> subst q <;> rcases e with e | e <;> rw [e] at k1 <;> exact absurd k1 (by decide)
theorem chw.toN : ∀ {l : Nat} {c : Tre}, chw l c → nwf (2 * l) c
  | 0, _, h => h.elim
  | l + 1, c, h => by
    show nwf (2 * l + 1 + 1) c
    rcases h with ⟨h1, h2, h3⟩ | ⟨h1, h2, h3, h4, h5⟩ | h
    · exact ⟨fun e => by rw [h1] at e; exact absurd e (by decide), fun i hi => (h3 i hi).toN.le (by omega)⟩
    · refine ⟨fun e => by rw [h1] at e; exact absurd e (by decide), fun i hi => ?_⟩
      by_cases e0 : i % 2 = 0
      · exact (h4 i hi e0).toN.le (by omega)
      · exact (chw.toN (h5 i hi (by omega))).le (by omega)
    · exact h.toN
