/-! NUMBERS ARE LISTED from bits, rising -/
/-- the first n of a row rise, and are what has B before the w-th word's end -/
def enw (ls : Nat → Nat) (n : Nat) (B : Nat → Bool) (w : Nat) : Prop := (∀ i j, i < j → j < n → ls i < ls j) ∧ ∀ s, (∃ i, i < n ∧ ls i = s) ↔ (s < 64 * w ∧ B s = true)
/-- within a word: what is left of it -/
def inw (ls : Nat → Nat) (n : Nat) (B : Nat → Bool) (w : Nat) (lf : Int64) : Prop := (∀ i j, i < j → j < n → ls i < ls j) ∧
  (∀ s, (∃ i, i < n ∧ ls i = s) ↔ ((s < 64 * w ∧ B s = true) ∨ (64 * w ≤ s ∧ s < 64 * w + 64 ∧ B s = true ∧ btz lf (s - 64 * w) = false))) ∧
  (∀ q, q < 64 → btz lf q = true → B (64 * w + q) = true) ∧ ∀ q q', q < 64 → q' < 64 → btz lf q = true → B (64 * w + q') = true → btz lf q' = false → q' < q
section Listing
variable {H : mu_H} {m d P n w t : Nat} {C : Nat → Nat} {U V : Ud} {f ls : Nat → Nat} {B : Nat → Bool} {lf lf' : Int64}
theorem in_start (h : enw ls n B w) (hl : ∀ q, q < 64 → btz lf q = B (64 * w + q)) : inw ls n B w lf := by
  refine ⟨h.1, fun s => ?_, fun q hq z => by rw [← hl q hq]; exact z, fun q q' hq hq' z1 z2 z3 => ?_⟩
  · rw [h.2 s]
    constructor
    · exact fun z => Or.inl z
    · rintro (z | ⟨z1, z2, z3, z4⟩)
      · exact z
      · rw [hl _ (by omega), show 64 * w + (s - 64 * w) = s by omega, z3] at z4
        exact absurd z4 (by decide)
  · rw [hl q' hq', z2] at z3; exact absurd z3 (by decide)
theorem in_end (h : inw ls n B w lf) (h0 : ∀ q, q < 64 → btz lf q = false) : enw ls n B (w + 1) := by
  refine ⟨h.1, fun s => ?_⟩
  rw [h.2.1 s]
  constructor
  · rintro (z | ⟨z1, z2, z3, z4⟩)
    · exact ⟨by omega, z.2⟩
    · exact ⟨by omega, z3⟩
  · rintro ⟨z1, z2⟩
    by_cases hs : s < 64 * w
    · exact Or.inl ⟨hs, z2⟩
    · exact Or.inr ⟨by omega, by omega, z2, h0 _ (by omega)⟩
theorem in_new (h : inw ls n B w lf) (ht : t < 64) (h1 : btz lf t = true) (h0 : ∀ i, i < t → btz lf i = false) : ∀ i, i < n → ls i < 64 * w + t := by
  intro i hi
  rcases (h.2.1 (ls i)).mp ⟨i, hi, rfl⟩ with z | ⟨z1, z2, z3, z4⟩
  · omega
  · have := h.2.2.2 t (ls i - 64 * w) ht (by omega) h1 (by rw [show 64 * w + (ls i - 64 * w) = ls i by omega]; exact z3) z4
    omega
theorem in_step (h : inw ls n B w lf) (ht : t < 64) (h1 : btz lf t = true) (h0 : ∀ i, i < t → btz lf i = false) (hl : ∀ i, btz lf' i = (btz lf i && decide (i ≠ t))) : inw (fun i => if i = n then 64 * w + t else ls i) (n + 1) B w lf' := by
  have hn := in_new h ht h1 h0
  obtain ⟨a1, a2, a3, a4⟩ := h
  refine ⟨fun i j hij hj => ?_, fun s => ?_, fun q hq z => ?_, fun q q' hq hq' z1 z2 z3 => ?_⟩
  · show (if i = n then 64 * w + t else ls i) < (if j = n then 64 * w + t else ls j)
    rw [if_neg (show ¬ i = n by omega)]
    by_cases e : j = n
    · rw [if_pos e]; exact hn i (by omega)
    · rw [if_neg e]; exact a1 i j hij (by omega)
  · have ex : (∃ i, i < n + 1 ∧ (if i = n then 64 * w + t else ls i) = s) ↔ ((∃ i, i < n ∧ ls i = s) ∨ s = 64 * w + t) := by
      constructor
      · rintro ⟨i, hi, e⟩
        by_cases ei : i = n
        · rw [if_pos ei] at e; exact Or.inr e.symm
        · rw [if_neg ei] at e; exact Or.inl ⟨i, by omega, e⟩
      · rintro (⟨i, hi, e⟩ | e)
        · exact ⟨i, by omega, by rw [if_neg (by omega)]; exact e⟩
        · exact ⟨n, by omega, by rw [if_pos rfl]; exact e.symm⟩
    show (∃ i, i < n + 1 ∧ (if i = n then 64 * w + t else ls i) = s) ↔ _
    rw [ex, a2 s]
    constructor
    · rintro ((z | ⟨z1, z2, z3, z4⟩) | z)
      · exact Or.inl z
      · exact Or.inr ⟨z1, z2, z3, by rw [hl, z4]; rfl⟩
      · subst z
        exact Or.inr ⟨by omega, by omega, a3 t ht h1, by rw [hl, show 64 * w + t - 64 * w = t by omega]; simp⟩
    · rintro (z | ⟨z1, z2, z3, z4⟩)
      · exact Or.inl (Or.inl z)
      · by_cases e : s - 64 * w = t
        · exact Or.inr (by omega)
        · rw [hl] at z4
          refine Or.inl (Or.inr ⟨z1, z2, z3, ?_⟩)
          simpa [e] using z4
  · rw [hl] at z
    exact a3 q hq (by simp at z; exact z.1)
  · rw [hl] at z1 z3
    have z1' : btz lf q = true ∧ q ≠ t := by simpa using z1
    by_cases e : q' = t
    · subst e
      apply Nat.lt_of_le_of_ne _ (Ne.symm z1'.2)
      apply Nat.le_of_not_lt
      intro y
      rw [h0 q y] at z1'
      exact absurd z1'.1 (by decide)
    · exact a4 q q' hq hq' z1'.1 z2 (by simpa [e] using z3)
theorem cnz_0 : ∀ n, (∀ i, i < n → btz lf i = false) → cnz lf n = 0
  | 0, _ => rfl
  | n + 1, h => by
    show cnz lf n + (if btz lf n = true then 1 else 0) = 0
    rw [cnz_0 n (fun i hi => h i (by omega)), h n (by omega), if_neg (by decide)]
theorem cnz_none : ∀ n, cnz lf n = 0 → ∀ i, i < n → btz lf i = false
  | 0, _, i, hi => absurd hi (Nat.not_lt_zero _)
  | n + 1, h, i, hi => by
    have h : cnz lf n + (if btz lf n = true then 1 else 0) = 0 := h
    by_cases e : i = n
    · subst e
      cases hb : btz lf i
      · rfl
      · rw [hb, if_pos rfl] at h; omega
    · exact cnz_none n (by omega) i (by omega)
theorem cnz_b : ∀ n, cnz lf n ≤ n
  | 0 => Nat.le_refl _
  | n + 1 => by
    have := cnz_b n
    show cnz lf n + (if btz lf n = true then 1 else 0) ≤ n + 1
    split <;> omega
theorem cnz_low (h : 0 < cnz lf 64) : ∃ t, t < 64 ∧ btz lf t = true ∧ ∀ i, i < t → btz lf i = false :=
  low_ex (fun z => by rw [z, cnz_0 64 (fun i _ => btz_0)] at h; omega)
theorem jl_bits_c : jl_bits lf = nI (cnz lf 64) := by rw [bits_eq.1, pcz_cnz]
theorem rise_le (h : ∀ i j, i < j → j < n → ls i < ls j) : ∀ i, i < n → i ≤ ls i
  | 0, _ => Nat.zero_le _
  | i + 1, hi => by
    have h1 := rise_le h i (by omega)
    have h2 := h i (i + 1) (by omega) hi
    omega
theorem in_room {T : Nat} (h : inw ls n B w lf) (ht : t < 64) (h1 : btz lf t = true) (h0 : ∀ i, i < t → btz lf i = false) (hB : ∀ s, B s = true → s < T) : n < T ∧ 64 * w + t < T := by
  have hs := hB _ (h.2.2.1 t ht h1)
  refine ⟨?_, hs⟩
  by_cases e : n = 0
  · omega
  · have z1 := in_new h ht h1 h0 (n - 1) (by omega)
    have z2 := rise_le h.1 (n - 1) (by omega)
    omega
def bth (U : Ud) (p q s : Nat) : Bool := btz (U.2.2.2.2.1 p (s / 64)) (s % 64) && btz (U.2.2.2.2.1 q (s / 64)) (s % 64)
def F267a : Uf := ⟨[], [], [(99, 18)], [], [], false⟩
def F267b : Uf := ⟨[], [], [(99, 18)], [], [], false⟩
/-- PathProver$Space.listStates([J)I -/
abbrev mu_m267 : ev_M := (7, (some .int), [], ev_b267)
theorem mu_g267 : mu_good mu_m267 := mu_goodk ev_k267
def F267 : Uf := ⟨[], [], [(99, 18)], [], [], false⟩
end Listing
