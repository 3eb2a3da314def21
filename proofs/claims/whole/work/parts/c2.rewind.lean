/-! Machine.rewind, Machine.turn -/
section Rewind
variable {H : mu_H} {m d A W l k n P S0 at0 tot : Nat} {C : Nat → Nat} {U V V1 : Ud} {f sd wt : Nat → Nat} {mk mv w : Int32} {s : Ts}
theorem wgh_ok (hs : (s 22).1 = 28) (hk : k < 28) : (wgh s k w 22).1 = 28 ∧ (∀ r c, ¬ (r = k ∧ (c = 1 ∨ c = 3)) → (wgh s k w 22).2 r c = (s 22).2 r c) ∧ (wgh s k w 22).2 k 1 = w ∧ ((wgh s k w 22).2 k 3 = -1 ∨ ((wgh s k w 22).2 k 3 = (s 22).2 k 3 ∧ (s 22).2 k 1 = w)) ∧ ∀ j, j ≠ 22 → wgh s k w j = s j := by
  unfold wgh
  by_cases h : (s 22).2 k 1 = w
  · rw [if_pos h]
    exact ⟨hs, fun _ _ _ => rfl, h, Or.inr ⟨rfl, h⟩, fun _ _ => rfl⟩
  · rw [if_neg h]
    have n1 : (ax 22 s (nI k) 1 w 22).1 = 28 := by rw [ax_n]; exact hs
    have h1 : ∀ r c, ¬ (r = k ∧ c = 3) → (ax 22 (ax 22 s (nI k) 1 w) (nI k) 3 (-1) 22).2 r c = (ax 22 s (nI k) 1 w 22).2 r c := (ax22 (s := ax 22 s (nI k) 1 w) (x := -1) (by rw [n1]; exact hk) (by omega)).2.2
    have h2 : ∀ r c, ¬ (r = k ∧ c = 1) → (ax 22 s (nI k) 1 w 22).2 r c = (s 22).2 r c := fun r c hn => ax_c (fun _ e2 e3 => hn ⟨e2.trans (nI_clamp (by omega)), e3⟩)
    refine ⟨by rw [ax_n]; exact n1, fun r c hn => ?_, ?_, Or.inl (ax22 (s := ax 22 s (nI k) 1 w) (x := -1) (by rw [n1]; exact hk) (by omega)).2.1, fun j hj => by rw [ax_ne hj, ax_ne hj]⟩
    · rw [h1 r c (fun z => hn ⟨z.1, Or.inr z.2⟩), h2 r c (fun z => hn ⟨z.1, Or.inl z.2⟩)]
    · rw [h1 k 1 (fun z => absurd z.2 (by decide))]
      exact ax_hit (by rw [hs]; exact hk) (by decide) (by omega)
theorem wgs_ok (hs : (s 22).1 = 28) (hn : n ≤ 28) : (wgs mv f s n 22).1 = 28 ∧ (∀ r c, c ≠ 1 → c ≠ 3 → (wgs mv f s n 22).2 r c = (s 22).2 r c) ∧ (∀ k, k < 28 → 28 - n ≤ k → (wgs mv f s n 22).2 k 1 = nI (wqz mv f k) ∧ ((wgs mv f s n 22).2 k 3 = -1 ∨ ((wgs mv f s n 22).2 k 3 = (s 22).2 k 3 ∧ (s 22).2 k 1 = nI (wqz mv f k)))) ∧ (∀ k c, k < 28 - n → (wgs mv f s n 22).2 k c = (s 22).2 k c) ∧ ∀ j, j ≠ 22 → wgs mv f s n j = s j := by
  induction n with
  | zero => exact ⟨hs, fun _ _ _ _ => rfl, fun k h1 h2 => by omega, fun _ _ _ => rfl, fun _ _ => rfl⟩
  | succ n ih =>
    obtain ⟨i1, i2, i3, i4, i5⟩ := ih (by omega)
    obtain ⟨w1, w2, w3, w4, w5⟩ := wgh_ok (w := nI (wqz mv f (27 - n))) i1 (show 27 - n < 28 by omega)
    refine ⟨w1, fun r c h1 h3 => ?_, fun k hk hk2 => ?_, fun k c hk => ?_, fun j hj => (w5 j hj).trans (i5 j hj)⟩
    · exact (w2 r c (fun z => by rcases z.2 with y | y <;> omega)).trans (i2 r c h1 h3)
    · by_cases e : k = 27 - n
      · subst e
        refine ⟨w3, w4.imp id (fun z => ⟨z.1.trans (i4 _ _ (by omega)), (i4 _ _ (by omega)).symm.trans z.2⟩)⟩
      · obtain ⟨y1, y2⟩ := i3 k hk (by omega)
        refine ⟨(w2 k 1 (fun z => e z.1)).trans y1, ?_⟩
        have e3 : (wgs mv f s (n + 1) 22).2 k 3 = (wgs mv f s n 22).2 k 3 := w2 k 3 (fun z => e z.1)
        rw [e3]
        exact y2
    · exact (w2 k c (fun z => by omega)).trans (i4 k c (by omega))
theorem wqz_b (hf : ∀ k, 1 ≤ f k) (hk : k < 28) : wqz mv f k * f (k % 14) ≤ max (tqz mv f 28) 0 ∧ wqz mv f k ≤ tqz mv f 28 := by
  unfold wqz
  by_cases h : mb mv k = 0
  · rw [if_pos h, Nat.zero_mul]; exact ⟨Nat.zero_le _, Nat.zero_le _⟩
  · rw [if_neg h]
    have h1 := tqz_le (mv := mv) hf (show 27 - k + 1 ≤ 28 by omega)
    have h2 : tqz mv f (27 - k + 1) = tqz mv f (27 - k) * f (k % 14) := by
      show tqz mv f (27 - k) * (if mb mv (27 - (27 - k)) = 0 then 1 else f ((27 - (27 - k)) % 14)) = _
      rw [show 27 - (27 - k) = k by omega, if_neg h]
    have h3 := tqz_le (mv := mv) hf (show 27 - k ≤ 28 by omega)
    rw [h2] at h1
    exact ⟨by omega, h3⟩
def F207 : Uf := ⟨[22], [(100, 18), (100, 21), (100, 19), (100, 20)], [(100, 8), (100, 12)], [], [], false⟩
end Rewind
