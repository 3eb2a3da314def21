/-! NUMBERS PACKED BY FOURS -/
/-- the first r numbers of the w-th word of a list -/
def pk4 (el : Nat → Nat) (w : Nat) : Nat → Nat
  | 0 => 0
  | r + 1 => pk4 el w r + el (4 * w + r) * 2 ^ (16 * r)
theorem pk4_lt {el : Nat → Nat} {w : Nat} (h : ∀ i, el i < 65536) : ∀ r, pk4 el w r < 2 ^ (16 * r)
  | 0 => Nat.one_pos
  | r + 1 => by
    have h1 := pk4_lt h (w := w) r
    have h2 := h (4 * w + r)
    show pk4 el w r + el (4 * w + r) * 2 ^ (16 * r) < 2 ^ (16 * (r + 1))
    rw [show 16 * (r + 1) = 16 * r + 16 by omega, Nat.pow_add]
    have h3 : el (4 * w + r) * 2 ^ (16 * r) ≤ 65535 * 2 ^ (16 * r) := Nat.mul_le_mul_right _ (by omega)
    generalize 2 ^ (16 * r) = T at h1 h3 ⊢
    show _ < T * 65536
    omega
theorem pk4_at {el : Nat → Nat} {w j : Nat} (h : ∀ i, el i < 65536) : ∀ r, j < r → pk4 el w r / 2 ^ (16 * j) % 65536 = el (4 * w + j)
  | 0, hj => absurd hj (Nat.not_lt_zero _)
  | r + 1, hj => by
    show (pk4 el w r + el (4 * w + r) * 2 ^ (16 * r)) / 2 ^ (16 * j) % 65536 = _
    by_cases e : j = r
    · rw [e, Nat.add_mul_div_right _ _ (Nat.two_pow_pos _), Nat.div_eq_of_lt (pk4_lt h r), Nat.zero_add]
      exact Nat.mod_eq_of_lt (h _)
    · have ih := pk4_at (w := w) (j := j) h r (by omega)
      rw [show el (4 * w + r) * 2 ^ (16 * r) = el (4 * w + r) * 2 ^ (16 * (r - j - 1)) * 65536 * 2 ^ (16 * j) from by
        rw [Nat.mul_assoc, Nat.mul_assoc, show (65536 : Nat) = 2 ^ 16 by decide, ← Nat.pow_add, ← Nat.pow_add]
        congr 2
        omega]
      rw [Nat.add_mul_div_right _ _ (Nat.two_pow_pos _), Nat.add_mul_mod_self_right]
      exact ih
