/-! THE LOWEST BIT IS TAKEN AWAY -/
section LowOff
theorem low_off {x : Int64} {t : Nat} (h1 : btz x t = true) (h0 : ∀ i, i < t → btz x i = false) (i : Nat) : btz (x &&& (x - 1)) i = (btz x i && decide (i ≠ t)) := by
  have hN := x.toBitVec.isLt
  have hm := low_mod (N := x.toBitVec.toNat) (t := t) h0
  have hd := Nat.div_add_mod x.toBitVec.toNat (2 ^ t)
  rw [hm, Nat.add_zero] at hd
  have hodd : (x.toBitVec.toNat / 2 ^ t) % 2 = 1 := by
    have : x.toBitVec.toNat.testBit t = true := h1
    rw [Nat.testBit_eq_decide_div_mod_eq] at this
    exact of_decide_eq_true this
  obtain ⟨K, hK⟩ : ∃ K, x.toBitVec.toNat / 2 ^ t = 2 * K + 1 := ⟨x.toBitVec.toNat / 2 ^ t / 2, by omega⟩
  rw [hK] at hd
  have hp : 0 < 2 ^ t := Nat.two_pow_pos t
  have e1 : x.toBitVec.toNat = 2 ^ t * (2 * K + 1) + 0 := by omega
  have e4 : 2 ^ t * (2 * K + 1) = 2 ^ t * (2 * K) + 2 ^ t := by rw [Nat.mul_add, Nat.mul_one]
  have e2 : (x - 1).toBitVec.toNat = 2 ^ t * (2 * K) + (2 ^ t - 1) := by
    have h5 : tnz (x - 1) = tnz x - tnz 1 := tnz_sub (by show 1 ≤ x.toBitVec.toNat; omega)
    have h6 : (x - 1).toBitVec.toNat = x.toBitVec.toNat - 1 := h5
    rw [h6]
    omega
  have b1 : btz x i = if i < t then false else (2 * K + 1).testBit (i - t) := by
    show x.toBitVec.toNat.testBit i = _
    rw [e1, Nat.testBit_two_pow_mul_add _ hp]
    by_cases h : i < t
    · rw [if_pos h, if_pos h, Nat.zero_testBit]
    · rw [if_neg h, if_neg h]
  have b2 : btz (x - 1) i = if i < t then true else (2 * K).testBit (i - t) := by
    show (x - 1).toBitVec.toNat.testBit i = _
    rw [e2, Nat.testBit_two_pow_mul_add _ (by omega)]
    by_cases h : i < t
    · rw [if_pos h, if_pos h, Nat.testBit_two_pow_sub_one, decide_eq_true h]
    · rw [if_neg h, if_neg h]
  rw [btz_and, b1, b2]
  by_cases h : i < t
  · rw [if_pos h, if_pos h]; rfl
  · rw [if_neg h, if_neg h]
    by_cases e : i = t
    · rw [e, Nat.sub_self]; simp
    · obtain ⟨j, hj⟩ : ∃ j, i - t = j + 1 := ⟨i - t - 1, by omega⟩
      rw [hj, Nat.testBit_succ, Nat.testBit_succ, show (2 * K + 1) / 2 = K by omega, show 2 * K / 2 = K by omega, decide_eq_true e]
      cases K.testBit j <;> rfl
/-- a number that is not 0 has a lowest bit -/
theorem low_ex {x : Int64} (h : ¬ x = 0) : ∃ t, t < 64 ∧ btz x t = true ∧ ∀ i, i < t → btz x i = false := by
  have : ∀ n, (∀ i, i < n → btz x i = false) ∨ ∃ t, t < n ∧ btz x t = true ∧ ∀ i, i < t → btz x i = false := by
    intro n
    induction n with
    | zero => exact Or.inl (fun i hi => absurd hi (Nat.not_lt_zero _))
    | succ n ih =>
      rcases ih with z | ⟨t, h1, h2, h3⟩
      · cases hb : btz x n
        · exact Or.inl (fun i hi => by by_cases e : i = n; rw [e]; exact hb; exact z i (by omega))
        · exact Or.inr ⟨n, by omega, hb, z⟩
      · exact Or.inr ⟨t, by omega, h2, h3⟩
  rcases this 64 with z | z
  · exact absurd (btz_ext (fun b hb => by rw [z b hb, btz_0])) h
  · exact z
end LowOff
