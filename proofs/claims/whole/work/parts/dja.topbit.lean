/-! RELATION: the last VARIABLE of a mask -/
section TopBit
variable {n j : Nat}
theorem mb_nat (hn : n < 2147483648) (hj : j < 32) : (¬ mb (nI n) j = 0) ↔ n.testBit j = true := by
  rw [mb_bit _ _ hj]
  show (BitVec.ofNat 32 n).getLsbD j = true ↔ _
  rw [BitVec.getLsbD_ofNat, Bool.and_eq_true, decide_eq_true_iff]
  exact ⟨fun y => y.2, fun y => ⟨hj, y⟩⟩
theorem top_bit (h0 : 0 < n) (hn : n < 16384) : ∃ l, l < 14 ∧ (31 : Int32) - ji_lz (nI n) = nI l ∧ ¬ mb (nI n) l = 0 ∧ ∀ j, l < j → j < 32 → mb (nI n) j = 0 := by
  obtain ⟨k, k1, k2, k3, k4, k5⟩ := lz_nI h0 (show n < 2147483648 by omega)
  have e : ji_lz (nI n) = nI (32 - k) := by
    have e1 : ji_lz (nI n) = (32 : Int32) - nI k := by
      have h1 : nI k + ji_lz (nI n) = 32 := by rw [← k2, Int32.sub_add_cancel]
      rw [← h1, Int32.add_comm, Int32.add_sub_cancel]
    rw [e1]
    exact nI_sub (a := 32) (b := k) (by omega)
  have hk14 : k ≤ 14 := by
    apply Nat.le_of_not_lt
    intro hk
    have := Nat.pow_le_pow_right (n := 2) (by decide) (show 14 ≤ k - 1 by omega)
    omega
  refine ⟨k - 1, by omega, ?_, ?_, fun j h1 h2 => ?_⟩
  · rw [e, show (31 : Int32) - nI (32 - k) = nI (31 - (32 - k)) from nI_sub (a := 31) (b := 32 - k) (by omega), show 31 - (32 - k) = k - 1 by omega]
  · rw [mb_nat (by omega) (by omega), Nat.testBit_eq_decide_div_mod_eq, decide_eq_true_iff]
    have h1 : n / 2 ^ (k - 1) = 1 := by
      rw [Nat.div_eq_of_lt_le]
      · omega
      · rw [show (1 + 1) * 2 ^ (k - 1) = 2 ^ (k - 1 + 1) by rw [Nat.pow_succ]; omega, show k - 1 + 1 = k by omega]
        exact k3
    rw [h1]
  · apply Classical.byContradiction
    intro hb
    rw [mb_nat (by omega) h2] at hb
    have := Nat.pow_le_pow_right (n := 2) (by decide) (show k ≤ j by omega)
    rw [Nat.testBit_lt_two_pow (show n < 2 ^ j by omega)] at hb
    cases hb
end TopBit
