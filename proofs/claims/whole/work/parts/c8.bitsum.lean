/-! COUNTING BITS -/
section Count
variable {x y : Int64}
/-- how many of the first n bits are set -/
def cnz (x : Int64) : Nat → Nat
  | 0 => 0
  | n + 1 => cnz x n + (if btz x n = true then 1 else 0)
theorem btz_div (n : Nat) : (if btz x n = true then 1 else 0) = tnz x / 2 ^ n % 2 := by
  have e : btz x n = decide (tnz x / 2 ^ n % 2 = 1) := by
    show (tnz x).testBit n = _
    exact Nat.testBit_eq_decide_div_mod_eq
  rw [e]
  by_cases h : tnz x / 2 ^ n % 2 = 1
  · rw [decide_eq_true h, if_pos rfl, h]
  · rw [decide_eq_false h, if_neg (by decide)]; omega
theorem dp (n i : Nat) : tnz x / 2 ^ (n + i) = tnz x / 2 ^ n / 2 ^ i := by rw [Nat.pow_add, Nat.div_div_eq_div_mul]
theorem cnz_8 (n : Nat) : cnz x (n + 8) = cnz x n + pb (tnz x / 2 ^ n % 256) := by
  show cnz x n + (if btz x n = true then 1 else 0) + (if btz x (n + 1) = true then 1 else 0) + (if btz x (n + 2) = true then 1 else 0) + (if btz x (n + 3) = true then 1 else 0) + (if btz x (n + 4) = true then 1 else 0) + (if btz x (n + 5) = true then 1 else 0) + (if btz x (n + 6) = true then 1 else 0) + (if btz x (n + 7) = true then 1 else 0) = _
  rw [btz_div, btz_div, btz_div, btz_div, btz_div, btz_div, btz_div, btz_div, dp n 1, dp n 2, dp n 3, dp n 4, dp n 5, dp n 6, dp n 7]
  generalize tnz x / 2 ^ n = M
  unfold pb
  have h1 : M % 256 / 2 % 2 = M / 2 ^ 1 % 2 := by omega
  have h2 : M % 256 / 4 % 2 = M / 2 ^ 2 % 2 := by omega
  have h3 : M % 256 / 8 % 2 = M / 2 ^ 3 % 2 := by omega
  have h4 : M % 256 / 16 % 2 = M / 2 ^ 4 % 2 := by omega
  have h5 : M % 256 / 32 % 2 = M / 2 ^ 5 % 2 := by omega
  have h6 : M % 256 / 64 % 2 = M / 2 ^ 6 % 2 := by omega
  have h7 : M % 256 / 128 % 2 = M / 2 ^ 7 % 2 := by omega
  have h0 : M % 256 % 2 = M % 2 := by omega
  rw [h0, h1, h2, h3, h4, h5, h6, h7]
  generalize M / 2 ^ 1 % 2 = a1
  generalize M / 2 ^ 2 % 2 = a2
  generalize M / 2 ^ 3 % 2 = a3
  generalize M / 2 ^ 4 % 2 = a4
  generalize M / 2 ^ 5 % 2 = a5
  generalize M / 2 ^ 6 % 2 = a6
  generalize M / 2 ^ 7 % 2 = a7
  generalize M % 2 = a0
  omega
theorem pcz_cnz : pcz (tnz x) = cnz x 64 := by
  have d : ∀ n, tnz x / 2 ^ n / 256 = tnz x / 2 ^ (n + 8) := fun n => (dp n 8).symm
  have e0 := cnz_8 (x := x) 0
  have e1 := cnz_8 (x := x) 8
  have e2 := cnz_8 (x := x) 16
  have e3 := cnz_8 (x := x) 24
  have e4 := cnz_8 (x := x) 32
  have e5 := cnz_8 (x := x) 40
  have e6 := cnz_8 (x := x) 48
  have e7 := cnz_8 (x := x) 56
  have z0 : tnz x / 2 ^ 0 = tnz x := by rw [Nat.pow_zero, Nat.div_one]
  have c0 : cnz x 0 = 0 := rfl
  unfold pcz
  rw [← z0, show tnz x / 2 ^ 0 / 256 = tnz x / 2 ^ 8 from d 0, show tnz x / 2 ^ 8 / 256 = tnz x / 2 ^ 16 from d 8, show tnz x / 2 ^ 16 / 256 = tnz x / 2 ^ 24 from d 16, show tnz x / 2 ^ 24 / 256 = tnz x / 2 ^ 32 from d 24, show tnz x / 2 ^ 32 / 256 = tnz x / 2 ^ 40 from d 32, show tnz x / 2 ^ 40 / 256 = tnz x / 2 ^ 48 from d 40, show tnz x / 2 ^ 48 / 256 = tnz x / 2 ^ 56 from d 48]
  rw [c0] at e0
  generalize cnz x 64 = k8 at *
  generalize cnz x 56 = k7 at *
  generalize cnz x 48 = k6 at *
  generalize cnz x 40 = k5 at *
  generalize cnz x 32 = k4 at *
  generalize cnz x 24 = k3 at *
  generalize cnz x 16 = k2 at *
  generalize cnz x 8 = k1 at *
  rw [e7, e6, e5, e4, e3, e2, e1, e0]
  omega
/-- a number without one of its bits has one bit less -/
theorem cnz_less {t : Nat} (h1 : btz x t = true) (h0 : btz y t = false) (h : ∀ i, i ≠ t → btz y i = btz x i) : ∀ n, (n ≤ t → cnz y n = cnz x n) ∧ (t < n → cnz y n + 1 = cnz x n)
  | 0 => ⟨fun _ => rfl, fun z => by omega⟩
  | n + 1 => by
    obtain ⟨i1, i2⟩ := cnz_less h1 h0 h n
    have s1 : cnz y (n + 1) = cnz y n + (if btz y n = true then 1 else 0) := rfl
    have s2 : cnz x (n + 1) = cnz x n + (if btz x n = true then 1 else 0) := rfl
    refine ⟨fun hn => ?_, fun hn => ?_⟩
    · rw [s1, s2, h n (by omega), i1 (by omega)]
    · by_cases e : n = t
      · subst e
        rw [s1, s2, h1, h0, if_pos rfl, if_neg (by decide), i1 (Nat.le_refl _)]
      · rw [s1, s2, h n e]
        have := i2 (by omega)
        omega
end Count
