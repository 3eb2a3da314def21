/-! TRAILING ZEROS -/
section Zeros
theorem low_mod {N t : Nat} (h0 : ∀ i, i < t → N.testBit i = false) : N % 2 ^ t = 0 := by
  refine Nat.eq_of_testBit_eq (fun i => ?_)
  rw [Nat.testBit_mod_two_pow, Nat.zero_testBit]
  by_cases h : i < t
  · rw [h0 i h, Bool.and_false]
  · rw [decide_eq_false h, Bool.false_and]
theorem low_and {x : Int32} {t : Nat} (ht : t < 32) (h1 : x.toBitVec.getLsbD t = true) (h0 : ∀ i, i < t → x.toBitVec.getLsbD i = false) : (x ^^^ (-1 : Int32)) &&& (x - (1 : Int32)) = nI (2 ^ t - 1) := by
  refine Int32.toBitVec_inj.mp (BitVec.eq_of_getLsbD_eq (fun i hi => ?_))
  have hN := x.toBitVec.isLt
  have hm := low_mod (N := x.toBitVec.toNat) (t := t) h0
  have hd := Nat.div_add_mod x.toBitVec.toNat (2 ^ t)
  rw [hm, Nat.add_zero] at hd
  have hodd : (x.toBitVec.toNat / 2 ^ t) % 2 = 1 := by
    have : x.toBitVec.toNat.testBit t = true := h1
    rw [Nat.testBit_eq_decide_div_mod_eq] at this
    exact of_decide_eq_true this
  obtain ⟨K, hK⟩ : ∃ K, x.toBitVec.toNat / 2 ^ t = 2 * K + 1 := ⟨x.toBitVec.toNat / 2 ^ t / 2, by omega⟩
  rw [hK] at hd
  have hp : 0 < 2 ^ t := Nat.two_pow_pos t
  have e1 : x.toBitVec.toNat = 2 ^ t * (2 * K + 1) + 0 := by omega
  have e2 : (x - 1).toBitVec.toNat = 2 ^ t * (2 * K) + (2 ^ t - 1) := by
    rw [Int32.toBitVec_sub, BitVec.toNat_sub]
    have e3 : (1 : Int32).toBitVec.toNat = 1 := rfl
    rw [e3]
    have e4 : 2 ^ t * (2 * K + 1) = 2 ^ t * (2 * K) + 2 ^ t := by rw [Nat.mul_add, Nat.mul_one]
    have hN2 : x.toBitVec.toNat < 4294967296 := hN
    omega
  have b1 : x.toBitVec.getLsbD i = if i < t then false else (2 * K + 1).testBit (i - t) := by
    show x.toBitVec.toNat.testBit i = _
    rw [e1, Nat.testBit_two_pow_mul_add _ hp]
    by_cases h : i < t
    · rw [if_pos h, if_pos h, Nat.zero_testBit]
    · rw [if_neg h, if_neg h]
  have b2 : (x - 1).toBitVec.getLsbD i = if i < t then true else (2 * K).testBit (i - t) := by
    show (x - 1).toBitVec.toNat.testBit i = _
    rw [e2, Nat.testBit_two_pow_mul_add _ (by omega)]
    by_cases h : i < t
    · rw [if_pos h, if_pos h, Nat.testBit_two_pow_sub_one, decide_eq_true h]
    · rw [if_neg h, if_neg h]
  have b3 : (nI (2 ^ t - 1)).toBitVec.getLsbD i = decide (i < t) := by
    have hlt : 2 ^ t - 1 < 4294967296 := by
      have : 2 ^ t ≤ 2 ^ 31 := Nat.pow_le_pow_right (by decide) (by omega)
      omega
    show (BitVec.ofNat 32 (2 ^ t - 1)).getLsbD i = _
    rw [BitVec.getLsbD_ofNat, decide_eq_true hi, Bool.true_and, Nat.testBit_two_pow_sub_one]
  rw [Int32.toBitVec_and, BitVec.getLsbD_and, Int32.toBitVec_xor, BitVec.getLsbD_xor, b1, b2, b3]
  have b4 : (-1 : Int32).toBitVec.getLsbD i = true := by
    show (BitVec.allOnes 32).getLsbD i = true
    rw [BitVec.getLsbD_allOnes, decide_eq_true hi]
  rw [b4]
  by_cases h : i < t
  · rw [if_pos h, if_pos h, decide_eq_true h]; rfl
  · rw [if_neg h, if_neg h, decide_eq_false h]
    by_cases e : i - t = 0
    · rw [e]; simp
    · obtain ⟨j, hj⟩ : ∃ j, i - t = j + 1 := ⟨i - t - 1, by omega⟩
      rw [hj, Nat.testBit_succ, Nat.testBit_succ, show (2 * K + 1) / 2 = K by omega, show 2 * K / 2 = K by omega]
      cases K.testBit j <;> rfl
theorem tz32 {x : Int32} {t : Nat} (ht : t < 32) (h1 : x.toBitVec.getLsbD t = true) (h0 : ∀ i, i < t → x.toBitVec.getLsbD i = false) : ji_tz x = nI t := by
  unfold ji_tz
  rw [low_and ht h1 h0]
  clear h1 h0
  rcases (show t = 0 ∨ t = 1 ∨ t = 2 ∨ t = 3 ∨ t = 4 ∨ t = 5 ∨ t = 6 ∨ t = 7 ∨ t = 8 ∨ t = 9 ∨ t = 10 ∨ t = 11 ∨ t = 12 ∨ t = 13 ∨ t = 14 ∨ t = 15 ∨ t = 16 ∨ t = 17 ∨ t = 18 ∨ t = 19 ∨ t = 20 ∨ t = 21 ∨ t = 22 ∨ t = 23 ∨ t = 24 ∨ t = 25 ∨ t = 26 ∨ t = 27 ∨ t = 28 ∨ t = 29 ∨ t = 30 ∨ t = 31 by omega) with rfl | rfl | rfl | rfl | rfl | rfl | rfl | rfl | rfl | rfl | rfl | rfl | rfl | rfl | rfl | rfl | rfl | rfl | rfl | rfl | rfl | rfl | rfl | rfl | rfl | rfl | rfl | rfl | rfl | rfl | rfl | rfl <;> decide
theorem lo_bit {x : Int64} {i : Nat} (hi : i < 32) : x.toInt32.toBitVec.getLsbD i = btz x i := by
  show (x.toBitVec.signExtend 32).getLsbD i = x.toBitVec.getLsbD i
  rw [BitVec.getLsbD_signExtend, decide_eq_true hi, Bool.true_and, if_pos (by omega)]
theorem hi_bit {x : Int64} {i : Nat} (hi : i < 32) : ((x.toUInt64 >>> ((32 : Int32).toInt64.toUInt64 &&& Int64.toUInt64 63)).toInt64).toInt32.toBitVec.getLsbD i = btz x (32 + i) := by
  rw [lo_bit hi]
  unfold btz
  have hs : ((32 : Int32).toInt64.toUInt64 &&& Int64.toUInt64 63) = (32 : UInt64) := by decide
  rw [hs]
  have e3 : (x.toUInt64 >>> (32 : UInt64)).toBitVec = x.toBitVec >>> 32 := by
    refine BitVec.eq_of_toNat_eq ?_
    rw [BitVec.toNat_ushiftRight]
    show (x.toUInt64 >>> (32 : UInt64)).toNat = _
    rw [UInt64.toNat_shiftRight]
    rfl
  show (x.toUInt64 >>> (32 : UInt64)).toBitVec.getLsbD i = _
  rw [e3, BitVec.getLsbD_ushiftRight]
theorem tz64 {x : Int64} {t : Nat} (ht : t < 64) (h1 : btz x t = true) (h0 : ∀ i, i < t → btz x i = false) : jl_tz x = nI t := by
  unfold jl_tz
  by_cases h : t < 32
  · have hne : ¬ x.toInt32 = 0 := fun z => by
      have := lo_bit (x := x) h
      rw [z, h1] at this
      have e : (0 : Int32).toBitVec.getLsbD t = false := BitVec.getLsbD_zero
      rw [e] at this
      cases this
    rw [if_neg hne]
    exact tz32 h ((lo_bit h).trans h1) (fun i hi => (lo_bit (by omega)).trans (h0 i hi))
  · have hz : x.toInt32 = 0 := by
      refine Int32.toBitVec_inj.mp (BitVec.eq_of_getLsbD_eq (fun i hi => ?_))
      rw [lo_bit hi, h0 i (by omega)]
      exact BitVec.getLsbD_zero.symm
    rw [if_pos hz, tz32 (t := t - 32) (by omega) ((hi_bit (by omega)).trans (by rw [show 32 + (t - 32) = t by omega]; exact h1)) (fun i hi => (hi_bit (by omega)).trans (h0 _ (by omega)))]
    show nI 32 + nI (t - 32) = nI t
    rw [nI_add, show 32 + (t - 32) = t by omega]
end Zeros
