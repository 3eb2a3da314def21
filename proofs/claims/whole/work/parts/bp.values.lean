/-! VALUES: what lanes reckon is what operators mean -/
theorem i_lt0 {x : Int32} : x < 0 ↔ x.toBitVec.msb = true := by
  rw [Int32.lt_iff_toInt_lt, BitVec.msb_eq_toInt, decide_eq_true_eq]
  exact Iff.rfl
theorem sgn_eq (x : Int32) : sgn x = if x < 0 then 1 else 0 := by
  have hs : (Int32.toUInt32 31 &&& Int32.toUInt32 31) = (31 : UInt32) := by decide
  unfold sgn
  rw [hs]
  have hn : (x.toUInt32 >>> (31 : UInt32)).toNat = x.toBitVec.toNat / 2147483648 := by
    rw [UInt32.toNat_shiftRight, show (31 : UInt32).toNat % 32 = 31 from rfl, Nat.shiftRight_eq_div_pow]
    rfl
  have hb : x.toBitVec.toNat < 4294967296 := x.toBitVec.isLt
  have hm := BitVec.msb_eq_decide x.toBitVec
  by_cases h : x < 0
  · rw [if_pos h]
    rw [i_lt0.mp h] at hm
    have h2 := of_decide_eq_true hm.symm
    have h3 : 2147483648 ≤ x.toBitVec.toNat := h2
    have e : x.toUInt32 >>> (31 : UInt32) = 1 := UInt32.toNat_inj.mp (hn.trans (by show _ = 1; omega))
    rw [e]; rfl
  · rw [if_neg h]
    have h2 : ¬ 2147483648 ≤ x.toBitVec.toNat := fun z => h (i_lt0.mpr (hm.trans (decide_eq_true z)))
    have e : x.toUInt32 >>> (31 : UInt32) = 0 := UInt32.toNat_inj.mp (hn.trans (by show _ = 0; omega))
    rw [e]; rfl
theorem or_neg0 (x : Int32) : (x ||| -x) < 0 ↔ ¬ x = 0 := by
  rw [i_lt0, Int32.toBitVec_or, BitVec.msb_or, Bool.or_eq_true, ← i_lt0, ← i_lt0, Int32.lt_iff_toInt_lt, Int32.lt_iff_toInt_lt, Int32.toInt_neg]
  have h1 := Int32.le_toInt x
  have h2 := Int32.toInt_lt x
  have h0 : x = 0 ↔ x.toInt = 0 := Int32.toInt_inj.symm
  rw [h0, show (0 : Int32).toInt = 0 from rfl]
  have hb : (((2 ^ 32 : Nat) : Int) / 2 : Int) = 2147483648 := by decide
  by_cases e : x.toInt = -2147483648
  · rw [e]; decide
  · rw [Int.bmod_eq_of_le (by show -(((2 ^ 32 : Nat) : Int) / 2 : Int) ≤ _; omega) (by show _ < (((2 ^ 32 : Nat) : Int) + 1) / 2; omega)]
    omega
theorem sgn_or (x : Int32) : sgn (x ||| -x) = if x = 0 then 0 else 1 := by
  rw [sgn_eq]
  by_cases h : x = 0
  · rw [if_pos h, if_neg (fun z => (or_neg0 x).mp z h)]
  · rw [if_neg h, if_pos ((or_neg0 x).mpr h)]
theorem xor_0 {a b : Int32} : a ^^^ b = 0 ↔ a = b := by
  constructor
  · intro h
    have h1 : (a ^^^ b) ^^^ b = 0 ^^^ b := by rw [h]
    rw [Int32.xor_assoc, Int32.xor_self, Int32.xor_zero, Int32.zero_xor] at h1
    exact h1
  · intro h
    rw [h, Int32.xor_self]
theorem sgn_xor (a b : Int32) : sgn ((a ^^^ b) ||| (-(a ^^^ b))) = if a = b then 0 else 1 := by
  rw [sgn_or]
  by_cases h : a = b
  · rw [if_pos h, if_pos (xor_0.mpr h)]
  · rw [if_neg h, if_neg (fun z => h (xor_0.mp z))]
theorem magic {a b : Nat} (hb : 1 ≤ b) (hab : a * b < 4294967296) : a * (4294967296 / b + 1) / 4294967296 = a / b := by
  have h1 := Nat.div_add_mod 4294967296 b
  have h2 := Nat.mod_lt 4294967296 (show 0 < b from hb)
  have h3 := Nat.div_add_mod a b
  have h4 := Nat.mod_lt a (show 0 < b from hb)
  generalize hq : 4294967296 / b = q at *
  generalize hr : 4294967296 % b = r at *
  generalize hs : a / b = s at *
  generalize hu : a % b = u at *
  have e1 : b * (q + 1) = 4294967296 + (b - r) := by rw [Nat.mul_add, Nat.mul_one]; omega
  refine Nat.div_eq_of_lt_le ?_ ?_
  · have l1 : b * s * (q + 1) ≤ a * (q + 1) := Nat.mul_le_mul_right _ (by omega)
    have l2 : b * s * (q + 1) = s * (4294967296 + (b - r)) := by rw [Nat.mul_comm b s, Nat.mul_assoc, e1]
    have l3 : s * 4294967296 ≤ s * (4294967296 + (b - r)) := Nat.mul_le_mul_left _ (by omega)
    omega
  · have l1 : a * (q + 1) * b = a * (4294967296 + (b - r)) := by rw [Nat.mul_assoc, Nat.mul_comm (q + 1) b, e1]
    have l2 : a * (4294967296 + (b - r)) ≤ a * 4294967296 + a * b := by
      rw [Nat.mul_add]
      exact Nat.add_le_add_left (Nat.mul_le_mul_left _ (by omega)) _
    have l3 : (a + 1) * 4294967296 ≤ (s + 1) * b * 4294967296 := Nat.mul_le_mul_right _ (by rw [Nat.succ_mul, Nat.mul_comm s b]; omega)
    have l4 : a * (q + 1) * b < (s + 1) * 4294967296 * b := by
      rw [l1, Nat.mul_assoc, Nat.mul_comm 4294967296 b, ← Nat.mul_assoc]
      rw [Nat.succ_mul] at l3
      omega
    exact Nat.lt_of_mul_lt_mul_right l4
def okn (v : Int32) : Prop := -32768 ≤ v.toInt ∧ v.toInt ≤ 32767
theorem sub_lt0 {a b : Int32} (ha : okn a) (hb : okn b) : (a - b) < 0 ↔ a < b := by
  obtain ⟨a1, a2⟩ := ha
  obtain ⟨b1, b2⟩ := hb
  rw [Int32.lt_iff_toInt_lt, Int32.lt_iff_toInt_lt, Int32.toInt_sub, show (0 : Int32).toInt = 0 from rfl]
  have hc : (((2 ^ 32 : Nat) : Int) / 2 : Int) = 2147483648 := by decide
  rw [Int.bmod_eq_of_le (by show -(((2 ^ 32 : Nat) : Int) / 2 : Int) ≤ _; omega) (by show _ < (((2 ^ 32 : Nat) : Int) + 1) / 2; omega)]
  omega
theorem bm32 {x : Int} (h1 : -2147483648 ≤ x) (h2 : x < 2147483648) : x.bmod (2 ^ 32) = x := by
  have hc : (((2 ^ 32 : Nat) : Int) / 2 : Int) = 2147483648 := by decide
  exact Int.bmod_eq_of_le (by show -(((2 ^ 32 : Nat) : Int) / 2 : Int) ≤ _; omega) (by show _ < (((2 ^ 32 : Nat) : Int) + 1) / 2; omega)
theorem bm64 {x : Int} (h1 : -9223372036854775808 ≤ x) (h2 : x < 9223372036854775808) : x.bmod (2 ^ 64) = x := by
  have hc : (((2 ^ 64 : Nat) : Int) / 2 : Int) = 9223372036854775808 := by decide
  exact Int.bmod_eq_of_le (by show -(((2 ^ 64 : Nat) : Int) / 2 : Int) ≤ _; omega) (by show _ < (((2 ^ 64 : Nat) : Int) + 1) / 2; omega)
theorem abz_eq {a : Int32} (ha : okn a) : (abz a).toInt = (a.toInt.natAbs : Int) := by
  obtain ⟨a1, a2⟩ := ha
  unfold abz
  by_cases h : a < 0
  · rw [if_pos h, Int32.toInt_neg, bm32 (by omega) (by omega)]
    have := Int32.lt_iff_toInt_lt.mp h
    rw [show (0 : Int32).toInt = 0 from rfl] at this
    omega
  · rw [if_neg h]
    have : ¬ a.toInt < 0 := fun z => h (Int32.lt_iff_toInt_lt.mpr z)
    omega
theorem fc_eq {b : Int32} (hb : okn b) (h0 : ¬ b = 0) : (fc b).toInt = ((4294967296 / b.toInt.natAbs + 1 : Nat) : Int) := by
  unfold fc
  have e : b.toInt ≠ 0 := fun z => h0 (Int32.toInt_inj.mp z)
  have h1 : 1 ≤ b.toInt.natAbs := by omega
  have h2 := Nat.div_le_self 4294967296 b.toInt.natAbs
  have e2 : ((4294967296 : Int64) / (abz b).toInt64).toInt = ((4294967296 / b.toInt.natAbs : Nat) : Int) := by
    rw [Int64.toInt_div, Int32.toInt_toInt64, abz_eq hb, show (4294967296 : Int64).toInt = ((4294967296 : Nat) : Int) from rfl, ← Int.ofNat_tdiv]
    generalize 4294967296 / b.toInt.natAbs = q at *
    exact bm64 (by omega) (by omega)
  rw [Int64.toInt_add, e2, show (1 : Int64).toInt = ((1 : Nat) : Int) from rfl, ← Int.natCast_add]
  generalize 4294967296 / b.toInt.natAbs = q at *
  exact bm64 (by omega) (by omega)
theorem dq_eq {a b : Int32} (ha : okn a) (hb : okn b) (h0 : ¬ b = 0) : (dq a b).toInt = ((a.toInt.natAbs / b.toInt.natAbs : Nat) : Int) := by
  have e : b.toInt ≠ 0 := fun z => h0 (Int32.toInt_inj.mp z)
  have h1 : 1 ≤ b.toInt.natAbs := by omega
  have h2 := Nat.div_le_self 4294967296 b.toInt.natAbs
  have a2 : a.toInt.natAbs ≤ 32768 := by obtain ⟨z1, z2⟩ := ha; omega
  have b2 : b.toInt.natAbs ≤ 32768 := by obtain ⟨z1, z2⟩ := hb; omega
  have hp : a.toInt.natAbs * (4294967296 / b.toInt.natAbs + 1) ≤ 32768 * 4294967297 := Nat.mul_le_mul a2 (by omega)
  have hm : (((abz a).toInt64) * fc b).toInt = ((a.toInt.natAbs * (4294967296 / b.toInt.natAbs + 1) : Nat) : Int) := by
    rw [Int64.toInt_mul, Int32.toInt_toInt64, abz_eq ha, fc_eq hb h0, ← Int.natCast_mul, bm64 (by omega) (by omega)]
  have hq := magic (a := a.toInt.natAbs) h1 (Nat.lt_of_le_of_lt (Nat.mul_le_mul a2 b2) (by decide))
  unfold dq
  generalize (abz a).toInt64 * fc b = z at hm
  generalize a.toInt.natAbs * (4294967296 / b.toInt.natAbs + 1) = N at *
  have hz : z.toUInt64.toNat = N := by
    show z.toBitVec.toNat = N
    have : z.toBitVec.toInt = (N : Int) := hm
    rw [BitVec.toInt_eq_toNat_bmod] at this
    have hl := z.toBitVec.isLt
    have hc : (((2 ^ 64 : Nat) : Int) / 2 : Int) = 9223372036854775808 := by decide
    rcases Nat.lt_or_ge z.toBitVec.toNat 9223372036854775808 with y | y
    · rw [bm64 (by omega) (by omega)] at this
      omega
    · have h3 : ((z.toBitVec.toNat : Int)).bmod (2 ^ 64) < 0 := by
        rw [← BitVec.toInt_eq_toNat_bmod, BitVec.toInt_neg_iff]
        show 18446744073709551616 ≤ _
        omega
      omega
  have hs : (((32 : Int32).toInt64).toUInt64 &&& Int64.toUInt64 63) = (32 : UInt64) := by decide
  rw [hs, Int64.toInt_toInt32]
  have hsh : (z.toUInt64 >>> (32 : UInt64)).toNat = N / 4294967296 := by
    rw [UInt64.toNat_shiftRight, show (32 : UInt64).toNat % 64 = 32 from rfl, Nat.shiftRight_eq_div_pow, hz]
  have hlt : N / 4294967296 ≤ 32768 := by omega
  have h64 : (z.toUInt64 >>> (32 : UInt64)).toInt64.toInt = ((N / 4294967296 : Nat) : Int) := by
    show (z.toUInt64 >>> (32 : UInt64)).toBitVec.toInt = _
    have e5 : (z.toUInt64 >>> (32 : UInt64)).toBitVec.toNat = N / 4294967296 := hsh
    rw [BitVec.toInt_eq_toNat_bmod, e5, bm64 (by omega) (by omega)]
  rw [h64, bm32 (by omega) (by omega), hq]
/-- the quotient with its sign -/
theorem dqs_eq {a b : Int32} (ha : okn a) (hb : okn b) (h0 : ¬ b = 0) : (if (a ^^^ b) < 0 then -(dq a b) else dq a b) = a / b := by
  have hd := dq_eq ha hb h0
  have e : b.toInt ≠ 0 := fun z => h0 (Int32.toInt_inj.mp z)
  have a2 : a.toInt.natAbs ≤ 32768 := by obtain ⟨z1, z2⟩ := ha; omega
  have hq : a.toInt.natAbs / b.toInt.natAbs ≤ a.toInt.natAbs := Nat.div_le_self _ _
  have hx : (a ^^^ b) < 0 ↔ ¬ (a.toInt < 0 ↔ b.toInt < 0) := by
    rw [i_lt0, Int32.toBitVec_xor, BitVec.msb_xor, BitVec.msb_eq_toInt, BitVec.msb_eq_toInt]
    show (decide (a.toInt < 0) ^^ decide (b.toInt < 0)) = true ↔ _
    by_cases h1 : a.toInt < 0 <;> by_cases h2 : b.toInt < 0 <;> simp [h1, h2]
  have ht : (a / b).toInt = a.toInt.tdiv b.toInt := by
    rw [Int32.toInt_div]
    have h3 : (a.toInt.tdiv b.toInt).natAbs = a.toInt.natAbs / b.toInt.natAbs := Int.natAbs_tdiv _ _
    exact bm32 (by omega) (by omega)
  refine Int32.toInt_inj.mp ?_
  rw [ht]
  have h3 : (a.toInt.tdiv b.toInt).natAbs = a.toInt.natAbs / b.toInt.natAbs := Int.natAbs_tdiv _ _
  rw [← h3] at hd hq
  have hs : (a.toInt < 0 ↔ b.toInt < 0) → 0 ≤ a.toInt.tdiv b.toInt := fun z => by
    rcases Int.lt_or_le a.toInt 0 with y | y
    · exact Int.tdiv_nonneg_of_nonpos_of_nonpos (by omega) (by have := z.mp y; omega)
    · exact Int.tdiv_nonneg y (by have : ¬ b.toInt < 0 := fun w => by have := z.mpr w; omega
                                  omega)
  have hs2 : ¬ (a.toInt < 0 ↔ b.toInt < 0) → a.toInt.tdiv b.toInt ≤ 0 := fun z => by
    rcases Int.lt_or_le a.toInt 0 with y | y
    · have : ¬ b.toInt < 0 := fun w => z ⟨fun _ => w, fun _ => y⟩
      have h5 := Int.tdiv_nonneg (a := -a.toInt) (b := b.toInt) (by omega) (by omega)
      rw [Int.neg_tdiv] at h5
      omega
    · have : b.toInt < 0 := by
        rcases Int.lt_or_le b.toInt 0 with w | w
        · exact w
        · exact absurd ⟨fun q => by omega, fun q => by omega⟩ z
      exact Int.tdiv_nonpos_of_nonneg_of_nonpos y (by omega)
  by_cases h : (a ^^^ b) < 0
  · rw [if_pos h, Int32.toInt_neg, hd, bm32 (by omega) (by omega)]
    have := hs2 (hx.mp h)
    omega
  · rw [if_neg h, hd]
    have := hs (Classical.not_not.mp (fun z => h (hx.mpr z)))
    omega
section Means
variable {op a b : Int32} {c c' : Nat → Nat → Int32} {g g' : Nat → Int32} {f t n k p : Nat} {ow : Int32}
theorem jT_jo {kk : Nat} (h : (4 ≤ kk ∧ kk ≤ 9) ∨ kk = 16 ∨ kk = 17) : jT (nI kk) a b = jo (nI kk) a b := by
  have e0 : ((0 : Int32) ^^^ 1) = 1 := by decide
  have e1 : ((1 : Int32) ^^^ 1) = 0 := by decide
  have e2 : ((0 : Int32) ^^^ 0) = 0 := by decide
  have e3 : ((1 : Int32) ^^^ 0) = 1 := by decide
  have hk : kk = 4 ∨ kk = 5 ∨ kk = 6 ∨ kk = 7 ∨ kk = 8 ∨ kk = 9 ∨ kk = 16 ∨ kk = 17 := by omega
  rcases hk with rfl | rfl | rfl | rfl | rfl | rfl | rfl | rfl
  · show sgn ((a ^^^ b) ||| (-(a ^^^ b))) ^^^ 1 = if a = b then 1 else 0
    rw [sgn_xor]
    by_cases h : a = b
    · rw [if_pos h, if_pos h]; exact e0
    · rw [if_neg h, if_neg h]; exact e1
  · rfl
  · rfl
  · show sgn ((a ^^^ b) ||| (-(a ^^^ b))) ^^^ 0 = if a = b then 0 else 1
    rw [sgn_xor]
    by_cases h : a = b
    · rw [if_pos h]; exact e2
    · rw [if_neg h]; exact e3
  · rfl
  · rfl
  · show sgn ((a ^^^ b) ||| (-(a ^^^ b))) ^^^ 1 = if a = b then 1 else 0
    rw [sgn_xor]
    by_cases h : a = b
    · rw [if_pos h, if_pos h]; exact e0
    · rw [if_neg h, if_neg h]; exact e1
  · show sgn ((a ^^^ b) ||| (-(a ^^^ b))) ^^^ 0 = if a = b then 0 else 1
    rw [sgn_xor]
    by_cases h : a = b
    · rw [if_pos h]; exact e2
    · rw [if_neg h]; exact e3
theorem sgn_sub (ha : okn a) (hb : okn b) : sgn (a - b) = if a < b then 1 else 0 := by
  rw [sgn_eq]
  by_cases h : a < b
  · rw [if_pos h, if_pos ((sub_lt0 ha hb).mpr h)]
  · rw [if_neg h, if_neg (fun z => h ((sub_lt0 ha hb).mp z))]
theorem jN_jo {kk : Nat} (h : (18 ≤ kk ∧ kk ≤ 24) ∨ kk = 27) (ht : kk ≤ 21 → okn a ∧ okn b) : jN (nI kk) a b = jo (nI kk) a b := by
  have e0 : ((0 : Int32) ^^^ 1) = 1 := by decide
  have e1 : ((1 : Int32) ^^^ 1) = 0 := by decide
  have e2 : ((0 : Int32) ^^^ 0) = 0 := by decide
  have e3 : ((1 : Int32) ^^^ 0) = 1 := by decide
  have hk : kk = 18 ∨ kk = 19 ∨ kk = 20 ∨ kk = 21 ∨ kk = 22 ∨ kk = 23 ∨ kk = 24 ∨ kk = 27 := by omega
  rcases hk with rfl | rfl | rfl | rfl | rfl | rfl | rfl | rfl
  · obtain ⟨ha, hb⟩ := ht (by decide)
    show sgn (a - b) ^^^ 0 = if a < b then 1 else 0
    rw [sgn_sub ha hb]
    by_cases h : a < b
    · rw [if_pos h]; exact e3
    · rw [if_neg h]; exact e2
  · obtain ⟨ha, hb⟩ := ht (by decide)
    show sgn (b - a) ^^^ 1 = if b < a then 0 else 1
    rw [sgn_sub hb ha]
    by_cases h : b < a
    · rw [if_pos h, if_pos h]; exact e1
    · rw [if_neg h, if_neg h]; exact e0
  · obtain ⟨ha, hb⟩ := ht (by decide)
    show sgn (b - a) ^^^ 0 = if b < a then 1 else 0
    rw [sgn_sub hb ha]
    by_cases h : b < a
    · rw [if_pos h]; exact e3
    · rw [if_neg h]; exact e2
  · obtain ⟨ha, hb⟩ := ht (by decide)
    show sgn (a - b) ^^^ 1 = if a < b then 0 else 1
    rw [sgn_sub ha hb]
    by_cases h : a < b
    · rw [if_pos h, if_pos h]; exact e1
    · rw [if_neg h, if_neg h]; exact e0
  · rfl
  · rfl
  · rfl
  · rfl
theorem dv_jo {kk : Nat} (h : kk = 25 ∨ kk = 26) (ha : okn a) (hb : okn b) : dv (nI kk) a b = jo (nI kk) a b := by
  rcases h with rfl | rfl
  · show (if b = 0 then 0 else (if (a ^^^ b) < 0 then -(dq a b) else dq a b).toInt16.toInt32) = (if b = 0 then 0 else (a / b).toInt16.toInt32)
    by_cases h0 : b = 0
    · rw [if_pos h0, if_pos h0]
    · rw [if_neg h0, if_neg h0, dqs_eq ha hb h0]
  · show (if b = 0 then 0 else a - (if (a ^^^ b) < 0 then -(dq a b) else dq a b) * b) = (if b = 0 then 0 else a - a / b * b)
    by_cases h0 : b = 0
    · rw [if_pos h0, if_pos h0]
    · rw [if_neg h0, if_neg h0, dqs_eq ha hb h0]
theorem eqv_eq : eqv a b = if a = b then 1 else 0 := by
  show sgn ((a ^^^ b) ||| (-(a ^^^ b))) ^^^ 1 = if a = b then 1 else 0
  rw [sgn_xor]
  by_cases h : a = b
  · rw [if_pos h, if_pos h]; decide
  · rw [if_neg h, if_neg h]; decide
theorem mt_eq : mt c f n k = if (∃ i, i < n ∧ c (f + 1 + i) k = c f k) then 1 else 0 := by
  induction n with
  | zero => rw [if_neg (fun z => by obtain ⟨i, hi, -⟩ := z; omega)]; rfl
  | succ n ih =>
    show mt c f n k ||| eqv (c f k) (c (f + 1 + n) k) = _
    rw [ih, eqv_eq]
    by_cases h1 : ∃ i, i < n ∧ c (f + 1 + i) k = c f k
    · obtain ⟨i, hi, e⟩ := h1
      rw [if_pos ⟨i, hi, e⟩, if_pos (show ∃ i, i < n + 1 ∧ c (f + 1 + i) k = c f k from ⟨i, by omega, e⟩)]
      by_cases h2 : c f k = c (f + 1 + n) k
      · rw [if_pos h2]; decide
      · rw [if_neg h2]; decide
    · rw [if_neg h1]
      by_cases h2 : c f k = c (f + 1 + n) k
      · rw [if_pos h2, if_pos (show ∃ i, i < n + 1 ∧ c (f + 1 + i) k = c f k from ⟨n, by omega, h2.symm⟩)]; decide
      · rw [if_neg h2, if_neg (fun z => by
          obtain ⟨i, hi, e⟩ := z
          by_cases hin : i = n
          · exact h2 (by rw [← hin]; exact e.symm)
          · exact h1 ⟨i, by omega, e⟩)]; decide
theorem innz_eq {x : Int32} : ∀ n s, innz g x n s = if (∃ i, i < n ∧ g (s + i) = x) then 1 else 0
  | 0, s => by rw [if_neg (fun z => by obtain ⟨i, hi, -⟩ := z; omega)]; rfl
  | n + 1, s => by
    show (if g s = x then 1 else innz g x n (s + 1)) = _
    by_cases h : g s = x
    · rw [if_pos h, if_pos ⟨0, by omega, h⟩]
    · rw [if_neg h, innz_eq n (s + 1)]
      by_cases h1 : ∃ i, i < n ∧ g (s + 1 + i) = x
      · obtain ⟨i, hi, e⟩ := h1
        rw [if_pos ⟨i, hi, e⟩, if_pos ⟨i + 1, by omega, by rw [show s + (i + 1) = s + 1 + i by omega]; exact e⟩]
      · rw [if_neg h1, if_neg (fun z => by
          obtain ⟨i, hi, e⟩ := z
          by_cases h0 : i = 0
          · subst h0; exact h e
          · exact h1 ⟨i - 1, by omega, by rw [show s + 1 + (i - 1) = s + i by omega]; exact e⟩)]
theorem mt_innz : mt c f n k = innz (fun i => c i k) (c f k) n (f + 1) := by rw [mt_eq, innz_eq]
theorem chz_pkz : ∀ p, 2 * p ≤ t → (∀ i, t - 2 * p ≤ i → i < t → (t - i) % 2 = 0 → c i k = 0 ∨ c i k = 1) → chz c ow t p k = pkz (fun i => c i k) ow p (t - 2 * p)
  | 0, _, _ => rfl
  | p + 1, hp, hc => by
    have ih := chz_pkz p (by omega) (fun i h1 h2 h3 => hc i (by omega) h2 h3)
    show (c (t - 2 * (p + 1) + 1) k &&& (-(c (t - 2 * (p + 1)) k))) ||| (chz c ow t p k &&& (c (t - 2 * (p + 1)) k - 1)) = (if c (t - 2 * (p + 1)) k = 0 then pkz (fun i => c i k) ow p (t - 2 * (p + 1) + 2) else c (t - 2 * (p + 1) + 1) k)
    rw [show t - 2 * (p + 1) + 2 = t - 2 * p by omega, ← ih]
    rcases hc (t - 2 * (p + 1)) (by omega) (by omega) (by omega) with e | e
    · rw [e, if_pos rfl, show (-(0 : Int32)) = 0 by decide, show ((0 : Int32) - 1) = -1 by decide, Int32.and_zero, Int32.and_neg_one, Int32.zero_or]
    · rw [e, if_neg (by decide), show (-(1 : Int32)) = -1 by decide, show ((1 : Int32) - 1) = 0 by decide, Int32.and_zero, Int32.and_neg_one, Int32.or_zero]
theorem pkz_congr : ∀ p s, (∀ i, s ≤ i → i < s + 2 * p → g i = g' i) → pkz g ow p s = pkz g' ow p s
  | 0, _, _ => rfl
  | p + 1, s, h => by
    show (if g s = 0 then pkz g ow p (s + 2) else g (s + 1)) = (if g' s = 0 then pkz g' ow p (s + 2) else g' (s + 1))
    rw [h s (by omega) (by omega), h (s + 1) (by omega) (by omega), pkz_congr p (s + 2) (fun i h1 h2 => h i (by omega) (by omega))]
theorem innz_congr {x : Int32} : ∀ p s, (∀ i, s ≤ i → i < s + p → g i = g' i) → innz g x p s = innz g' x p s
  | 0, _, _ => rfl
  | p + 1, s, h => by
    show (if g s = x then 1 else innz g x p (s + 1)) = (if g' s = x then 1 else innz g' x p (s + 1))
    rw [h s (by omega) (by omega), innz_congr p (s + 1) (fun i h1 h2 => h i (by omega) (by omega))]
theorem ro_congr (hft : f < t) (h : ∀ i, f ≤ i → i < t → g i = g' i) : ro g op f t = ro g' op f t := by
  unfold ro
  rw [h f (by omega) hft, h (t - 1) (by omega) (by omega), pkz_congr _ f (fun i h1 h2 => h i h1 (by omega)), innz_congr _ (f + 1) (fun i h1 h2 => h i (by omega) (by omega))]
end Means
