/-! HOW MANY BITS -/
section Pop
theorem and256 {a c A D : Nat} (ha : a < 256) (hc : c < 256) : (a + 256 * A) &&& (c + 256 * D) = (a &&& c) + 256 * (A &&& D) := by
  have hac : a &&& c < 2 ^ 8 := Nat.lt_of_le_of_lt Nat.and_le_left ha
  refine Nat.eq_of_testBit_eq (fun i => ?_)
  rw [Nat.testBit_and, show a + 256 * A = 2 ^ 8 * A + a by omega, show c + 256 * D = 2 ^ 8 * D + c by omega, show (a &&& c) + 256 * (A &&& D) = 2 ^ 8 * (A &&& D) + (a &&& c) by omega, Nat.testBit_two_pow_mul_add _ (show a < 2 ^ 8 from ha), Nat.testBit_two_pow_mul_add _ (show c < 2 ^ 8 from hc), Nat.testBit_two_pow_mul_add _ hac]
  by_cases h : i < 8
  · rw [if_pos h, if_pos h, if_pos h, Nat.testBit_and]
  · rw [if_neg h, if_neg h, if_neg h, Nat.testBit_and]
def mz (c : Nat) : Nat → Nat
  | 0 => 0
  | k + 1 => c + 256 * mz c k
def p1 (k N : Nat) : Nat := N - (N / 2 &&& mz 85 k)
def p2 (k N : Nat) : Nat := (N &&& mz 51 k) + (N / 4 &&& mz 51 k)
def p3 (k N : Nat) : Nat := (N + N / 16) &&& mz 15 k
theorem p1_s {k b M : Nat} (hb : b < 256) : p1 (k + 1) (b + 256 * M) = p1 1 b + 256 * p1 k M := by
  unfold p1
  show (b + 256 * M) - ((b + 256 * M) / 2 &&& (85 + 256 * mz 85 k)) = (b - (b / 2 &&& (85 + 256 * 0))) + 256 * (M - (M / 2 &&& mz 85 k))
  rw [show (b + 256 * M) / 2 = (b / 2 + 128 * (M % 2)) + 256 * (M / 2) by omega, and256 (by omega) (by decide)]
  have e : (b / 2 + 128 * (M % 2)) &&& 85 = b / 2 &&& 85 := by
    have h1 := (show ∀ q : Fin 128, ∀ v : Fin 2, (q.1 + 128 * v.1) &&& 85 = q.1 &&& 85 by decide) ⟨b / 2, by omega⟩ ⟨M % 2, by omega⟩
    exact h1
  rw [e]
  have l1 : b / 2 &&& 85 ≤ b / 2 := Nat.and_le_left
  have l2 : M / 2 &&& mz 85 k ≤ M / 2 := Nat.and_le_left
  rw [Nat.mul_zero, Nat.add_zero]
  omega
theorem p2_s {k b M : Nat} (hb : b < 256) : p2 (k + 1) (b + 256 * M) = p2 1 b + 256 * p2 k M := by
  unfold p2
  show ((b + 256 * M) &&& (51 + 256 * mz 51 k)) + ((b + 256 * M) / 4 &&& (51 + 256 * mz 51 k)) = ((b &&& (51 + 256 * 0)) + (b / 4 &&& (51 + 256 * 0))) + 256 * ((M &&& mz 51 k) + (M / 4 &&& mz 51 k))
  rw [show (b + 256 * M) / 4 = (b / 4 + 64 * (M % 4)) + 256 * (M / 4) by omega, and256 hb (by decide), and256 (by omega) (by decide)]
  have e : (b / 4 + 64 * (M % 4)) &&& 51 = b / 4 &&& 51 := by
    have h1 := (show ∀ q : Fin 64, ∀ v : Fin 4, (q.1 + 64 * v.1) &&& 51 = q.1 &&& 51 by decide) ⟨b / 4, by omega⟩ ⟨M % 4, by omega⟩
    exact h1
  rw [e, Nat.mul_zero, Nat.add_zero]
  omega
theorem p3_s {k b M : Nat} (hb : b ≤ 68) (hM : M % 16 ≤ 4) : p3 (k + 1) (b + 256 * M) = p3 1 b + 256 * p3 k M := by
  unfold p3
  show ((b + 256 * M) + (b + 256 * M) / 16) &&& (15 + 256 * mz 15 k) = ((b + b / 16) &&& (15 + 256 * 0)) + 256 * ((M + M / 16) &&& mz 15 k)
  rw [show (b + 256 * M) + (b + 256 * M) / 16 = (b + b / 16 + 16 * (M % 16)) + 256 * (M + M / 16) by omega, and256 (by omega) (by decide)]
  have e : (b + b / 16 + 16 * (M % 16)) &&& 15 = (b + b / 16) &&& 15 := by
    have h2 : ∀ n : Nat, n &&& 15 = n % 16 := fun n => Nat.and_two_pow_sub_one_eq_mod n 4
    rw [h2, h2]
    omega
  rw [e, Nat.mul_zero, Nat.add_zero]
/-- the bits of a byte -/
def pb (b : Nat) : Nat := b % 2 + b / 2 % 2 + b / 4 % 2 + b / 8 % 2 + b / 16 % 2 + b / 32 % 2 + b / 64 % 2 + b / 128 % 2
theorem byte_ok : ∀ b : Fin 256, p1 1 b.1 < 256 ∧ p2 1 (p1 1 b.1) ≤ 68 ∧ p2 1 (p1 1 b.1) % 16 ≤ 4 ∧ p3 1 (p2 1 (p1 1 b.1)) = pb b.1 := by decide +kernel
/-- the first k bytes' bits, each in its byte -/
def pbs : Nat → Nat → Nat
  | 0, _ => 0
  | k + 1, N => pb (N % 256) + 256 * pbs k (N / 256)
theorem p321 : ∀ k N, N < 256 ^ k → p2 k (p1 k N) % 16 ≤ 4 ∧ p3 k (p2 k (p1 k N)) = pbs k N
  | 0, N, h => by
    have : N = 0 := by omega
    subst this
    exact ⟨by decide, rfl⟩
  | k + 1, N, h => by
    have hM : N / 256 < 256 ^ k := by rw [Nat.pow_succ] at h; exact (Nat.div_lt_iff_lt_mul (by decide)).mpr h
    obtain ⟨i1, i2⟩ := p321 k (N / 256) hM
    obtain ⟨b1, b2, b3, b4⟩ := byte_ok ⟨N % 256, Nat.mod_lt _ (by decide)⟩
    have e : N = N % 256 + 256 * (N / 256) := by omega
    have e1 : p1 (k + 1) N = p1 1 (N % 256) + 256 * p1 k (N / 256) := by
      have := p1_s (k := k) (b := N % 256) (M := N / 256) (Nat.mod_lt _ (by decide))
      rwa [← e] at this
    rw [e1, p2_s b1]
    refine ⟨by omega, ?_⟩
    rw [p3_s b2 i1, b4, i2]
    rfl
end Pop
section Pop2
variable {x y : Int64}
def tnz (x : Int64) : Nat := x.toBitVec.toNat
def shz (x : Int64) (s : Int32) : Int64 := (x.toUInt64 >>> (s.toInt64.toUInt64 &&& Int64.toUInt64 63)).toInt64
theorem tnz_lt : tnz x < 18446744073709551616 := x.toBitVec.isLt
theorem tnz_and : tnz (x &&& y) = tnz x &&& tnz y := by unfold tnz; rw [Int64.toBitVec_and, BitVec.toNat_and]
theorem tnz_sub (h : tnz y ≤ tnz x) : tnz (x - y) = tnz x - tnz y := by
  have h1 := tnz_lt (x := x)
  unfold tnz at *
  rw [Int64.toBitVec_sub, BitVec.toNat_sub]
  omega
theorem tnz_add (h : tnz x + tnz y < 18446744073709551616) : tnz (x + y) = tnz x + tnz y := by
  unfold tnz at *
  rw [Int64.toBitVec_add, BitVec.toNat_add]
  exact Nat.mod_eq_of_lt h
theorem tnz_shr {s : Int32} {c : Nat} (hs : (s.toInt64.toUInt64 &&& Int64.toUInt64 63).toNat % 64 = c) : tnz (shz x s) = tnz x / 2 ^ c := by
  show (x.toUInt64 >>> (s.toInt64.toUInt64 &&& Int64.toUInt64 63)).toNat = _
  rw [UInt64.toNat_shiftRight, hs, Nat.shiftRight_eq_div_pow]
  rfl
def q1 (x : Int64) : Int64 := x - (shz x 1 &&& 6148914691236517205)
def q2 (x : Int64) : Int64 := (x &&& 3689348814741910323) + (shz x 2 &&& 3689348814741910323)
def q3 (x : Int64) : Int64 := (x + shz x 4) &&& 1085102592571150095
def q4 (x : Int64) : Int64 := x + shz x 8
def q5 (x : Int64) : Int64 := x + shz x 16
def q6 (x : Int64) : Int64 := x + shz x 32
theorem bits_q : jl_bits x = (q6 (q5 (q4 (q3 (q2 (q1 x)))))).toInt32 &&& 127 := rfl
theorem m5 : tnz 6148914691236517205 = mz 85 8 := by decide +kernel
theorem m3 : tnz 3689348814741910323 = mz 51 8 := by decide +kernel
theorem mf : tnz 1085102592571150095 = mz 15 8 := by decide +kernel
theorem q1_t : tnz (q1 x) = p1 8 (tnz x) := by
  unfold q1 p1
  have h : tnz (shz x 1 &&& 6148914691236517205) = (tnz x / 2 &&& mz 85 8) := by rw [tnz_and, tnz_shr (c := 1) (by decide), m5]
  have h2 : tnz x / 2 &&& mz 85 8 ≤ tnz x / 2 := Nat.and_le_left
  rw [tnz_sub (by rw [h]; omega), h]
theorem q2_t : tnz (q2 x) = p2 8 (tnz x) ∧ p2 8 (tnz x) ≤ 7378697629483820646 := by
  unfold q2 p2
  have h1 : tnz (x &&& 3689348814741910323) = (tnz x &&& mz 51 8) := by rw [tnz_and, m3]
  have h2 : tnz (shz x 2 &&& 3689348814741910323) = (tnz x / 4 &&& mz 51 8) := by rw [tnz_and, tnz_shr (c := 2) (by decide), m3]
  have h3 : tnz x &&& mz 51 8 ≤ mz 51 8 := Nat.and_le_right
  have h4 : tnz x / 4 &&& mz 51 8 ≤ mz 51 8 := Nat.and_le_right
  have h5 : mz 51 8 = 3689348814741910323 := by decide +kernel
  rw [h5] at h3 h4
  rw [tnz_add (by rw [h1, h2, h5]; omega), h1, h2, h5]
  exact ⟨rfl, by omega⟩
theorem q3_t (h : tnz x ≤ 7378697629483820646) : tnz (q3 x) = p3 8 (tnz x) := by
  unfold q3 p3
  have h2 : tnz (shz x 4) = tnz x / 16 := tnz_shr (c := 4) (by decide)
  rw [tnz_and, tnz_add (by rw [h2]; omega), h2, mf]
theorem pb_le (b : Nat) : pb b ≤ 8 := by unfold pb; omega
/-- how many bits a number of 64 bits has -/
def pcz (N : Nat) : Nat := pb (N % 256) + (pb (N / 256 % 256) + (pb (N / 256 / 256 % 256) + (pb (N / 256 / 256 / 256 % 256) + (pb (N / 256 / 256 / 256 / 256 % 256) + (pb (N / 256 / 256 / 256 / 256 / 256 % 256) + (pb (N / 256 / 256 / 256 / 256 / 256 / 256 % 256) + pb (N / 256 / 256 / 256 / 256 / 256 / 256 / 256 % 256)))))))
theorem dv1 {y a t : Nat} (h : y = a + 256 * t) (ha : a < 256) : y / 256 = t := by omega
theorem dv2 {z a b t : Nat} (h : z = a + 256 * (b + 256 * t)) (ha : a < 256) (hb : b < 256) : z / 65536 = t := by omega
theorem dv4 {u a b c d t : Nat} (h : u = a + 256 * (b + 256 * (c + 256 * (d + 256 * t)))) (ha : a < 256) (hb : b < 256) (hc : c < 256) (hd : d < 256) : u / 4294967296 = t := by omega
theorem md1 {v s t : Nat} (h : v = s + 256 * t) (hs : s < 128) : v % 128 = s := by omega
theorem add1 {a t b s : Nat} : (a + 256 * t) + (b + 256 * s) = (a + b) + 256 * (t + s) := by omega
theorem fold_ok {y z u v a0 a1 a2 a3 a4 a5 a6 a7 : Nat} (hy : y = a0 + 256 * (a1 + 256 * (a2 + 256 * (a3 + 256 * (a4 + 256 * (a5 + 256 * (a6 + 256 * (a7 + 256 * 0)))))))) (hz : z = y + y / 256) (hu : u = z + z / 65536) (hv : v = u + u / 4294967296) (b0 : a0 ≤ 8) (b1 : a1 ≤ 8) (b2 : a2 ≤ 8) (b3 : a3 ≤ 8) (b4 : a4 ≤ 8) (b5 : a5 ≤ 8) (b6 : a6 ≤ 8) (b7 : a7 ≤ 8) : v % 128 = a0 + (a1 + (a2 + (a3 + (a4 + (a5 + (a6 + a7)))))) := by
  rw [dv1 hy (by omega)] at hz
  have e2 : z = (a0 + a1) + 256 * ((a1 + a2) + 256 * ((a2 + a3) + 256 * ((a3 + a4) + 256 * ((a4 + a5) + 256 * ((a5 + a6) + 256 * ((a6 + a7) + 256 * (a7 + 256 * 0 + 0))))))) := by
    rw [hz, hy, add1, add1, add1, add1, add1, add1, add1]
  clear hy hz
  rw [dv2 e2 (by omega) (by omega)] at hu
  have e5 : u = ((a0 + a1) + (a2 + a3)) + 256 * (((a1 + a2) + (a3 + a4)) + 256 * (((a2 + a3) + (a4 + a5)) + 256 * (((a3 + a4) + (a5 + a6)) + 256 * (((a4 + a5) + (a6 + a7)) + 256 * (((a5 + a6) + (a7 + 256 * 0 + 0)) + 256 * ((a6 + a7) + 256 * (a7 + 256 * 0 + 0))))))) := by
    rw [hu, e2, add1, add1, add1, add1, add1, Nat.add_right_comm (a5 + a6)]
  clear hu e2
  rw [dv4 e5 (by omega) (by omega) (by omega) (by omega)] at hv
  rw [e5, add1] at hv
  rw [md1 hv (by omega)]
  omega
/-- Long.bitCount counts bits -/
theorem bits_eq : jl_bits x = nI (pcz (tnz x)) ∧ pcz (tnz x) ≤ 64 := by
  rw [bits_q]
  have hP : tnz (q3 (q2 (q1 x))) = pbs 8 (tnz x) := by
    rw [q3_t (by rw [q2_t.1]; exact q2_t.2), q2_t.1, q1_t]
    exact (p321 8 (tnz x) (Nat.lt_of_lt_of_le tnz_lt (by decide))).2
  have hz : pbs 8 (tnz x) = pb (tnz x % 256) + 256 * (pb (tnz x / 256 % 256) + 256 * (pb (tnz x / 256 / 256 % 256) + 256 * (pb (tnz x / 256 / 256 / 256 % 256) + 256 * (pb (tnz x / 256 / 256 / 256 / 256 % 256) + 256 * (pb (tnz x / 256 / 256 / 256 / 256 / 256 % 256) + 256 * (pb (tnz x / 256 / 256 / 256 / 256 / 256 / 256 % 256) + 256 * (pb (tnz x / 256 / 256 / 256 / 256 / 256 / 256 / 256 % 256) + 256 * 0))))))) := rfl
  rw [hz] at hP
  unfold pcz
  generalize q3 (q2 (q1 x)) = y at hP
  have b0 := pb_le (tnz x % 256)
  have b1 := pb_le (tnz x / 256 % 256)
  have b2 := pb_le (tnz x / 256 / 256 % 256)
  have b3 := pb_le (tnz x / 256 / 256 / 256 % 256)
  have b4 := pb_le (tnz x / 256 / 256 / 256 / 256 % 256)
  have b5 := pb_le (tnz x / 256 / 256 / 256 / 256 / 256 % 256)
  have b6 := pb_le (tnz x / 256 / 256 / 256 / 256 / 256 / 256 % 256)
  have b7 := pb_le (tnz x / 256 / 256 / 256 / 256 / 256 / 256 / 256 % 256)
  generalize pb (tnz x % 256) = a0 at *
  generalize pb (tnz x / 256 % 256) = a1 at *
  generalize pb (tnz x / 256 / 256 % 256) = a2 at *
  generalize pb (tnz x / 256 / 256 / 256 % 256) = a3 at *
  generalize pb (tnz x / 256 / 256 / 256 / 256 % 256) = a4 at *
  generalize pb (tnz x / 256 / 256 / 256 / 256 / 256 % 256) = a5 at *
  generalize pb (tnz x / 256 / 256 / 256 / 256 / 256 / 256 % 256) = a6 at *
  generalize pb (tnz x / 256 / 256 / 256 / 256 / 256 / 256 / 256 % 256) = a7 at *
  have s8 : tnz (shz y 8) = tnz y / 256 := tnz_shr (c := 8) (by decide)
  have t4 : tnz (q4 y) = tnz y + tnz y / 256 := by unfold q4; rw [tnz_add (by rw [s8]; omega), s8]
  generalize q4 y = z at *
  have s16 : tnz (shz z 16) = tnz z / 65536 := tnz_shr (c := 16) (by decide)
  have t5 : tnz (q5 z) = tnz z + tnz z / 65536 := by unfold q5; rw [tnz_add (by rw [s16]; omega), s16]
  generalize q5 z = u at *
  have s32 : tnz (shz u 32) = tnz u / 4294967296 := tnz_shr (c := 32) (by decide)
  have t6 : tnz (q6 u) = tnz u + tnz u / 4294967296 := by unfold q6; rw [tnz_add (by rw [s32]; omega), s32]
  generalize q6 u = v at *
  refine ⟨?_, by omega⟩
  have hv : tnz v % 128 = a0 + (a1 + (a2 + (a3 + (a4 + (a5 + (a6 + a7)))))) := fold_ok hP t4 t5 t6 b0 b1 b2 b3 b4 b5 b6 b7
  rw [← hv]
  refine Int32.toBitVec_inj.mp (BitVec.eq_of_toNat_eq ?_)
  rw [Int32.toBitVec_and, BitVec.toNat_and]
  have e1 : v.toInt32.toBitVec.toNat = tnz v % 4294967296 := by
    show (v.toBitVec.signExtend 32).toNat = _
    rw [BitVec.signExtend_eq_setWidth_of_le _ (by decide), BitVec.toNat_setWidth]
    rfl
  have e2 : (127 : Int32).toBitVec.toNat = 2 ^ 7 - 1 := rfl
  rw [e1, e2, Nat.and_two_pow_sub_one_eq_mod]
  show _ = (BitVec.ofNat 32 (tnz v % 128)).toNat
  rw [BitVec.toNat_ofNat]
  omega
end Pop2
