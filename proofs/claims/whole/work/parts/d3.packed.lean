/-! PACKED LONGS AS THEY ARE WRITTEN -/
theorem shl_bv {x : Int64} {k : Nat} (hk : k < 64) : (x <<< ((nI k).toInt64 &&& 63)).toBitVec = x.toBitVec <<< k := by
  have key : ∀ k : Fin 64, (((nI k.1).toInt64 &&& 63).toBitVec.smod 64) = BitVec.ofNat 64 k.1 := by decide +kernel
  show x.toBitVec <<< (((nI k).toInt64 &&& 63).toBitVec.smod 64) = _
  rw [key ⟨k, hk⟩]
  show x.toBitVec <<< (BitVec.ofNat 64 k).toNat = _
  rw [BitVec.toNat_ofNat, Nat.mod_eq_of_lt (by omega)]
theorem shl_val {x : Int64} {k : Nat} (hk : k < 64) (hx : tnz x * 2 ^ k < 2 ^ 64) : tnz (x <<< ((nI k).toInt64 &&& 63)) = tnz x * 2 ^ k := by
  unfold tnz at hx ⊢
  rw [shl_bv hk, BitVec.toNat_shiftLeft, Nat.shiftLeft_eq, Nat.mod_eq_of_lt hx]
theorem or_shl {w x : Int64} {k : Nat} (hk : k < 64) (hw : tnz w < 2 ^ k) (hx : tnz x * 2 ^ k < 2 ^ 64) : tnz (w ||| (x <<< ((nI k).toInt64 &&& 63))) = tnz w + tnz x * 2 ^ k := by
  have e := shl_val hk hx
  unfold tnz at e hw hx ⊢
  rw [Int64.toBitVec_or, BitVec.toNat_or, e, Nat.or_comm, ← Nat.shiftLeft_eq, ← Nat.shiftLeft_add_eq_or_of_lt hw, Nat.add_comm]
theorem i2l_val {n : Nat} (hn : n < 2147483648) : tnz (nI n).toInt64 = n := by
  unfold tnz
  have h1 : (nI n).toInt64.toInt = (n : Int) := by
    rw [Int32.toInt_toInt64]
    exact Int32.toInt_ofNat_of_lt (by omega)
  have h2 : (nI n).toInt64.toBitVec.toInt = (n : Int) := h1
  rw [BitVec.toInt_eq_toNat_bmod] at h2
  have h3 := (nI n).toInt64.toBitVec.isLt
  rw [Int.bmod_def] at h2
  split at h2 <;> omega
/-- bits below a shift stay -/
theorem or_low {x y : Int64} {s : Nat} (hs : s < 64) : tnz (x ||| (y <<< ((nI s).toInt64 &&& 63))) % 2 ^ s = tnz x % 2 ^ s := by
  unfold tnz
  rw [Int64.toBitVec_or, BitVec.toNat_or, shl_bv hs, BitVec.toNat_shiftLeft, Nat.or_mod_two_pow, Nat.shiftLeft_eq]
  have h1 : y.toBitVec.toNat * 2 ^ s % 2 ^ 64 % 2 ^ s = 0 := by
    rw [Nat.mod_mod_of_dvd _ (Nat.pow_dvd_pow 2 (by omega))]
    exact Nat.mul_mod_left _ _
  rw [h1, Nat.or_zero]
/-- the first long of a set: size, form, words -/
theorem hd_val {n f l : Nat} (hn : n < 32768) (hf : f < 4) (hl : l < 512) : tnz (((nI n).toInt64 ||| ((nI f).toInt64 <<< ((15 : Int32).toInt64 &&& 63))) ||| ((nI l).toInt64 <<< ((17 : Int32).toInt64 &&& 63))) = n + f * 32768 + l * 131072 := by
  have e1 := i2l_val (n := n) (by omega)
  have e2 := i2l_val (n := f) (by omega)
  have e3 := i2l_val (n := l) (by omega)
  have k1 : tnz ((nI n).toInt64 ||| ((nI f).toInt64 <<< ((15 : Int32).toInt64 &&& 63))) = n + f * 32768 := by
    have := or_shl (w := (nI n).toInt64) (x := (nI f).toInt64) (k := 15) (by decide) (by rw [e1]; exact hn) (by rw [e2]; omega)
    rw [e1, e2] at this
    exact this
  have := or_shl (w := ((nI n).toInt64 ||| ((nI f).toInt64 <<< ((15 : Int32).toInt64 &&& 63)))) (x := (nI l).toInt64) (k := 17) (by decide) (by rw [k1]; show n + f * 32768 < 131072; omega) (by rw [e3]; omega)
  rw [k1, e3] at this
  exact this
theorem hd_same {t u : Nat} (h : t % 67108864 = u % 67108864) : t % 32768 = u % 32768 ∧ t / 32768 % 4 = u / 32768 % 4 ∧ t / 131072 % 512 = u / 131072 % 512 := by omega
theorem hd_fields {n f l : Nat} (hn : n < 32768) (hf : f < 4) (hl : l < 512) : (n + f * 32768 + l * 131072) % 32768 = n ∧ (n + f * 32768 + l * 131072) / 32768 % 4 = f ∧ (n + f * 32768 + l * 131072) / 131072 % 512 = l := by omega
