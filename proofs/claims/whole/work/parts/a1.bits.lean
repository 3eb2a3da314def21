/-! HOW MANY BITS -/
def LZ (n : Nat) (x : Int32) : Prop := ∃ k, k ≤ 31 ∧ (32 : Int32) - x = nI k ∧ n < 2 ^ k ∧ 2 ^ (k - 1) ≤ n ∧ 0 < k
section Bits
variable {H : mu_H} {m d : Nat}
theorem lz_leaf {c D n q : Nat} {a : Int32} (ha : a = nI (31 - c)) (hc : c < 30 ∨ c = 30 ∧ q / 2 = 0) (hD : D = 2 ^ c) (hq : q = n / D) (h4 : q < 4) (h1 : 1 ≤ q) : LZ n (a - nI (q / 2)) := by
  have hD0 : 0 < D := by rw [hD]; exact Nat.two_pow_pos c
  have hqn : n = D * q + n % D := by rw [hq]; exact (Nat.div_add_mod n D).symm
  have hmod : n % D < D := Nat.mod_lt _ hD0
  by_cases h2 : q < 2
  · have e : q = 1 := by omega
    subst e
    refine ⟨c + 1, by omega, ?_, ?_, ?_, by omega⟩
    · rw [ha]
      exact (show ∀ c, c < 31 → (32 : Int32) - (nI (31 - c) - nI (1 / 2)) = nI (c + 1) by decide) c (by omega)
    · rw [Nat.pow_succ, ← hD]; omega
    · rw [Nat.add_sub_cancel, ← hD]; omega
  · have e : q / 2 = 1 := by omega
    rcases hc with hc | hc
    · refine ⟨c + 2, by omega, ?_, ?_, ?_, by omega⟩
      · rw [ha, e]
        exact (show ∀ c, c < 30 → (32 : Int32) - (nI (31 - c) - nI 1) = nI (c + 2) by decide) c hc
      · have z : D * q ≤ D * 3 := Nat.mul_le_mul_left D (by omega)
        rw [show c + 2 = c + 1 + 1 from rfl, Nat.pow_succ, Nat.pow_succ, ← hD]; omega
      · have z : D * 2 ≤ D * q := Nat.mul_le_mul_left D (by omega)
        rw [show c + 2 - 1 = c + 1 from rfl, Nat.pow_succ, ← hD]; omega
    · omega
theorem shr_nI {n c : Nat} {s : UInt32} (hn : n < 4294967296) (hs : s.toNat % 32 = c) : ((nI n).toUInt32 >>> s).toInt32 = nI (n / 2 ^ c) := by
  have e1 : (nI n).toUInt32 = UInt32.ofNat n := rfl
  have e2 : UInt32.ofNat n >>> s = UInt32.ofNat (n / 2 ^ c) := by
    apply UInt32.toNat_inj.mp
    rw [UInt32.toNat_shiftRight, hs, UInt32.toNat_ofNat', UInt32.toNat_ofNat', Nat.mod_eq_of_lt hn, Nat.shiftRight_eq_div_pow, Nat.mod_eq_of_lt]
    exact Nat.lt_of_le_of_lt (Nat.div_le_self _ _) hn
  rw [e1, e2]
  rfl
theorem lz_nI {n : Nat} (h0 : 0 < n) (hn : n < 2147483648) : LZ n (ji_lz (nI n)) := by
  have s1 : ∀ k, k < 4294967296 → ((nI k).toUInt32 >>> ((1 : Int32).toUInt32 &&& Int32.toUInt32 31)).toInt32 = nI (k / 2) := fun k hk => shr_nI (c := 1) hk (by decide)
  have s2 : ∀ k, k < 4294967296 → ((nI k).toUInt32 >>> ((2 : Int32).toUInt32 &&& Int32.toUInt32 31)).toInt32 = nI (k / 4) := fun k hk => shr_nI (c := 2) hk (by decide)
  have s4 : ∀ k, k < 4294967296 → ((nI k).toUInt32 >>> ((4 : Int32).toUInt32 &&& Int32.toUInt32 31)).toInt32 = nI (k / 16) := fun k hk => shr_nI (c := 4) hk (by decide)
  have s8 : ∀ k, k < 4294967296 → ((nI k).toUInt32 >>> ((8 : Int32).toUInt32 &&& Int32.toUInt32 31)).toInt32 = nI (k / 256) := fun k hk => shr_nI (c := 8) hk (by decide)
  have s16 : ∀ k, k < 4294967296 → ((nI k).toUInt32 >>> ((16 : Int32).toUInt32 &&& Int32.toUInt32 31)).toInt32 = nI (k / 65536) := fun k hk => shr_nI (c := 16) hk (by decide)
  have c4 : ∀ k, k < 2147483648 → ((nI k < (4 : Int32)) = (k < 4)) := fun k hk => propext (nI_ltI (b := 4) hk (by decide))
  have c16 : ∀ k, k < 2147483648 → ((nI k < (16 : Int32)) = (k < 16)) := fun k hk => propext (nI_ltI (b := 16) hk (by decide))
  have c256 : ∀ k, k < 2147483648 → ((nI k < (256 : Int32)) = (k < 256)) := fun k hk => propext (nI_ltI (b := 256) hk (by decide))
  have c65 : ∀ k, k < 2147483648 → ((nI k < (65536 : Int32)) = (k < 65536)) := fun k hk => propext (nI_ltI (b := 65536) hk (by decide))
  unfold ji_lz
  rw [if_pos (show (0 : Int32) < nI n from (nI_ltI (a := 0) (by decide) hn).mpr h0)]
  simp (disch := omega) only [s1, s2, s4, s8, s16, c4, c16, c256, c65]
  split <;> split <;> split <;> split
  all_goals first
    | exact lz_leaf (c := 0) (D := 1) (by decide) (Or.inl (by decide)) (by decide) (by omega) (by omega) (by omega)
    | exact lz_leaf (c := 2) (D := 4) (by decide) (Or.inl (by decide)) (by decide) (by omega) (by omega) (by omega)
    | exact lz_leaf (c := 4) (D := 16) (by decide) (Or.inl (by decide)) (by decide) (by omega) (by omega) (by omega)
    | exact lz_leaf (c := 6) (D := 64) (by decide) (Or.inl (by decide)) (by decide) (by omega) (by omega) (by omega)
    | exact lz_leaf (c := 8) (D := 256) (by decide) (Or.inl (by decide)) (by decide) (by omega) (by omega) (by omega)
    | exact lz_leaf (c := 10) (D := 1024) (by decide) (Or.inl (by decide)) (by decide) (by omega) (by omega) (by omega)
    | exact lz_leaf (c := 12) (D := 4096) (by decide) (Or.inl (by decide)) (by decide) (by omega) (by omega) (by omega)
    | exact lz_leaf (c := 14) (D := 16384) (by decide) (Or.inl (by decide)) (by decide) (by omega) (by omega) (by omega)
    | exact lz_leaf (c := 16) (D := 65536) (by decide) (Or.inl (by decide)) (by decide) (by omega) (by omega) (by omega)
    | exact lz_leaf (c := 18) (D := 262144) (by decide) (Or.inl (by decide)) (by decide) (by omega) (by omega) (by omega)
    | exact lz_leaf (c := 20) (D := 1048576) (by decide) (Or.inl (by decide)) (by decide) (by omega) (by omega) (by omega)
    | exact lz_leaf (c := 22) (D := 4194304) (by decide) (Or.inl (by decide)) (by decide) (by omega) (by omega) (by omega)
    | exact lz_leaf (c := 24) (D := 16777216) (by decide) (Or.inl (by decide)) (by decide) (by omega) (by omega) (by omega)
    | exact lz_leaf (c := 26) (D := 67108864) (by decide) (Or.inl (by decide)) (by decide) (by omega) (by omega) (by omega)
    | exact lz_leaf (c := 28) (D := 268435456) (by decide) (Or.inl (by decide)) (by decide) (by omega) (by omega) (by omega)
    | exact lz_leaf (c := 30) (D := 1073741824) (by decide) (Or.inr ⟨rfl, by omega⟩) (by decide) (by omega) (by omega) (by omega)

theorem lz_neg {x : Int32} (h : ¬ 0 < x) (h0 : ¬ x = 0) : ji_lz x = 0 := by
  unfold ji_lz
  rw [if_neg h, if_neg h0]
def bl (x : Int32) : Nat := ((32 : Int32) - ji_lz (x - 1)).toNatClampNeg
theorem i32_nat {x : Int32} (h : ¬ x < 0) : x = nI x.toNatClampNeg ∧ x.toNatClampNeg < 2147483648 := by
  have h1 : 0 ≤ x.toInt := by
    have : ¬ x.toInt < (0 : Int32).toInt := fun z => h (Int32.lt_iff_toInt_lt.mpr z)
    have e : (0 : Int32).toInt = 0 := by decide
    omega
  have h2 := Int32.toInt_lt x
  have e : x.toNatClampNeg = x.toInt.toNat := rfl
  refine ⟨Int32.toInt_inj.mp ?_, by omega⟩
  rw [show (nI x.toNatClampNeg).toInt = (x.toNatClampNeg : Int) from Int32.toInt_ofNat_of_lt (by omega)]
  omega
theorem bl_ok (x : Int32) : (32 : Int32) - ji_lz (x - 1) = nI (bl x) ∧ bl x ≤ 32 ∧ (bl x < 32 → ∃ n, 1 ≤ n ∧ x = nI n ∧ n ≤ 2 ^ bl x ∧ n ≤ 2147483648 ∧ (0 < bl x → 2 ^ (bl x - 1) < n)) := by
  have hx : ∀ {k : Nat}, (32 : Int32) - ji_lz (x - 1) = nI k → k ≤ 32 → bl x = k := fun e hk => by unfold bl; rw [e]; exact nI_clamp (by omega)
  by_cases h0 : x - 1 = 0
  · have e : (32 : Int32) - ji_lz (x - 1) = nI 0 := by rw [h0]; decide
    rw [hx e (by omega)]
    refine ⟨e, by omega, fun _ => ⟨1, by omega, ?_, by decide, by omega, fun z => absurd z (by decide)⟩⟩
    have : x - 1 + 1 = 0 + 1 := by rw [h0]
    rw [Int32.sub_add_cancel] at this
    rw [this]; rfl
  · by_cases h1 : x - 1 < 0
    · have e : (32 : Int32) - ji_lz (x - 1) = nI 32 := by
        rw [lz_neg (fun z => by
          have a := Int32.lt_iff_toInt_lt.mp z
          have b := Int32.lt_iff_toInt_lt.mp h1
          omega) h0]
        decide
      rw [hx e (by omega)]
      exact ⟨e, by omega, fun z => absurd z (by omega)⟩
    · obtain ⟨a, b⟩ := i32_nat h1
      obtain ⟨t, ht⟩ : ∃ t, t = (x - 1).toNatClampNeg := ⟨_, rfl⟩
      rw [← ht] at a b
      have h3 : 0 < t := by
        rcases Nat.eq_zero_or_pos t with z | z
        · rw [z] at a; exact absurd a h0
        · exact z
      obtain ⟨k, k1, k2, k3, k4, k5⟩ := lz_nI h3 b
      rw [← a] at k2
      rw [hx k2 (by omega)]
      refine ⟨k2, by omega, fun _ => ⟨t + 1, by omega, ?_, by omega, by omega, fun _ => by omega⟩⟩
      have : x - 1 + 1 = nI t + 1 := by rw [a]
      rw [Int32.sub_add_cancel] at this
      rw [this]
      exact nI_1 t
/-- the BITS of a VARIABLE -/
def bz (X : Ts) (v : Nat) : Nat := bl ((X 15).2 v 1)
theorem md_bits2 (h : dm m H) : mu_TI (mu_D (d + 2)) 131 [.inr (.inr (some m))] H (fun x H1 => H = H1 ∧ x = nI (sm (bz (ak m H)) 0 (ak m H 15).1)) := by
  have b15 := h.lt rfl (j := 15) (by decide)
  refine mu_meth (M := mu_m131) rfl rfl ?_
  refine mw_ht (mu_fn_of (show [0].Nodup by decide)) ?_
  refine mw_go mu_g131 (k := 4) (f1 := (4, [(2, .inl (0 : Int32)), (1, .inl (0 : Int32)), (0, .inr (.inr (some m)))], [], H)) (C := []) rfl trivial ?_
  show mu_W _ _ (4, [(2, .inl (nI 0)), (1, .inl (nI 0)), (0, .inr (.inr (some m)))], [], H) _
  refine mw_sub (L' := [(1, .inl (nI 0)), (2, .inl (nI 0)), (0, .inr (.inr (some m)))]) (by simp) ?_
  refine mw_down (α := Nat × Nat) (fun zs => (4, [(1, .inl (nI zs.1)), (2, .inl (nI zs.2)), (0, .inr (.inr (some m)))], [], H)) (fun zs => ((ak m H) 15).1 - zs.2) (fun zs => (zs.1 = sm (bz (ak m H)) 0 zs.2) ∧ (zs.2 ≤ ((ak m H) 15).1)) (fun zs hs ih => ?_) (0, 0) ⟨(show 0 = sm (bz (ak m H)) 0 0 from rfl), (show 0 ≤ ((ak m H) 15).1 from Nat.zero_le _)⟩
  obtain ⟨t, v⟩ := zs
  obtain ⟨ht, hv⟩ := hs
  have ht : t = sm (bz (ak m H)) 0 v := ht
  have hv : v ≤ ((ak m H) 15).1 := hv
  show mu_W _ _ (4, [(1, .inl (nI t)), (2, .inl (nI v)), (0, .inr (.inr (some m)))], [], H) _
  refine mw_go mu_g131 (k := 3) (f1 := (9, [(1, .inl (nI t)), (2, .inl (nI v)), (0, .inr (.inr (some m)))], [.inr (.inr (mu_r H m 15)), .inl (nI v)], H)) (C := [mu_is H (some m) 6]) rfl (show mu_is H (some m) 6 from (show mu_is H (some m) 6 from gi_im h.1 h.2.1)) ?_
  rw [(show mu_r H m 15 = some (m + 31) from (gi_mr h.1 h.2.1 (j := 15) (by decide)).trans (congrArg some (by omega)))]
  refine mw_go mu_g131 (k := 1) (f1 := (12, [(1, .inl (nI t)), (2, .inl (nI v)), (0, .inr (.inr (some m)))], [.inl (mu_i H (m + 31) 2), .inl (nI v)], H)) (C := [mu_is H (some (m + 31)) 10]) rfl (show mu_is H (some (m + 31)) 10 from (h.1.w (md_w15 h.2.1)).1) ?_
  rw [(show mu_i H (m + 31) 2 = nI ((ak m H) 15).1 from h.size rfl (j := 15) (by decide))]
  refine mw_if (P := (nI v) < (nI ((ak m H) 15).1)) (a := 15) (b := 41) (fun _ => rfl) trivial (fun h1 => ?_) (fun h1 => ?_)
  · -- 15: (nI v) < (nI ((ak m H) 15).1)
    have hvN : v < ((ak m H) 15).1 := (nI_ltI (by omega) (by omega)).mp h1
    refine mw_go mu_g131 (k := 4) (f1 := (22, [(1, .inl (nI t)), (2, .inl (nI v)), (0, .inr (.inr (some m)))], [.inr (.inr (mu_r H m 15)), .inl (32 : Int32), .inl (nI t)], H)) (C := [mu_is H (some m) 6]) rfl (show mu_is H (some m) 6 from (show mu_is H (some m) 6 from gi_im h.1 h.2.1)) ?_
    rw [(show mu_r H m 15 = some (m + 31) from (gi_mr h.1 h.2.1 (j := 15) (by decide)).trans (congrArg some (by omega)))]
    refine mw_go mu_g131 (k := 2) (f1 := (24, [(1, .inl (nI t)), (2, .inl (nI v)), (0, .inr (.inr (some m)))], [.inl (1 : Int32), .inl (nI v), .inr (.inr (some (m + 31))), .inl (32 : Int32), .inl (nI t)], H)) (C := []) rfl trivial ?_
    refine mw_cIe (fun _ => rfl) (show mu_is H (some (m + 31)) 10 from (h.1.w (md_w15 h.2.1)).1) (dm.getr (d := d) h rfl (j := 15) (by decide) rfl (nI v) (c := 1) (by decide)) ?_
    rw [show (tget ((ak m H) 15) (nI v) 1) = (((ak m H) 15).2 v 1) from tget_nI (by omega)]
    refine mw_go mu_g131 (k := 2) (f1 := (29, [(1, .inl (nI t)), (2, .inl (nI v)), (0, .inr (.inr (some m)))], [.inl ((((ak m H) 15).2 v 1) - (1 : Int32)), .inl (32 : Int32), .inl (nI t)], H)) (C := []) rfl trivial ?_
    refine mw_cIe (fun _ => rfl) trivial (ji_lz_ok (d := d) ((((ak m H) 15).2 v 1) - (1 : Int32))) ?_
    refine mw_go mu_g131 (k := 2) (f1 := (34, [(1, .inl (nI t)), (2, .inl (nI v)), (0, .inr (.inr (some m)))], [.inl ((nI t) + ((32 : Int32) - (ji_lz ((((ak m H) 15).2 v 1) - (1 : Int32)))))], H)) (C := []) rfl trivial ?_
    rw [show ((nI t) + ((32 : Int32) - (ji_lz ((((ak m H) 15).2 v 1) - (1 : Int32))))) = nI (t + bz (ak m H) v) from by rw [(bl_ok (((ak m H) 15).2 v 1)).1]; exact nI_add t _]
    obtain ⟨tt, htt⟩ : ∃ tt, tt = t + bz (ak m H) v := ⟨_, rfl⟩
    rw [← htt]
    refine mw_go mu_g131 (k := 3) (f1 := (4, [(2, .inl ((nI v) + 1)), (1, .inl (nI tt)), (0, .inr (.inr (some m)))], [], H)) (C := []) rfl trivial ?_
    rw [nI_1 v]
    exact mw_sub (by simp) (ih (tt, v + 1) ⟨(show tt = sm (bz (ak m H)) 0 (v + 1) from (by rw [htt, ht]; exact congrArg (fun z => sm (bz (ak m H)) 0 v + bz (ak m H) z) (Nat.zero_add v).symm)), (show (v + 1) ≤ ((ak m H) 15).1 from by omega)⟩ (by show ((ak m H) 15).1 - (v + 1) < ((ak m H) 15).1 - v; omega))
  · -- 41: not (nI v) < (nI ((ak m H) 15).1)
    have hvN : v = ((ak m H) 15).1 := Nat.le_antisymm hv (Nat.le_of_not_lt (fun z => h1 ((nI_ltI (by omega) (by omega)).mpr z)))
    refine mw_go mu_g131 (k := 1) (f1 := (42, [(1, .inl (nI t)), (2, .inl (nI v)), (0, .inr (.inr (some m)))], [.inl (nI t)], H)) (C := []) rfl trivial ?_
    exact mw_of (fun _ => mu_ret rfl trivial ⟨_, _, rfl, rfl, by rw [ht, hvN]⟩)
end Bits
