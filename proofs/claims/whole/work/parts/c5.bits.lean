/-! BITS OF LONGS -/
def btz (x : Int64) (b : Nat) : Bool := x.toBitVec.getLsbD b
section Bits
variable {x y : Int64} {b k : Nat}
theorem btz_or : btz (x ||| y) b = (btz x b || btz y b) := by unfold btz; rw [Int64.toBitVec_or, BitVec.getLsbD_or]
theorem btz_and : btz (x &&& y) b = (btz x b && btz y b) := by unfold btz; rw [Int64.toBitVec_and, BitVec.getLsbD_and]
theorem btz_0 : btz 0 b = false := by
  unfold btz
  show (0#64).getLsbD b = false
  exact BitVec.getLsbD_zero
theorem btz_ext (h : ∀ b, b < 64 → btz x b = btz y b) : x = y := by
  refine Int64.toBitVec_inj.mp ?_
  exact BitVec.eq_of_getLsbD_eq (fun i hi => h i hi)
theorem btz_ge (h : 64 ≤ b) : btz x b = false := BitVec.getLsbD_of_ge _ _ h
theorem sh_nat (hk : k < 2147483648) : ((nI k).toInt64 &&& 63).toBitVec.toNat = k % 64 := by
  have h1 : (nI k).toInt64.toInt = (k : Int) := by rw [Int32.toInt_toInt64, nI_toInt hk]
  have h2 : (nI k).toInt64.toBitVec.toNat = k := by
    have : (nI k).toInt64.toBitVec.toInt = (k : Int) := h1
    rw [BitVec.toInt_eq_toNat_cond] at this
    split at this <;> omega
  rw [Int64.toBitVec_and, BitVec.toNat_and, h2]
  exact Nat.and_two_pow_sub_one_eq_mod k 6
theorem btz_shl (hk : k < 2147483648) (hb : b < 64) : btz (x <<< ((nI k).toInt64 &&& 63)) b = (decide (k % 64 ≤ b) && btz x (b - k % 64)) := by
  have h1 := sh_nat hk
  have h2 : k % 64 < 64 := Nat.mod_lt _ (by decide)
  have h3 : (((nI k).toInt64 &&& 63).toBitVec.smod 64).toNat = k % 64 := by
    have e : ((nI k).toInt64 &&& 63).toBitVec = BitVec.ofNat 64 (k % 64) := BitVec.eq_of_toNat_eq (by rw [h1, BitVec.toNat_ofNat]; omega)
    rw [e]
    exact (show ∀ q : Fin 64, ((BitVec.ofNat 64 q.1).smod 64).toNat = q.1 by decide) ⟨k % 64, h2⟩
  unfold btz
  rw [Int64.toBitVec_shiftLeft, BitVec.shiftLeft_eq', BitVec.getLsbD_shiftLeft, h3]
  rw [decide_eq_true hb, Bool.true_and]
  by_cases e : b < k % 64
  · rw [decide_eq_true e, decide_eq_false (by omega)]; rfl
  · rw [decide_eq_false e, decide_eq_true (by omega)]; rfl
theorem btz_1 : btz 1 b = decide (b = 0) := by
  unfold btz
  show (1#64).getLsbD b = _
  rw [BitVec.getLsbD_one]
  by_cases e : b = 0
  · subst e; rfl
  · rw [decide_eq_false e]; simp
/-- a bit is asked for as has does -/
theorem btz_ask (hk : k < 2147483648) : ((x.toUInt64 >>> ((nI k).toInt64.toUInt64 &&& Int64.toUInt64 63)).toInt64 &&& 1) = if btz x (k % 64) = true then 1 else 0 := by
  have h1 := sh_nat hk
  have h2 : k % 64 < 64 := Nat.mod_lt _ (by decide)
  have e1 : ((nI k).toInt64.toUInt64 &&& Int64.toUInt64 63).toNat % 64 = k % 64 := by
    have : ((nI k).toInt64.toUInt64 &&& Int64.toUInt64 63).toNat = k % 64 := h1
    rw [this]; omega
  have hb : ∀ b, btz (x.toUInt64 >>> ((nI k).toInt64.toUInt64 &&& Int64.toUInt64 63)).toInt64 b = btz x (k % 64 + b) := fun b => by
    unfold btz
    show ((x.toUInt64 >>> ((nI k).toInt64.toUInt64 &&& Int64.toUInt64 63)).toBitVec).getLsbD b = _
    have e3 : (x.toUInt64 >>> ((nI k).toInt64.toUInt64 &&& Int64.toUInt64 63)).toBitVec = x.toBitVec >>> (k % 64) := by
      refine BitVec.eq_of_toNat_eq ?_
      rw [BitVec.toNat_ushiftRight]
      show (x.toUInt64 >>> ((nI k).toInt64.toUInt64 &&& Int64.toUInt64 63)).toNat = _
      rw [UInt64.toNat_shiftRight, e1]
      rfl
    rw [e3, BitVec.getLsbD_ushiftRight]
  refine btz_ext (fun b hb2 => ?_)
  rw [btz_and, hb, btz_1]
  by_cases e : b = 0
  · subst e
    rw [Nat.add_zero, decide_eq_true rfl, Bool.and_true]
    cases hh : btz x (k % 64)
    · rw [if_neg (by decide), btz_0]
    · rw [if_pos rfl, btz_1]; rfl
  · rw [decide_eq_false e, Bool.and_false]
    cases hh : btz x (k % 64)
    · rw [if_neg (by decide), btz_0]
    · rw [if_pos rfl, btz_1, decide_eq_false e]
end Bits
section Has
variable {H : mu_H} {m d k : Nat} {U : Ud}
theorem lg_ne {x : Int64} : lg_cmp x 0 = 0 ↔ x = 0 := by
  unfold lg_cmp
  by_cases h : x = 0
  · subst h; decide
  · constructor
    · intro z
      split at z <;> first | assumption | exact absurd z (by decide) | (split at z <;> first | assumption | exact absurd z (by decide))
    · intro z; exact absurd z h
/-- PathProver.has([JI)Z -/
abbrev mu_m377 : ev_M := (2, (some .boolean), [], ev_b377)
theorem mu_g377 : mu_good mu_m377 := mu_goodk ev_k377
theorem pv_has_124 (h : um m H) (e : ud m H = U) (hk : k < 16384) : mu_TI (mu_D (d + 1)) 377 [.inr (.inr (some 124)), .inl (nI k)] H (fun x H1 => x = (if btz (U.2.2.2.2.1 124 (k / 64)) (k % 64) = true then 1 else 0) ∧ H1 = H) := by
  refine mu_meth (M := mu_m377) rfl rfl ?_
  refine mw_ht (mu_fn_of (show [0, 1].Nodup by decide)) ?_
  refine mw_go mu_g377 (k := 4) (f1 := (5, [(0, .inr (.inr (some 124))), (1, .inl (nI k))], [.inl ((nI k) >>> ((6 : Int32) &&& 31)), .inr (.inr (some 124))], H)) (C := []) rfl trivial ?_
  rw [(show ((nI k) >>> ((6 : Int32) &&& 31)) = (nI (k / 64)) from (nI_shr6 (a := k) (by omega)))]
  refine mw_go mu_g377 (k := 1) (f1 := (6, [(0, .inr (.inr (some 124))), (1, .inl (nI k))], [.inr (.inl (mu_l H 124 (nI (k / 64)).toNatClampNeg))], H)) (C := [mu_isr H (some 124) 102, vp_in (nI (k / 64)) (mu_n H 124)]) rfl (show (mu_isr H (some 124) 102) ∧ (vp_in (nI (k / 64)) (mu_n H 124)) from ⟨((h.1.1.a (p := 124) (x := (102, 256)) rfl).1).r, (by rw [show mu_n H 124 = 256 from (h.1.1.a (p := 124) (x := (102, 256)) rfl).2]; exact vp_in_nI (n := k / 64) (by omega) (by decide))⟩) ?_
  rw [(show (mu_l H 124 (nI (k / 64)).toNatClampNeg) = (U.2.2.2.2.1 124) (k / 64) from (congrArg (mu_l H 124) (show (nI (k / 64)).toNatClampNeg = k / 64 from nI_clamp (by omega))).trans ((ud_l (m := m) (p := 124) (i := (k / 64)) e rfl).trans (congrFun (show U.2.2.2.2.1 124 = (U.2.2.2.2.1 124) from rfl) (k / 64))))]
  refine mw_go mu_g377 (k := 6) (f1 := (12, [(0, .inr (.inr (some 124))), (1, .inl (nI k))], [.inl (lg_cmp (((((U.2.2.2.2.1 124) (k / 64)).toUInt64 >>> ((nI k).toInt64.toUInt64 &&& Int64.toUInt64 63)).toInt64) &&& (1 : Int64)) (0 : Int64))], H)) (C := []) rfl trivial ?_
  refine mw_if (P := (lg_cmp (((((U.2.2.2.2.1 124) (k / 64)).toUInt64 >>> ((nI k).toInt64.toUInt64 &&& Int64.toUInt64 63)).toInt64) &&& (1 : Int64)) (0 : Int64)) = 0) (a := 19) (b := 15) (fun _ => rfl) trivial (fun h1 => ?_) (fun h1 => ?_)
  · -- 19: (lg_cmp (((((U.2.2.2.2.1 124) (k / 64)).toUInt64 >>> ((nI k).toInt64.toUInt64 &&& Int64.toUInt64 63)).toInt64) &&& (1 : Int64)) (0 : Int64)) = 0
    refine mw_go mu_g377 (k := 1) (f1 := (20, [(0, .inr (.inr (some 124))), (1, .inl (nI k))], [.inl (0 : Int32)], H)) (C := []) rfl trivial ?_
    exact mw_of (fun _ => mu_ret rfl (Or.inl rfl) ⟨_, _, rfl, (by have z := lg_ne.mp h1; rw [btz_ask (by omega)] at z; by_cases hb : btz (U.2.2.2.2.1 124 (k / 64)) (k % 64) = true; rw [if_pos hb] at z; exact absurd z (by decide); rw [if_neg hb]), rfl⟩)
  · -- 15: not (lg_cmp (((((U.2.2.2.2.1 124) (k / 64)).toUInt64 >>> ((nI k).toInt64.toUInt64 &&& Int64.toUInt64 63)).toInt64) &&& (1 : Int64)) (0 : Int64)) = 0
    refine mw_go mu_g377 (k := 2) (f1 := (20, [(0, .inr (.inr (some 124))), (1, .inl (nI k))], [.inl (1 : Int32)], H)) (C := []) rfl trivial ?_
    exact mw_of (fun _ => mu_ret rfl (Or.inr rfl) ⟨_, _, rfl, (by by_cases hb : btz (U.2.2.2.2.1 124 (k / 64)) (k % 64) = true; rw [if_pos hb]; exact absurd (lg_ne.mpr (by rw [btz_ask (by omega), if_neg hb])) h1), rfl⟩)
theorem pv_has_125 (h : um m H) (e : ud m H = U) (hk : k < 16384) : mu_TI (mu_D (d + 1)) 377 [.inr (.inr (some 125)), .inl (nI k)] H (fun x H1 => x = (if btz (U.2.2.2.2.1 125 (k / 64)) (k % 64) = true then 1 else 0) ∧ H1 = H) := by
  refine mu_meth (M := mu_m377) rfl rfl ?_
  refine mw_ht (mu_fn_of (show [0, 1].Nodup by decide)) ?_
  refine mw_go mu_g377 (k := 4) (f1 := (5, [(0, .inr (.inr (some 125))), (1, .inl (nI k))], [.inl ((nI k) >>> ((6 : Int32) &&& 31)), .inr (.inr (some 125))], H)) (C := []) rfl trivial ?_
  rw [(show ((nI k) >>> ((6 : Int32) &&& 31)) = (nI (k / 64)) from (nI_shr6 (a := k) (by omega)))]
  refine mw_go mu_g377 (k := 1) (f1 := (6, [(0, .inr (.inr (some 125))), (1, .inl (nI k))], [.inr (.inl (mu_l H 125 (nI (k / 64)).toNatClampNeg))], H)) (C := [mu_isr H (some 125) 102, vp_in (nI (k / 64)) (mu_n H 125)]) rfl (show (mu_isr H (some 125) 102) ∧ (vp_in (nI (k / 64)) (mu_n H 125)) from ⟨((h.1.1.a (p := 125) (x := (102, 256)) rfl).1).r, (by rw [show mu_n H 125 = 256 from (h.1.1.a (p := 125) (x := (102, 256)) rfl).2]; exact vp_in_nI (n := k / 64) (by omega) (by decide))⟩) ?_
  rw [(show (mu_l H 125 (nI (k / 64)).toNatClampNeg) = (U.2.2.2.2.1 125) (k / 64) from (congrArg (mu_l H 125) (show (nI (k / 64)).toNatClampNeg = k / 64 from nI_clamp (by omega))).trans ((ud_l (m := m) (p := 125) (i := (k / 64)) e rfl).trans (congrFun (show U.2.2.2.2.1 125 = (U.2.2.2.2.1 125) from rfl) (k / 64))))]
  refine mw_go mu_g377 (k := 6) (f1 := (12, [(0, .inr (.inr (some 125))), (1, .inl (nI k))], [.inl (lg_cmp (((((U.2.2.2.2.1 125) (k / 64)).toUInt64 >>> ((nI k).toInt64.toUInt64 &&& Int64.toUInt64 63)).toInt64) &&& (1 : Int64)) (0 : Int64))], H)) (C := []) rfl trivial ?_
  refine mw_if (P := (lg_cmp (((((U.2.2.2.2.1 125) (k / 64)).toUInt64 >>> ((nI k).toInt64.toUInt64 &&& Int64.toUInt64 63)).toInt64) &&& (1 : Int64)) (0 : Int64)) = 0) (a := 19) (b := 15) (fun _ => rfl) trivial (fun h1 => ?_) (fun h1 => ?_)
  · -- 19: (lg_cmp (((((U.2.2.2.2.1 125) (k / 64)).toUInt64 >>> ((nI k).toInt64.toUInt64 &&& Int64.toUInt64 63)).toInt64) &&& (1 : Int64)) (0 : Int64)) = 0
    refine mw_go mu_g377 (k := 1) (f1 := (20, [(0, .inr (.inr (some 125))), (1, .inl (nI k))], [.inl (0 : Int32)], H)) (C := []) rfl trivial ?_
    exact mw_of (fun _ => mu_ret rfl (Or.inl rfl) ⟨_, _, rfl, (by have z := lg_ne.mp h1; rw [btz_ask (by omega)] at z; by_cases hb : btz (U.2.2.2.2.1 125 (k / 64)) (k % 64) = true; rw [if_pos hb] at z; exact absurd z (by decide); rw [if_neg hb]), rfl⟩)
  · -- 15: not (lg_cmp (((((U.2.2.2.2.1 125) (k / 64)).toUInt64 >>> ((nI k).toInt64.toUInt64 &&& Int64.toUInt64 63)).toInt64) &&& (1 : Int64)) (0 : Int64)) = 0
    refine mw_go mu_g377 (k := 2) (f1 := (20, [(0, .inr (.inr (some 125))), (1, .inl (nI k))], [.inl (1 : Int32)], H)) (C := []) rfl trivial ?_
    exact mw_of (fun _ => mu_ret rfl (Or.inr rfl) ⟨_, _, rfl, (by by_cases hb : btz (U.2.2.2.2.1 125 (k / 64)) (k % 64) = true; rw [if_pos hb]; exact absurd (lg_ne.mpr (by rw [btz_ask (by omega), if_neg hb])) h1), rfl⟩)
theorem pv_has_126 (h : um m H) (e : ud m H = U) (hk : k < 16384) : mu_TI (mu_D (d + 1)) 377 [.inr (.inr (some 126)), .inl (nI k)] H (fun x H1 => x = (if btz (U.2.2.2.2.1 126 (k / 64)) (k % 64) = true then 1 else 0) ∧ H1 = H) := by
  refine mu_meth (M := mu_m377) rfl rfl ?_
  refine mw_ht (mu_fn_of (show [0, 1].Nodup by decide)) ?_
  refine mw_go mu_g377 (k := 4) (f1 := (5, [(0, .inr (.inr (some 126))), (1, .inl (nI k))], [.inl ((nI k) >>> ((6 : Int32) &&& 31)), .inr (.inr (some 126))], H)) (C := []) rfl trivial ?_
  rw [(show ((nI k) >>> ((6 : Int32) &&& 31)) = (nI (k / 64)) from (nI_shr6 (a := k) (by omega)))]
  refine mw_go mu_g377 (k := 1) (f1 := (6, [(0, .inr (.inr (some 126))), (1, .inl (nI k))], [.inr (.inl (mu_l H 126 (nI (k / 64)).toNatClampNeg))], H)) (C := [mu_isr H (some 126) 102, vp_in (nI (k / 64)) (mu_n H 126)]) rfl (show (mu_isr H (some 126) 102) ∧ (vp_in (nI (k / 64)) (mu_n H 126)) from ⟨((h.1.1.a (p := 126) (x := (102, 256)) rfl).1).r, (by rw [show mu_n H 126 = 256 from (h.1.1.a (p := 126) (x := (102, 256)) rfl).2]; exact vp_in_nI (n := k / 64) (by omega) (by decide))⟩) ?_
  rw [(show (mu_l H 126 (nI (k / 64)).toNatClampNeg) = (U.2.2.2.2.1 126) (k / 64) from (congrArg (mu_l H 126) (show (nI (k / 64)).toNatClampNeg = k / 64 from nI_clamp (by omega))).trans ((ud_l (m := m) (p := 126) (i := (k / 64)) e rfl).trans (congrFun (show U.2.2.2.2.1 126 = (U.2.2.2.2.1 126) from rfl) (k / 64))))]
  refine mw_go mu_g377 (k := 6) (f1 := (12, [(0, .inr (.inr (some 126))), (1, .inl (nI k))], [.inl (lg_cmp (((((U.2.2.2.2.1 126) (k / 64)).toUInt64 >>> ((nI k).toInt64.toUInt64 &&& Int64.toUInt64 63)).toInt64) &&& (1 : Int64)) (0 : Int64))], H)) (C := []) rfl trivial ?_
  refine mw_if (P := (lg_cmp (((((U.2.2.2.2.1 126) (k / 64)).toUInt64 >>> ((nI k).toInt64.toUInt64 &&& Int64.toUInt64 63)).toInt64) &&& (1 : Int64)) (0 : Int64)) = 0) (a := 19) (b := 15) (fun _ => rfl) trivial (fun h1 => ?_) (fun h1 => ?_)
  · -- 19: (lg_cmp (((((U.2.2.2.2.1 126) (k / 64)).toUInt64 >>> ((nI k).toInt64.toUInt64 &&& Int64.toUInt64 63)).toInt64) &&& (1 : Int64)) (0 : Int64)) = 0
    refine mw_go mu_g377 (k := 1) (f1 := (20, [(0, .inr (.inr (some 126))), (1, .inl (nI k))], [.inl (0 : Int32)], H)) (C := []) rfl trivial ?_
    exact mw_of (fun _ => mu_ret rfl (Or.inl rfl) ⟨_, _, rfl, (by have z := lg_ne.mp h1; rw [btz_ask (by omega)] at z; by_cases hb : btz (U.2.2.2.2.1 126 (k / 64)) (k % 64) = true; rw [if_pos hb] at z; exact absurd z (by decide); rw [if_neg hb]), rfl⟩)
  · -- 15: not (lg_cmp (((((U.2.2.2.2.1 126) (k / 64)).toUInt64 >>> ((nI k).toInt64.toUInt64 &&& Int64.toUInt64 63)).toInt64) &&& (1 : Int64)) (0 : Int64)) = 0
    refine mw_go mu_g377 (k := 2) (f1 := (20, [(0, .inr (.inr (some 126))), (1, .inl (nI k))], [.inl (1 : Int32)], H)) (C := []) rfl trivial ?_
    exact mw_of (fun _ => mu_ret rfl (Or.inr rfl) ⟨_, _, rfl, (by by_cases hb : btz (U.2.2.2.2.1 126 (k / 64)) (k % 64) = true; rw [if_pos hb]; exact absurd (lg_ne.mpr (by rw [btz_ask (by omega), if_neg hb])) h1), rfl⟩)
theorem pv_has_145 (h : um m H) (e : ud m H = U) (hk : k < 16384) : mu_TI (mu_D (d + 1)) 377 [.inr (.inr (some 145)), .inl (nI k)] H (fun x H1 => x = (if btz (U.2.2.2.2.1 145 (k / 64)) (k % 64) = true then 1 else 0) ∧ H1 = H) := by
  refine mu_meth (M := mu_m377) rfl rfl ?_
  refine mw_ht (mu_fn_of (show [0, 1].Nodup by decide)) ?_
  refine mw_go mu_g377 (k := 4) (f1 := (5, [(0, .inr (.inr (some 145))), (1, .inl (nI k))], [.inl ((nI k) >>> ((6 : Int32) &&& 31)), .inr (.inr (some 145))], H)) (C := []) rfl trivial ?_
  rw [(show ((nI k) >>> ((6 : Int32) &&& 31)) = (nI (k / 64)) from (nI_shr6 (a := k) (by omega)))]
  refine mw_go mu_g377 (k := 1) (f1 := (6, [(0, .inr (.inr (some 145))), (1, .inl (nI k))], [.inr (.inl (mu_l H 145 (nI (k / 64)).toNatClampNeg))], H)) (C := [mu_isr H (some 145) 102, vp_in (nI (k / 64)) (mu_n H 145)]) rfl (show (mu_isr H (some 145) 102) ∧ (vp_in (nI (k / 64)) (mu_n H 145)) from ⟨((h.1.1.a (p := 145) (x := (102, 256)) rfl).1).r, (by rw [show mu_n H 145 = 256 from (h.1.1.a (p := 145) (x := (102, 256)) rfl).2]; exact vp_in_nI (n := k / 64) (by omega) (by decide))⟩) ?_
  rw [(show (mu_l H 145 (nI (k / 64)).toNatClampNeg) = (U.2.2.2.2.1 145) (k / 64) from (congrArg (mu_l H 145) (show (nI (k / 64)).toNatClampNeg = k / 64 from nI_clamp (by omega))).trans ((ud_l (m := m) (p := 145) (i := (k / 64)) e rfl).trans (congrFun (show U.2.2.2.2.1 145 = (U.2.2.2.2.1 145) from rfl) (k / 64))))]
  refine mw_go mu_g377 (k := 6) (f1 := (12, [(0, .inr (.inr (some 145))), (1, .inl (nI k))], [.inl (lg_cmp (((((U.2.2.2.2.1 145) (k / 64)).toUInt64 >>> ((nI k).toInt64.toUInt64 &&& Int64.toUInt64 63)).toInt64) &&& (1 : Int64)) (0 : Int64))], H)) (C := []) rfl trivial ?_
  refine mw_if (P := (lg_cmp (((((U.2.2.2.2.1 145) (k / 64)).toUInt64 >>> ((nI k).toInt64.toUInt64 &&& Int64.toUInt64 63)).toInt64) &&& (1 : Int64)) (0 : Int64)) = 0) (a := 19) (b := 15) (fun _ => rfl) trivial (fun h1 => ?_) (fun h1 => ?_)
  · -- 19: (lg_cmp (((((U.2.2.2.2.1 145) (k / 64)).toUInt64 >>> ((nI k).toInt64.toUInt64 &&& Int64.toUInt64 63)).toInt64) &&& (1 : Int64)) (0 : Int64)) = 0
    refine mw_go mu_g377 (k := 1) (f1 := (20, [(0, .inr (.inr (some 145))), (1, .inl (nI k))], [.inl (0 : Int32)], H)) (C := []) rfl trivial ?_
    exact mw_of (fun _ => mu_ret rfl (Or.inl rfl) ⟨_, _, rfl, (by have z := lg_ne.mp h1; rw [btz_ask (by omega)] at z; by_cases hb : btz (U.2.2.2.2.1 145 (k / 64)) (k % 64) = true; rw [if_pos hb] at z; exact absurd z (by decide); rw [if_neg hb]), rfl⟩)
  · -- 15: not (lg_cmp (((((U.2.2.2.2.1 145) (k / 64)).toUInt64 >>> ((nI k).toInt64.toUInt64 &&& Int64.toUInt64 63)).toInt64) &&& (1 : Int64)) (0 : Int64)) = 0
    refine mw_go mu_g377 (k := 2) (f1 := (20, [(0, .inr (.inr (some 145))), (1, .inl (nI k))], [.inl (1 : Int32)], H)) (C := []) rfl trivial ?_
    exact mw_of (fun _ => mu_ret rfl (Or.inr rfl) ⟨_, _, rfl, (by by_cases hb : btz (U.2.2.2.2.1 145 (k / 64)) (k % 64) = true; rw [if_pos hb]; exact absurd (lg_ne.mpr (by rw [btz_ask (by omega), if_neg hb])) h1), rfl⟩)
theorem pv_has_146 (h : um m H) (e : ud m H = U) (hk : k < 16384) : mu_TI (mu_D (d + 1)) 377 [.inr (.inr (some 146)), .inl (nI k)] H (fun x H1 => x = (if btz (U.2.2.2.2.1 146 (k / 64)) (k % 64) = true then 1 else 0) ∧ H1 = H) := by
  refine mu_meth (M := mu_m377) rfl rfl ?_
  refine mw_ht (mu_fn_of (show [0, 1].Nodup by decide)) ?_
  refine mw_go mu_g377 (k := 4) (f1 := (5, [(0, .inr (.inr (some 146))), (1, .inl (nI k))], [.inl ((nI k) >>> ((6 : Int32) &&& 31)), .inr (.inr (some 146))], H)) (C := []) rfl trivial ?_
  rw [(show ((nI k) >>> ((6 : Int32) &&& 31)) = (nI (k / 64)) from (nI_shr6 (a := k) (by omega)))]
  refine mw_go mu_g377 (k := 1) (f1 := (6, [(0, .inr (.inr (some 146))), (1, .inl (nI k))], [.inr (.inl (mu_l H 146 (nI (k / 64)).toNatClampNeg))], H)) (C := [mu_isr H (some 146) 102, vp_in (nI (k / 64)) (mu_n H 146)]) rfl (show (mu_isr H (some 146) 102) ∧ (vp_in (nI (k / 64)) (mu_n H 146)) from ⟨((h.1.1.a (p := 146) (x := (102, 256)) rfl).1).r, (by rw [show mu_n H 146 = 256 from (h.1.1.a (p := 146) (x := (102, 256)) rfl).2]; exact vp_in_nI (n := k / 64) (by omega) (by decide))⟩) ?_
  rw [(show (mu_l H 146 (nI (k / 64)).toNatClampNeg) = (U.2.2.2.2.1 146) (k / 64) from (congrArg (mu_l H 146) (show (nI (k / 64)).toNatClampNeg = k / 64 from nI_clamp (by omega))).trans ((ud_l (m := m) (p := 146) (i := (k / 64)) e rfl).trans (congrFun (show U.2.2.2.2.1 146 = (U.2.2.2.2.1 146) from rfl) (k / 64))))]
  refine mw_go mu_g377 (k := 6) (f1 := (12, [(0, .inr (.inr (some 146))), (1, .inl (nI k))], [.inl (lg_cmp (((((U.2.2.2.2.1 146) (k / 64)).toUInt64 >>> ((nI k).toInt64.toUInt64 &&& Int64.toUInt64 63)).toInt64) &&& (1 : Int64)) (0 : Int64))], H)) (C := []) rfl trivial ?_
  refine mw_if (P := (lg_cmp (((((U.2.2.2.2.1 146) (k / 64)).toUInt64 >>> ((nI k).toInt64.toUInt64 &&& Int64.toUInt64 63)).toInt64) &&& (1 : Int64)) (0 : Int64)) = 0) (a := 19) (b := 15) (fun _ => rfl) trivial (fun h1 => ?_) (fun h1 => ?_)
  · -- 19: (lg_cmp (((((U.2.2.2.2.1 146) (k / 64)).toUInt64 >>> ((nI k).toInt64.toUInt64 &&& Int64.toUInt64 63)).toInt64) &&& (1 : Int64)) (0 : Int64)) = 0
    refine mw_go mu_g377 (k := 1) (f1 := (20, [(0, .inr (.inr (some 146))), (1, .inl (nI k))], [.inl (0 : Int32)], H)) (C := []) rfl trivial ?_
    exact mw_of (fun _ => mu_ret rfl (Or.inl rfl) ⟨_, _, rfl, (by have z := lg_ne.mp h1; rw [btz_ask (by omega)] at z; by_cases hb : btz (U.2.2.2.2.1 146 (k / 64)) (k % 64) = true; rw [if_pos hb] at z; exact absurd z (by decide); rw [if_neg hb]), rfl⟩)
  · -- 15: not (lg_cmp (((((U.2.2.2.2.1 146) (k / 64)).toUInt64 >>> ((nI k).toInt64.toUInt64 &&& Int64.toUInt64 63)).toInt64) &&& (1 : Int64)) (0 : Int64)) = 0
    refine mw_go mu_g377 (k := 2) (f1 := (20, [(0, .inr (.inr (some 146))), (1, .inl (nI k))], [.inl (1 : Int32)], H)) (C := []) rfl trivial ?_
    exact mw_of (fun _ => mu_ret rfl (Or.inr rfl) ⟨_, _, rfl, (by by_cases hb : btz (U.2.2.2.2.1 146 (k / 64)) (k % 64) = true; rw [if_pos hb]; exact absurd (lg_ne.mpr (by rw [btz_ask (by omega), if_neg hb])) h1), rfl⟩)
theorem pv_has_148 (h : um m H) (e : ud m H = U) (hk : k < 16384) : mu_TI (mu_D (d + 1)) 377 [.inr (.inr (some 148)), .inl (nI k)] H (fun x H1 => x = (if btz (U.2.2.2.2.1 148 (k / 64)) (k % 64) = true then 1 else 0) ∧ H1 = H) := by
  refine mu_meth (M := mu_m377) rfl rfl ?_
  refine mw_ht (mu_fn_of (show [0, 1].Nodup by decide)) ?_
  refine mw_go mu_g377 (k := 4) (f1 := (5, [(0, .inr (.inr (some 148))), (1, .inl (nI k))], [.inl ((nI k) >>> ((6 : Int32) &&& 31)), .inr (.inr (some 148))], H)) (C := []) rfl trivial ?_
  rw [(show ((nI k) >>> ((6 : Int32) &&& 31)) = (nI (k / 64)) from (nI_shr6 (a := k) (by omega)))]
  refine mw_go mu_g377 (k := 1) (f1 := (6, [(0, .inr (.inr (some 148))), (1, .inl (nI k))], [.inr (.inl (mu_l H 148 (nI (k / 64)).toNatClampNeg))], H)) (C := [mu_isr H (some 148) 102, vp_in (nI (k / 64)) (mu_n H 148)]) rfl (show (mu_isr H (some 148) 102) ∧ (vp_in (nI (k / 64)) (mu_n H 148)) from ⟨((h.1.1.a (p := 148) (x := (102, 256)) rfl).1).r, (by rw [show mu_n H 148 = 256 from (h.1.1.a (p := 148) (x := (102, 256)) rfl).2]; exact vp_in_nI (n := k / 64) (by omega) (by decide))⟩) ?_
  rw [(show (mu_l H 148 (nI (k / 64)).toNatClampNeg) = (U.2.2.2.2.1 148) (k / 64) from (congrArg (mu_l H 148) (show (nI (k / 64)).toNatClampNeg = k / 64 from nI_clamp (by omega))).trans ((ud_l (m := m) (p := 148) (i := (k / 64)) e rfl).trans (congrFun (show U.2.2.2.2.1 148 = (U.2.2.2.2.1 148) from rfl) (k / 64))))]
  refine mw_go mu_g377 (k := 6) (f1 := (12, [(0, .inr (.inr (some 148))), (1, .inl (nI k))], [.inl (lg_cmp (((((U.2.2.2.2.1 148) (k / 64)).toUInt64 >>> ((nI k).toInt64.toUInt64 &&& Int64.toUInt64 63)).toInt64) &&& (1 : Int64)) (0 : Int64))], H)) (C := []) rfl trivial ?_
  refine mw_if (P := (lg_cmp (((((U.2.2.2.2.1 148) (k / 64)).toUInt64 >>> ((nI k).toInt64.toUInt64 &&& Int64.toUInt64 63)).toInt64) &&& (1 : Int64)) (0 : Int64)) = 0) (a := 19) (b := 15) (fun _ => rfl) trivial (fun h1 => ?_) (fun h1 => ?_)
  · -- 19: (lg_cmp (((((U.2.2.2.2.1 148) (k / 64)).toUInt64 >>> ((nI k).toInt64.toUInt64 &&& Int64.toUInt64 63)).toInt64) &&& (1 : Int64)) (0 : Int64)) = 0
    refine mw_go mu_g377 (k := 1) (f1 := (20, [(0, .inr (.inr (some 148))), (1, .inl (nI k))], [.inl (0 : Int32)], H)) (C := []) rfl trivial ?_
    exact mw_of (fun _ => mu_ret rfl (Or.inl rfl) ⟨_, _, rfl, (by have z := lg_ne.mp h1; rw [btz_ask (by omega)] at z; by_cases hb : btz (U.2.2.2.2.1 148 (k / 64)) (k % 64) = true; rw [if_pos hb] at z; exact absurd z (by decide); rw [if_neg hb]), rfl⟩)
  · -- 15: not (lg_cmp (((((U.2.2.2.2.1 148) (k / 64)).toUInt64 >>> ((nI k).toInt64.toUInt64 &&& Int64.toUInt64 63)).toInt64) &&& (1 : Int64)) (0 : Int64)) = 0
    refine mw_go mu_g377 (k := 2) (f1 := (20, [(0, .inr (.inr (some 148))), (1, .inl (nI k))], [.inl (1 : Int32)], H)) (C := []) rfl trivial ?_
    exact mw_of (fun _ => mu_ret rfl (Or.inr rfl) ⟨_, _, rfl, (by by_cases hb : btz (U.2.2.2.2.1 148 (k / 64)) (k % 64) = true; rw [if_pos hb]; exact absurd (lg_ne.mpr (by rw [btz_ask (by omega), if_neg hb])) h1), rfl⟩)
theorem pv_has_149 (h : um m H) (e : ud m H = U) (hk : k < 16384) : mu_TI (mu_D (d + 1)) 377 [.inr (.inr (some 149)), .inl (nI k)] H (fun x H1 => x = (if btz (U.2.2.2.2.1 149 (k / 64)) (k % 64) = true then 1 else 0) ∧ H1 = H) := by
  refine mu_meth (M := mu_m377) rfl rfl ?_
  refine mw_ht (mu_fn_of (show [0, 1].Nodup by decide)) ?_
  refine mw_go mu_g377 (k := 4) (f1 := (5, [(0, .inr (.inr (some 149))), (1, .inl (nI k))], [.inl ((nI k) >>> ((6 : Int32) &&& 31)), .inr (.inr (some 149))], H)) (C := []) rfl trivial ?_
  rw [(show ((nI k) >>> ((6 : Int32) &&& 31)) = (nI (k / 64)) from (nI_shr6 (a := k) (by omega)))]
  refine mw_go mu_g377 (k := 1) (f1 := (6, [(0, .inr (.inr (some 149))), (1, .inl (nI k))], [.inr (.inl (mu_l H 149 (nI (k / 64)).toNatClampNeg))], H)) (C := [mu_isr H (some 149) 102, vp_in (nI (k / 64)) (mu_n H 149)]) rfl (show (mu_isr H (some 149) 102) ∧ (vp_in (nI (k / 64)) (mu_n H 149)) from ⟨((h.1.1.a (p := 149) (x := (102, 256)) rfl).1).r, (by rw [show mu_n H 149 = 256 from (h.1.1.a (p := 149) (x := (102, 256)) rfl).2]; exact vp_in_nI (n := k / 64) (by omega) (by decide))⟩) ?_
  rw [(show (mu_l H 149 (nI (k / 64)).toNatClampNeg) = (U.2.2.2.2.1 149) (k / 64) from (congrArg (mu_l H 149) (show (nI (k / 64)).toNatClampNeg = k / 64 from nI_clamp (by omega))).trans ((ud_l (m := m) (p := 149) (i := (k / 64)) e rfl).trans (congrFun (show U.2.2.2.2.1 149 = (U.2.2.2.2.1 149) from rfl) (k / 64))))]
  refine mw_go mu_g377 (k := 6) (f1 := (12, [(0, .inr (.inr (some 149))), (1, .inl (nI k))], [.inl (lg_cmp (((((U.2.2.2.2.1 149) (k / 64)).toUInt64 >>> ((nI k).toInt64.toUInt64 &&& Int64.toUInt64 63)).toInt64) &&& (1 : Int64)) (0 : Int64))], H)) (C := []) rfl trivial ?_
  refine mw_if (P := (lg_cmp (((((U.2.2.2.2.1 149) (k / 64)).toUInt64 >>> ((nI k).toInt64.toUInt64 &&& Int64.toUInt64 63)).toInt64) &&& (1 : Int64)) (0 : Int64)) = 0) (a := 19) (b := 15) (fun _ => rfl) trivial (fun h1 => ?_) (fun h1 => ?_)
  · -- 19: (lg_cmp (((((U.2.2.2.2.1 149) (k / 64)).toUInt64 >>> ((nI k).toInt64.toUInt64 &&& Int64.toUInt64 63)).toInt64) &&& (1 : Int64)) (0 : Int64)) = 0
    refine mw_go mu_g377 (k := 1) (f1 := (20, [(0, .inr (.inr (some 149))), (1, .inl (nI k))], [.inl (0 : Int32)], H)) (C := []) rfl trivial ?_
    exact mw_of (fun _ => mu_ret rfl (Or.inl rfl) ⟨_, _, rfl, (by have z := lg_ne.mp h1; rw [btz_ask (by omega)] at z; by_cases hb : btz (U.2.2.2.2.1 149 (k / 64)) (k % 64) = true; rw [if_pos hb] at z; exact absurd z (by decide); rw [if_neg hb]), rfl⟩)
  · -- 15: not (lg_cmp (((((U.2.2.2.2.1 149) (k / 64)).toUInt64 >>> ((nI k).toInt64.toUInt64 &&& Int64.toUInt64 63)).toInt64) &&& (1 : Int64)) (0 : Int64)) = 0
    refine mw_go mu_g377 (k := 2) (f1 := (20, [(0, .inr (.inr (some 149))), (1, .inl (nI k))], [.inl (1 : Int32)], H)) (C := []) rfl trivial ?_
    exact mw_of (fun _ => mu_ret rfl (Or.inr rfl) ⟨_, _, rfl, (by by_cases hb : btz (U.2.2.2.2.1 149 (k / 64)) (k % 64) = true; rw [if_pos hb]; exact absurd (lg_ne.mpr (by rw [btz_ask (by omega), if_neg hb])) h1), rfl⟩)
theorem pv_has_150 (h : um m H) (e : ud m H = U) (hk : k < 16384) : mu_TI (mu_D (d + 1)) 377 [.inr (.inr (some 150)), .inl (nI k)] H (fun x H1 => x = (if btz (U.2.2.2.2.1 150 (k / 64)) (k % 64) = true then 1 else 0) ∧ H1 = H) := by
  refine mu_meth (M := mu_m377) rfl rfl ?_
  refine mw_ht (mu_fn_of (show [0, 1].Nodup by decide)) ?_
  refine mw_go mu_g377 (k := 4) (f1 := (5, [(0, .inr (.inr (some 150))), (1, .inl (nI k))], [.inl ((nI k) >>> ((6 : Int32) &&& 31)), .inr (.inr (some 150))], H)) (C := []) rfl trivial ?_
  rw [(show ((nI k) >>> ((6 : Int32) &&& 31)) = (nI (k / 64)) from (nI_shr6 (a := k) (by omega)))]
  refine mw_go mu_g377 (k := 1) (f1 := (6, [(0, .inr (.inr (some 150))), (1, .inl (nI k))], [.inr (.inl (mu_l H 150 (nI (k / 64)).toNatClampNeg))], H)) (C := [mu_isr H (some 150) 102, vp_in (nI (k / 64)) (mu_n H 150)]) rfl (show (mu_isr H (some 150) 102) ∧ (vp_in (nI (k / 64)) (mu_n H 150)) from ⟨((h.1.1.a (p := 150) (x := (102, 256)) rfl).1).r, (by rw [show mu_n H 150 = 256 from (h.1.1.a (p := 150) (x := (102, 256)) rfl).2]; exact vp_in_nI (n := k / 64) (by omega) (by decide))⟩) ?_
  rw [(show (mu_l H 150 (nI (k / 64)).toNatClampNeg) = (U.2.2.2.2.1 150) (k / 64) from (congrArg (mu_l H 150) (show (nI (k / 64)).toNatClampNeg = k / 64 from nI_clamp (by omega))).trans ((ud_l (m := m) (p := 150) (i := (k / 64)) e rfl).trans (congrFun (show U.2.2.2.2.1 150 = (U.2.2.2.2.1 150) from rfl) (k / 64))))]
  refine mw_go mu_g377 (k := 6) (f1 := (12, [(0, .inr (.inr (some 150))), (1, .inl (nI k))], [.inl (lg_cmp (((((U.2.2.2.2.1 150) (k / 64)).toUInt64 >>> ((nI k).toInt64.toUInt64 &&& Int64.toUInt64 63)).toInt64) &&& (1 : Int64)) (0 : Int64))], H)) (C := []) rfl trivial ?_
  refine mw_if (P := (lg_cmp (((((U.2.2.2.2.1 150) (k / 64)).toUInt64 >>> ((nI k).toInt64.toUInt64 &&& Int64.toUInt64 63)).toInt64) &&& (1 : Int64)) (0 : Int64)) = 0) (a := 19) (b := 15) (fun _ => rfl) trivial (fun h1 => ?_) (fun h1 => ?_)
  · -- 19: (lg_cmp (((((U.2.2.2.2.1 150) (k / 64)).toUInt64 >>> ((nI k).toInt64.toUInt64 &&& Int64.toUInt64 63)).toInt64) &&& (1 : Int64)) (0 : Int64)) = 0
    refine mw_go mu_g377 (k := 1) (f1 := (20, [(0, .inr (.inr (some 150))), (1, .inl (nI k))], [.inl (0 : Int32)], H)) (C := []) rfl trivial ?_
    exact mw_of (fun _ => mu_ret rfl (Or.inl rfl) ⟨_, _, rfl, (by have z := lg_ne.mp h1; rw [btz_ask (by omega)] at z; by_cases hb : btz (U.2.2.2.2.1 150 (k / 64)) (k % 64) = true; rw [if_pos hb] at z; exact absurd z (by decide); rw [if_neg hb]), rfl⟩)
  · -- 15: not (lg_cmp (((((U.2.2.2.2.1 150) (k / 64)).toUInt64 >>> ((nI k).toInt64.toUInt64 &&& Int64.toUInt64 63)).toInt64) &&& (1 : Int64)) (0 : Int64)) = 0
    refine mw_go mu_g377 (k := 2) (f1 := (20, [(0, .inr (.inr (some 150))), (1, .inl (nI k))], [.inl (1 : Int32)], H)) (C := []) rfl trivial ?_
    exact mw_of (fun _ => mu_ret rfl (Or.inr rfl) ⟨_, _, rfl, (by by_cases hb : btz (U.2.2.2.2.1 150 (k / 64)) (k % 64) = true; rw [if_pos hb]; exact absurd (lg_ne.mpr (by rw [btz_ask (by omega), if_neg hb])) h1), rfl⟩)
theorem pv_has_151 (h : um m H) (e : ud m H = U) (hk : k < 16384) : mu_TI (mu_D (d + 1)) 377 [.inr (.inr (some 151)), .inl (nI k)] H (fun x H1 => x = (if btz (U.2.2.2.2.1 151 (k / 64)) (k % 64) = true then 1 else 0) ∧ H1 = H) := by
  refine mu_meth (M := mu_m377) rfl rfl ?_
  refine mw_ht (mu_fn_of (show [0, 1].Nodup by decide)) ?_
  refine mw_go mu_g377 (k := 4) (f1 := (5, [(0, .inr (.inr (some 151))), (1, .inl (nI k))], [.inl ((nI k) >>> ((6 : Int32) &&& 31)), .inr (.inr (some 151))], H)) (C := []) rfl trivial ?_
  rw [(show ((nI k) >>> ((6 : Int32) &&& 31)) = (nI (k / 64)) from (nI_shr6 (a := k) (by omega)))]
  refine mw_go mu_g377 (k := 1) (f1 := (6, [(0, .inr (.inr (some 151))), (1, .inl (nI k))], [.inr (.inl (mu_l H 151 (nI (k / 64)).toNatClampNeg))], H)) (C := [mu_isr H (some 151) 102, vp_in (nI (k / 64)) (mu_n H 151)]) rfl (show (mu_isr H (some 151) 102) ∧ (vp_in (nI (k / 64)) (mu_n H 151)) from ⟨((h.1.1.a (p := 151) (x := (102, 256)) rfl).1).r, (by rw [show mu_n H 151 = 256 from (h.1.1.a (p := 151) (x := (102, 256)) rfl).2]; exact vp_in_nI (n := k / 64) (by omega) (by decide))⟩) ?_
  rw [(show (mu_l H 151 (nI (k / 64)).toNatClampNeg) = (U.2.2.2.2.1 151) (k / 64) from (congrArg (mu_l H 151) (show (nI (k / 64)).toNatClampNeg = k / 64 from nI_clamp (by omega))).trans ((ud_l (m := m) (p := 151) (i := (k / 64)) e rfl).trans (congrFun (show U.2.2.2.2.1 151 = (U.2.2.2.2.1 151) from rfl) (k / 64))))]
  refine mw_go mu_g377 (k := 6) (f1 := (12, [(0, .inr (.inr (some 151))), (1, .inl (nI k))], [.inl (lg_cmp (((((U.2.2.2.2.1 151) (k / 64)).toUInt64 >>> ((nI k).toInt64.toUInt64 &&& Int64.toUInt64 63)).toInt64) &&& (1 : Int64)) (0 : Int64))], H)) (C := []) rfl trivial ?_
  refine mw_if (P := (lg_cmp (((((U.2.2.2.2.1 151) (k / 64)).toUInt64 >>> ((nI k).toInt64.toUInt64 &&& Int64.toUInt64 63)).toInt64) &&& (1 : Int64)) (0 : Int64)) = 0) (a := 19) (b := 15) (fun _ => rfl) trivial (fun h1 => ?_) (fun h1 => ?_)
  · -- 19: (lg_cmp (((((U.2.2.2.2.1 151) (k / 64)).toUInt64 >>> ((nI k).toInt64.toUInt64 &&& Int64.toUInt64 63)).toInt64) &&& (1 : Int64)) (0 : Int64)) = 0
    refine mw_go mu_g377 (k := 1) (f1 := (20, [(0, .inr (.inr (some 151))), (1, .inl (nI k))], [.inl (0 : Int32)], H)) (C := []) rfl trivial ?_
    exact mw_of (fun _ => mu_ret rfl (Or.inl rfl) ⟨_, _, rfl, (by have z := lg_ne.mp h1; rw [btz_ask (by omega)] at z; by_cases hb : btz (U.2.2.2.2.1 151 (k / 64)) (k % 64) = true; rw [if_pos hb] at z; exact absurd z (by decide); rw [if_neg hb]), rfl⟩)
  · -- 15: not (lg_cmp (((((U.2.2.2.2.1 151) (k / 64)).toUInt64 >>> ((nI k).toInt64.toUInt64 &&& Int64.toUInt64 63)).toInt64) &&& (1 : Int64)) (0 : Int64)) = 0
    refine mw_go mu_g377 (k := 2) (f1 := (20, [(0, .inr (.inr (some 151))), (1, .inl (nI k))], [.inl (1 : Int32)], H)) (C := []) rfl trivial ?_
    exact mw_of (fun _ => mu_ret rfl (Or.inr rfl) ⟨_, _, rfl, (by by_cases hb : btz (U.2.2.2.2.1 151 (k / 64)) (k % 64) = true; rw [if_pos hb]; exact absurd (lg_ne.mpr (by rw [btz_ask (by omega), if_neg hb])) h1), rfl⟩)
theorem pv_has_152 (h : um m H) (e : ud m H = U) (hk : k < 16384) : mu_TI (mu_D (d + 1)) 377 [.inr (.inr (some 152)), .inl (nI k)] H (fun x H1 => x = (if btz (U.2.2.2.2.1 152 (k / 64)) (k % 64) = true then 1 else 0) ∧ H1 = H) := by
  refine mu_meth (M := mu_m377) rfl rfl ?_
  refine mw_ht (mu_fn_of (show [0, 1].Nodup by decide)) ?_
  refine mw_go mu_g377 (k := 4) (f1 := (5, [(0, .inr (.inr (some 152))), (1, .inl (nI k))], [.inl ((nI k) >>> ((6 : Int32) &&& 31)), .inr (.inr (some 152))], H)) (C := []) rfl trivial ?_
  rw [(show ((nI k) >>> ((6 : Int32) &&& 31)) = (nI (k / 64)) from (nI_shr6 (a := k) (by omega)))]
  refine mw_go mu_g377 (k := 1) (f1 := (6, [(0, .inr (.inr (some 152))), (1, .inl (nI k))], [.inr (.inl (mu_l H 152 (nI (k / 64)).toNatClampNeg))], H)) (C := [mu_isr H (some 152) 102, vp_in (nI (k / 64)) (mu_n H 152)]) rfl (show (mu_isr H (some 152) 102) ∧ (vp_in (nI (k / 64)) (mu_n H 152)) from ⟨((h.1.1.a (p := 152) (x := (102, 256)) rfl).1).r, (by rw [show mu_n H 152 = 256 from (h.1.1.a (p := 152) (x := (102, 256)) rfl).2]; exact vp_in_nI (n := k / 64) (by omega) (by decide))⟩) ?_
  rw [(show (mu_l H 152 (nI (k / 64)).toNatClampNeg) = (U.2.2.2.2.1 152) (k / 64) from (congrArg (mu_l H 152) (show (nI (k / 64)).toNatClampNeg = k / 64 from nI_clamp (by omega))).trans ((ud_l (m := m) (p := 152) (i := (k / 64)) e rfl).trans (congrFun (show U.2.2.2.2.1 152 = (U.2.2.2.2.1 152) from rfl) (k / 64))))]
  refine mw_go mu_g377 (k := 6) (f1 := (12, [(0, .inr (.inr (some 152))), (1, .inl (nI k))], [.inl (lg_cmp (((((U.2.2.2.2.1 152) (k / 64)).toUInt64 >>> ((nI k).toInt64.toUInt64 &&& Int64.toUInt64 63)).toInt64) &&& (1 : Int64)) (0 : Int64))], H)) (C := []) rfl trivial ?_
  refine mw_if (P := (lg_cmp (((((U.2.2.2.2.1 152) (k / 64)).toUInt64 >>> ((nI k).toInt64.toUInt64 &&& Int64.toUInt64 63)).toInt64) &&& (1 : Int64)) (0 : Int64)) = 0) (a := 19) (b := 15) (fun _ => rfl) trivial (fun h1 => ?_) (fun h1 => ?_)
  · -- 19: (lg_cmp (((((U.2.2.2.2.1 152) (k / 64)).toUInt64 >>> ((nI k).toInt64.toUInt64 &&& Int64.toUInt64 63)).toInt64) &&& (1 : Int64)) (0 : Int64)) = 0
    refine mw_go mu_g377 (k := 1) (f1 := (20, [(0, .inr (.inr (some 152))), (1, .inl (nI k))], [.inl (0 : Int32)], H)) (C := []) rfl trivial ?_
    exact mw_of (fun _ => mu_ret rfl (Or.inl rfl) ⟨_, _, rfl, (by have z := lg_ne.mp h1; rw [btz_ask (by omega)] at z; by_cases hb : btz (U.2.2.2.2.1 152 (k / 64)) (k % 64) = true; rw [if_pos hb] at z; exact absurd z (by decide); rw [if_neg hb]), rfl⟩)
  · -- 15: not (lg_cmp (((((U.2.2.2.2.1 152) (k / 64)).toUInt64 >>> ((nI k).toInt64.toUInt64 &&& Int64.toUInt64 63)).toInt64) &&& (1 : Int64)) (0 : Int64)) = 0
    refine mw_go mu_g377 (k := 2) (f1 := (20, [(0, .inr (.inr (some 152))), (1, .inl (nI k))], [.inl (1 : Int32)], H)) (C := []) rfl trivial ?_
    exact mw_of (fun _ => mu_ret rfl (Or.inr rfl) ⟨_, _, rfl, (by by_cases hb : btz (U.2.2.2.2.1 152 (k / 64)) (k % 64) = true; rw [if_pos hb]; exact absurd (lg_ne.mpr (by rw [btz_ask (by omega), if_neg hb])) h1), rfl⟩)
theorem pv_has_153 (h : um m H) (e : ud m H = U) (hk : k < 16384) : mu_TI (mu_D (d + 1)) 377 [.inr (.inr (some 153)), .inl (nI k)] H (fun x H1 => x = (if btz (U.2.2.2.2.1 153 (k / 64)) (k % 64) = true then 1 else 0) ∧ H1 = H) := by
  refine mu_meth (M := mu_m377) rfl rfl ?_
  refine mw_ht (mu_fn_of (show [0, 1].Nodup by decide)) ?_
  refine mw_go mu_g377 (k := 4) (f1 := (5, [(0, .inr (.inr (some 153))), (1, .inl (nI k))], [.inl ((nI k) >>> ((6 : Int32) &&& 31)), .inr (.inr (some 153))], H)) (C := []) rfl trivial ?_
  rw [(show ((nI k) >>> ((6 : Int32) &&& 31)) = (nI (k / 64)) from (nI_shr6 (a := k) (by omega)))]
  refine mw_go mu_g377 (k := 1) (f1 := (6, [(0, .inr (.inr (some 153))), (1, .inl (nI k))], [.inr (.inl (mu_l H 153 (nI (k / 64)).toNatClampNeg))], H)) (C := [mu_isr H (some 153) 102, vp_in (nI (k / 64)) (mu_n H 153)]) rfl (show (mu_isr H (some 153) 102) ∧ (vp_in (nI (k / 64)) (mu_n H 153)) from ⟨((h.1.1.a (p := 153) (x := (102, 256)) rfl).1).r, (by rw [show mu_n H 153 = 256 from (h.1.1.a (p := 153) (x := (102, 256)) rfl).2]; exact vp_in_nI (n := k / 64) (by omega) (by decide))⟩) ?_
  rw [(show (mu_l H 153 (nI (k / 64)).toNatClampNeg) = (U.2.2.2.2.1 153) (k / 64) from (congrArg (mu_l H 153) (show (nI (k / 64)).toNatClampNeg = k / 64 from nI_clamp (by omega))).trans ((ud_l (m := m) (p := 153) (i := (k / 64)) e rfl).trans (congrFun (show U.2.2.2.2.1 153 = (U.2.2.2.2.1 153) from rfl) (k / 64))))]
  refine mw_go mu_g377 (k := 6) (f1 := (12, [(0, .inr (.inr (some 153))), (1, .inl (nI k))], [.inl (lg_cmp (((((U.2.2.2.2.1 153) (k / 64)).toUInt64 >>> ((nI k).toInt64.toUInt64 &&& Int64.toUInt64 63)).toInt64) &&& (1 : Int64)) (0 : Int64))], H)) (C := []) rfl trivial ?_
  refine mw_if (P := (lg_cmp (((((U.2.2.2.2.1 153) (k / 64)).toUInt64 >>> ((nI k).toInt64.toUInt64 &&& Int64.toUInt64 63)).toInt64) &&& (1 : Int64)) (0 : Int64)) = 0) (a := 19) (b := 15) (fun _ => rfl) trivial (fun h1 => ?_) (fun h1 => ?_)
  · -- 19: (lg_cmp (((((U.2.2.2.2.1 153) (k / 64)).toUInt64 >>> ((nI k).toInt64.toUInt64 &&& Int64.toUInt64 63)).toInt64) &&& (1 : Int64)) (0 : Int64)) = 0
    refine mw_go mu_g377 (k := 1) (f1 := (20, [(0, .inr (.inr (some 153))), (1, .inl (nI k))], [.inl (0 : Int32)], H)) (C := []) rfl trivial ?_
    exact mw_of (fun _ => mu_ret rfl (Or.inl rfl) ⟨_, _, rfl, (by have z := lg_ne.mp h1; rw [btz_ask (by omega)] at z; by_cases hb : btz (U.2.2.2.2.1 153 (k / 64)) (k % 64) = true; rw [if_pos hb] at z; exact absurd z (by decide); rw [if_neg hb]), rfl⟩)
  · -- 15: not (lg_cmp (((((U.2.2.2.2.1 153) (k / 64)).toUInt64 >>> ((nI k).toInt64.toUInt64 &&& Int64.toUInt64 63)).toInt64) &&& (1 : Int64)) (0 : Int64)) = 0
    refine mw_go mu_g377 (k := 2) (f1 := (20, [(0, .inr (.inr (some 153))), (1, .inl (nI k))], [.inl (1 : Int32)], H)) (C := []) rfl trivial ?_
    exact mw_of (fun _ => mu_ret rfl (Or.inr rfl) ⟨_, _, rfl, (by by_cases hb : btz (U.2.2.2.2.1 153 (k / 64)) (k % 64) = true; rw [if_pos hb]; exact absurd (lg_ne.mpr (by rw [btz_ask (by omega), if_neg hb])) h1), rfl⟩)
theorem pv_has_162 (h : um m H) (e : ud m H = U) (hk : k < 16384) : mu_TI (mu_D (d + 1)) 377 [.inr (.inr (some 162)), .inl (nI k)] H (fun x H1 => x = (if btz (U.2.2.2.2.1 162 (k / 64)) (k % 64) = true then 1 else 0) ∧ H1 = H) := by
  refine mu_meth (M := mu_m377) rfl rfl ?_
  refine mw_ht (mu_fn_of (show [0, 1].Nodup by decide)) ?_
  refine mw_go mu_g377 (k := 4) (f1 := (5, [(0, .inr (.inr (some 162))), (1, .inl (nI k))], [.inl ((nI k) >>> ((6 : Int32) &&& 31)), .inr (.inr (some 162))], H)) (C := []) rfl trivial ?_
  rw [(show ((nI k) >>> ((6 : Int32) &&& 31)) = (nI (k / 64)) from (nI_shr6 (a := k) (by omega)))]
  refine mw_go mu_g377 (k := 1) (f1 := (6, [(0, .inr (.inr (some 162))), (1, .inl (nI k))], [.inr (.inl (mu_l H 162 (nI (k / 64)).toNatClampNeg))], H)) (C := [mu_isr H (some 162) 102, vp_in (nI (k / 64)) (mu_n H 162)]) rfl (show (mu_isr H (some 162) 102) ∧ (vp_in (nI (k / 64)) (mu_n H 162)) from ⟨((h.1.1.a (p := 162) (x := (102, 256)) rfl).1).r, (by rw [show mu_n H 162 = 256 from (h.1.1.a (p := 162) (x := (102, 256)) rfl).2]; exact vp_in_nI (n := k / 64) (by omega) (by decide))⟩) ?_
  rw [(show (mu_l H 162 (nI (k / 64)).toNatClampNeg) = (U.2.2.2.2.1 162) (k / 64) from (congrArg (mu_l H 162) (show (nI (k / 64)).toNatClampNeg = k / 64 from nI_clamp (by omega))).trans ((ud_l (m := m) (p := 162) (i := (k / 64)) e rfl).trans (congrFun (show U.2.2.2.2.1 162 = (U.2.2.2.2.1 162) from rfl) (k / 64))))]
  refine mw_go mu_g377 (k := 6) (f1 := (12, [(0, .inr (.inr (some 162))), (1, .inl (nI k))], [.inl (lg_cmp (((((U.2.2.2.2.1 162) (k / 64)).toUInt64 >>> ((nI k).toInt64.toUInt64 &&& Int64.toUInt64 63)).toInt64) &&& (1 : Int64)) (0 : Int64))], H)) (C := []) rfl trivial ?_
  refine mw_if (P := (lg_cmp (((((U.2.2.2.2.1 162) (k / 64)).toUInt64 >>> ((nI k).toInt64.toUInt64 &&& Int64.toUInt64 63)).toInt64) &&& (1 : Int64)) (0 : Int64)) = 0) (a := 19) (b := 15) (fun _ => rfl) trivial (fun h1 => ?_) (fun h1 => ?_)
  · -- 19: (lg_cmp (((((U.2.2.2.2.1 162) (k / 64)).toUInt64 >>> ((nI k).toInt64.toUInt64 &&& Int64.toUInt64 63)).toInt64) &&& (1 : Int64)) (0 : Int64)) = 0
    refine mw_go mu_g377 (k := 1) (f1 := (20, [(0, .inr (.inr (some 162))), (1, .inl (nI k))], [.inl (0 : Int32)], H)) (C := []) rfl trivial ?_
    exact mw_of (fun _ => mu_ret rfl (Or.inl rfl) ⟨_, _, rfl, (by have z := lg_ne.mp h1; rw [btz_ask (by omega)] at z; by_cases hb : btz (U.2.2.2.2.1 162 (k / 64)) (k % 64) = true; rw [if_pos hb] at z; exact absurd z (by decide); rw [if_neg hb]), rfl⟩)
  · -- 15: not (lg_cmp (((((U.2.2.2.2.1 162) (k / 64)).toUInt64 >>> ((nI k).toInt64.toUInt64 &&& Int64.toUInt64 63)).toInt64) &&& (1 : Int64)) (0 : Int64)) = 0
    refine mw_go mu_g377 (k := 2) (f1 := (20, [(0, .inr (.inr (some 162))), (1, .inl (nI k))], [.inl (1 : Int32)], H)) (C := []) rfl trivial ?_
    exact mw_of (fun _ => mu_ret rfl (Or.inr rfl) ⟨_, _, rfl, (by by_cases hb : btz (U.2.2.2.2.1 162 (k / 64)) (k % 64) = true; rw [if_pos hb]; exact absurd (lg_ne.mpr (by rw [btz_ask (by omega), if_neg hb])) h1), rfl⟩)
end Has
