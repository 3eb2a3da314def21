/-! THE STORE OF SETS: sizes, ends, what is in a set -/
theorem nI_ushr1 {a : Nat} (h : a < 2147483648) : ((nI a).toUInt32 >>> ((1 : Int32).toUInt32 &&& Int32.toUInt32 31)).toInt32 = nI (a / 2) := by
  rw [← Int32.toBitVec_inj]
  apply BitVec.eq_of_toNat_eq
  show ((nI a).toUInt32 >>> ((1 : Int32).toUInt32 &&& Int32.toUInt32 31)).toNat = (BitVec.ofNat 32 (a / 2)).toNat
  rw [UInt32.toNat_shiftRight, BitVec.toNat_ofNat, show ((1 : Int32).toUInt32 &&& Int32.toUInt32 31).toNat % 32 = 1 by decide, Nat.shiftRight_eq_div_pow]
  show (BitVec.ofNat 32 a).toNat / 2 ^ 1 = _
  rw [BitVec.toNat_ofNat, Nat.mod_eq_of_lt (show a < 2 ^ 32 by omega), Nat.mod_eq_of_lt (show a / 2 < 2 ^ 32 by omega)]
/-- the parts of a set: each from its first to its last, both rising -/
def mrk (fc : Nat → Int64) (st E n : Nat) (S : Nat → Bool) : Prop := (∀ i j, i ≤ j → j < n → nmzU fc st (E * i) ≤ nmzU fc st (E * j) ∧ nmzU fc st (E * i + E - 1) ≤ nmzU fc st (E * j + E - 1)) ∧ ∀ x, S x = true ↔ ∃ i, i < n ∧ nmzU fc st (E * i) ≤ x ∧ x ≤ nmzU fc st (E * i + E - 1)
/-- a set in its chunk, and what is in it -/
def stz (fc : Nat → Int64) (st : Nat) (S : Nat → Bool) : Prop := hfm fc st < 3 ∧ (st % 8192 + hln fc st < 8192 ∧ hln fc st ≤ 256) ∧ (hfm fc st = 0 → hsz fc st ≤ 4 * hln fc st ∧ (∀ i j, i < j → j < hsz fc st → nmzU fc st i < nmzU fc st j) ∧ mrk fc st 1 (hsz fc st) S) ∧ (hfm fc st = 1 → (∀ i, i < 2 * hln fc st → nmzU fc st (2 * i) ≤ nmzU fc st (2 * i + 1)) ∧ mrk fc st 2 (2 * hln fc st) S) ∧ (hfm fc st = 2 → ∀ x, S x = true ↔ x / 64 < hln fc st ∧ btz (fc (st % 8192 + 1 + x / 64)) (x % 64) = true)
/-- a set that found no room: its size -/
def sab (U : Ud) (id n : Nat) : Prop := (id < (U.2.2.1 113 3).1 ∧ (U.2.2.1 113 3).1 < 2147483648) ∧ (U.2.2.1 113 3).2 id = -1 - nI n ∧ n < 32768
section Sets2
variable {H : mu_H} {U : Ud} {m d id st x n E lo : Nat} {C : Nat → Nat} {fc : Nat → Int64} {S : Nat → Bool}
theorem mrk_yes (h : mrk fc st E n S) (h0 : lo < n) (h1 : ¬ x < nmzU fc st (E * lo)) (h2 : x ≤ nmzU fc st (E * lo + E - 1)) : S x = true := (h.2 x).mpr ⟨lo, h0, by omega, h2⟩
theorem mrk_no (h : mrk fc st E n S) (h1 : ∀ i, i < lo → nmzU fc st (E * i + E - 1) < x) (h2 : lo < n → x < nmzU fc st (E * lo)) : ¬ S x = true := fun z => by
  obtain ⟨i, a1, a2, a3⟩ := (h.2 x).mp z
  by_cases hi : i < lo
  · have := h1 i hi
    omega
  · have b1 := h2 (by omega)
    have b2 := (h.1 lo i (by omega) a1).1
    omega
theorem sab_neg (hn : n < 32768) : (-1 : Int32) - nI n < 0 := by
  have e : ((-1 : Int32) - nI n).toInt = -1 - (n : Int) := by
    rw [Int32.toInt_sub, show (-1 : Int32).toInt = -1 from by decide, show (nI n).toInt = (n : Int) from Int32.toInt_ofNat_of_lt (by omega)]
    exact Int.bmod_eq_of_le (by omega) (by omega)
  rw [Int32.lt_iff_toInt_lt, e]
  show -1 - (n : Int) < 0
  omega
theorem sab_back : (-1 : Int32) - (-1 - nI n) = nI n := by
  rw [Int32.sub_eq_add_neg, Int32.neg_sub, Int32.add_comm, Int32.sub_add_cancel]
/-- PathProver$Sets.isAbsent(I)Z -/
abbrev mu_m248 : ev_M := (2, (some .boolean), [], ev_b248)
theorem mu_g248 : mu_good mu_m248 := mu_goodk ev_k248
theorem st_absN (h : um m H) (e : ud m H = U) (hs : sat U id st fc) : mu_TI (mu_D (d + 1)) 248 [.inr (.inr (some 113)), .inl (nI id)] H (fun x H1 => x = 0 ∧ H1 = H) := by
  obtain ⟨⟨hi1, hi2⟩, hst, hst2, hch⟩ := (show sat U id st fc from hs)
  refine mu_meth (M := mu_m248) rfl rfl ?_
  refine mw_ht (mu_fn_of (show [0, 1].Nodup by decide)) ?_
  refine mw_go mu_g248 (k := 2) (f1 := (4, [(0, .inr (.inr (some 113))), (1, .inl (nI id))], [.inr (.inr (mu_r H 113 3))], H)) (C := [mu_is H (some 113) 11]) rfl (show mu_is H (some 113) 11 from (h.1.1.is rfl)) ?_
  rw [(show mu_r H 113 3 = (U.2.2.2.1 113 3) from (ud_q (U := U) (m := m) (P := 113) (j := 3) e rfl))]
  refine mw_go mu_g248 (k := 2) (f1 := (6, [(0, .inr (.inr (some 113))), (1, .inl (nI id))], [.inl (mu_i H (mu_p (U.2.2.2.1 113 3)) (nI id).toNatClampNeg)], H)) (C := [mu_isr H (U.2.2.2.1 113 3) 100, vp_in (nI id) (mu_n H (mu_p (U.2.2.2.1 113 3)))]) rfl (show (mu_isr H (U.2.2.2.1 113 3) 100) ∧ (vp_in (nI id) (mu_n H (mu_p (U.2.2.2.1 113 3)))) from ⟨((h.iA e rfl rfl (show U.2.2.2.1 113 3 = (U.2.2.2.1 113 3) from rfl))).r, (h.vA (i := id) e rfl rfl (show U.2.2.2.1 113 3 = (U.2.2.2.1 113 3) from rfl) (show (U.2.2.1 113 3).1 = (U.2.2.1 113 3).1 from rfl) (by omega) (by omega))⟩) ?_
  rw [(show (mu_i H (mu_p (U.2.2.2.1 113 3)) (nI id).toNatClampNeg) = (nI st) from ((congrArg (mu_i H (mu_p (U.2.2.2.1 113 3))) (show (nI id).toNatClampNeg = id from nI_clamp (by omega))).trans (h.gA e rfl rfl (show U.2.2.2.1 113 3 = (U.2.2.2.1 113 3) from rfl))).trans ((congrArg (fun z => z.2 id) (show U.2.2.1 113 3 = (U.2.2.1 113 3) from rfl)).trans hst))]
  refine mw_if (P := (nI st) < 0) (a := 9) (b := 13) (fun _ => rfl) trivial (fun h1 => absurd h1 (nI_pos (by omega))) (fun h1 => ?_)
  refine mw_go mu_g248 (k := 1) (f1 := (14, [(0, .inr (.inr (some 113))), (1, .inl (nI id))], [.inl (0 : Int32)], H)) (C := []) rfl trivial ?_
  exact mw_of (fun _ => mu_ret rfl (Or.inl rfl) ⟨(0 : Int32), H, rfl, ⟨rfl, rfl⟩⟩)
theorem st_absY (h : um m H) (e : ud m H = U) (hs : sab U id n) : mu_TI (mu_D (d + 1)) 248 [.inr (.inr (some 113)), .inl (nI id)] H (fun x H1 => x = 1 ∧ H1 = H) := by
  obtain ⟨⟨hi1, hi2⟩, hst, hn⟩ := (show sab U id n from hs)
  refine mu_meth (M := mu_m248) rfl rfl ?_
  refine mw_ht (mu_fn_of (show [0, 1].Nodup by decide)) ?_
  refine mw_go mu_g248 (k := 2) (f1 := (4, [(0, .inr (.inr (some 113))), (1, .inl (nI id))], [.inr (.inr (mu_r H 113 3))], H)) (C := [mu_is H (some 113) 11]) rfl (show mu_is H (some 113) 11 from (h.1.1.is rfl)) ?_
  rw [(show mu_r H 113 3 = (U.2.2.2.1 113 3) from (ud_q (U := U) (m := m) (P := 113) (j := 3) e rfl))]
  refine mw_go mu_g248 (k := 2) (f1 := (6, [(0, .inr (.inr (some 113))), (1, .inl (nI id))], [.inl (mu_i H (mu_p (U.2.2.2.1 113 3)) (nI id).toNatClampNeg)], H)) (C := [mu_isr H (U.2.2.2.1 113 3) 100, vp_in (nI id) (mu_n H (mu_p (U.2.2.2.1 113 3)))]) rfl (show (mu_isr H (U.2.2.2.1 113 3) 100) ∧ (vp_in (nI id) (mu_n H (mu_p (U.2.2.2.1 113 3)))) from ⟨((h.iA e rfl rfl (show U.2.2.2.1 113 3 = (U.2.2.2.1 113 3) from rfl))).r, (h.vA (i := id) e rfl rfl (show U.2.2.2.1 113 3 = (U.2.2.2.1 113 3) from rfl) (show (U.2.2.1 113 3).1 = (U.2.2.1 113 3).1 from rfl) (by omega) (by omega))⟩) ?_
  rw [(show (mu_i H (mu_p (U.2.2.2.1 113 3)) (nI id).toNatClampNeg) = (-1 - nI n) from ((congrArg (mu_i H (mu_p (U.2.2.2.1 113 3))) (show (nI id).toNatClampNeg = id from nI_clamp (by omega))).trans (h.gA e rfl rfl (show U.2.2.2.1 113 3 = (U.2.2.2.1 113 3) from rfl))).trans ((congrArg (fun z => z.2 id) (show U.2.2.1 113 3 = (U.2.2.1 113 3) from rfl)).trans hst))]
  refine mw_if (P := (-1 - nI n) < 0) (a := 9) (b := 13) (fun _ => rfl) trivial (fun h1 => ?_) (fun h1 => absurd (sab_neg hn) h1)
  refine mw_go mu_g248 (k := 2) (f1 := (14, [(0, .inr (.inr (some 113))), (1, .inl (nI id))], [.inl (1 : Int32)], H)) (C := []) rfl trivial ?_
  exact mw_of (fun _ => mu_ret rfl (Or.inr rfl) ⟨(1 : Int32), H, rfl, ⟨rfl, rfl⟩⟩)
/-- PathProver$Sets.sizeOf(I)I -/
abbrev mu_m249 : ev_M := (2, (some .int), [], ev_b249)
theorem mu_g249 : mu_good mu_m249 := mu_goodk ev_k249
theorem st_size (h : um m H) (e : ud m H = U) (hs : sat U id st fc) : mu_TI (mu_D (d + 1)) 249 [.inr (.inr (some 113)), .inl (nI id)] H (fun x H1 => x = nI (hsz fc st) ∧ H1 = H) := by
  obtain ⟨⟨hi1, hi2⟩, hst, hst2, hch⟩ := (show sat U id st fc from hs)
  refine mu_meth (M := mu_m249) rfl rfl ?_
  refine mw_ht (mu_fn_of (show [0, 1].Nodup by decide)) ?_
  refine mw_go mu_g249 (k := 2) (f1 := (4, [(0, .inr (.inr (some 113))), (1, .inl (nI id))], [.inr (.inr (mu_r H 113 3))], H)) (C := [mu_is H (some 113) 11]) rfl (show mu_is H (some 113) 11 from (h.1.1.is rfl)) ?_
  rw [(show mu_r H 113 3 = (U.2.2.2.1 113 3) from (ud_q (U := U) (m := m) (P := 113) (j := 3) e rfl))]
  refine mw_go mu_g249 (k := 2) (f1 := (6, [(0, .inr (.inr (some 113))), (1, .inl (nI id))], [.inl (mu_i H (mu_p (U.2.2.2.1 113 3)) (nI id).toNatClampNeg)], H)) (C := [mu_isr H (U.2.2.2.1 113 3) 100, vp_in (nI id) (mu_n H (mu_p (U.2.2.2.1 113 3)))]) rfl (show (mu_isr H (U.2.2.2.1 113 3) 100) ∧ (vp_in (nI id) (mu_n H (mu_p (U.2.2.2.1 113 3)))) from ⟨((h.iA e rfl rfl (show U.2.2.2.1 113 3 = (U.2.2.2.1 113 3) from rfl))).r, (h.vA (i := id) e rfl rfl (show U.2.2.2.1 113 3 = (U.2.2.2.1 113 3) from rfl) (show (U.2.2.1 113 3).1 = (U.2.2.1 113 3).1 from rfl) (by omega) (by omega))⟩) ?_
  rw [(show (mu_i H (mu_p (U.2.2.2.1 113 3)) (nI id).toNatClampNeg) = (nI st) from ((congrArg (mu_i H (mu_p (U.2.2.2.1 113 3))) (show (nI id).toNatClampNeg = id from nI_clamp (by omega))).trans (h.gA e rfl rfl (show U.2.2.2.1 113 3 = (U.2.2.2.1 113 3) from rfl))).trans ((congrArg (fun z => z.2 id) (show U.2.2.1 113 3 = (U.2.2.1 113 3) from rfl)).trans hst))]
  refine mw_if (P := (nI st) < 0) (a := 9) (b := 18) (fun _ => rfl) trivial (fun h1 => absurd h1 (nI_pos (by omega))) (fun h1 => ?_)
  refine mw_go mu_g249 (k := 2) (f1 := (22, [(0, .inr (.inr (some 113))), (1, .inl (nI id))], [.inr (.inr (mu_r H 113 0))], H)) (C := [mu_is H (some 113) 11]) rfl (show mu_is H (some 113) 11 from (h.1.1.is rfl)) ?_
  rw [(h.1.1.r (p := 113) (j := 0) (q := 114) rfl)]
  refine mw_go mu_g249 (k := 2) (f1 := (26, [(0, .inr (.inr (some 113))), (1, .inl (nI id))], [.inr (.inr (mu_r H 113 3)), .inr (.inr (some 114))], H)) (C := [mu_is H (some 113) 11]) rfl (show mu_is H (some 113) 11 from (h.1.1.is rfl)) ?_
  rw [(show mu_r H 113 3 = (U.2.2.2.1 113 3) from (ud_q (U := U) (m := m) (P := 113) (j := 3) e rfl))]
  refine mw_go mu_g249 (k := 2) (f1 := (28, [(0, .inr (.inr (some 113))), (1, .inl (nI id))], [.inl (mu_i H (mu_p (U.2.2.2.1 113 3)) (nI id).toNatClampNeg), .inr (.inr (some 114))], H)) (C := [mu_isr H (U.2.2.2.1 113 3) 100, vp_in (nI id) (mu_n H (mu_p (U.2.2.2.1 113 3)))]) rfl (show (mu_isr H (U.2.2.2.1 113 3) 100) ∧ (vp_in (nI id) (mu_n H (mu_p (U.2.2.2.1 113 3)))) from ⟨((h.iA e rfl rfl (show U.2.2.2.1 113 3 = (U.2.2.2.1 113 3) from rfl))).r, (h.vA (i := id) e rfl rfl (show U.2.2.2.1 113 3 = (U.2.2.2.1 113 3) from rfl) (show (U.2.2.1 113 3).1 = (U.2.2.1 113 3).1 from rfl) (by omega) (by omega))⟩) ?_
  rw [(show (mu_i H (mu_p (U.2.2.2.1 113 3)) (nI id).toNatClampNeg) = (nI st) from ((congrArg (mu_i H (mu_p (U.2.2.2.1 113 3))) (show (nI id).toNatClampNeg = id from nI_clamp (by omega))).trans (h.gA e rfl rfl (show U.2.2.2.1 113 3 = (U.2.2.2.1 113 3) from rfl))).trans ((congrArg (fun z => z.2 id) (show U.2.2.1 113 3 = (U.2.2.1 113 3) from rfl)).trans hst))]
  refine mw_go mu_g249 (k := 2) (f1 := (32, [(0, .inr (.inr (some 113))), (1, .inl (nI id))], [.inl ((nI st) / (8192 : Int32)), .inr (.inr (some 114))], H)) (C := [¬ (8192 : Int32) = 0]) rfl (show ¬ (8192 : Int32) = 0 from (by decide)) ?_
  rw [(show ((nI st) / (8192 : Int32)) = (nI (st / 8192)) from (nI_div (a := st) (b := 8192) (by omega) (by omega)))]
  obtain ⟨cq2, ka2, kb2, kc2, kd2⟩ := um.gP h e (plp114 (show st / 8192 < 184 by omega)) (show U.2.2.2.2.2 114 (st / 8192) = some (8192, fc) from hch)
  refine mw_go mu_g249 (k := 1) (f1 := (33, [(0, .inr (.inr (some 113))), (1, .inl (nI id))], [.inr (.inr (mu_r H 114 (nI (st / 8192)).toNatClampNeg))], H)) (C := [mu_is H (some 114) (mu_k H 114), 103 ≤ mu_k H 114 ∧ mu_k H 114 ≤ 110 ∧ mu_k H 114 ≠ 108, vp_in (nI (st / 8192)) (mu_n H 114)]) rfl (show (mu_is H (some 114) (mu_k H 114)) ∧ (103 ≤ mu_k H 114 ∧ mu_k H 114 ≤ 110 ∧ mu_k H 114 ≠ 108) ∧ (vp_in (nI (st / 8192)) (mu_n H 114)) from ⟨(by have z := (h.1.1.a (p := 114) (x := (104, 184)) rfl).1; rw [show mu_k H 114 = 104 from z.2.2]; exact z), (by have z := (h.1.1.a (p := 114) (x := (104, 184)) rfl).1; rw [show mu_k H 114 = 104 from z.2.2]; decide), (by rw [show mu_n H 114 = 184 from (h.1.1.a (p := 114) (x := (104, 184)) rfl).2]; exact vp_in_nI (n := st / 8192) (by omega) (by decide))⟩) ?_
  rw [(show (mu_r H 114 (nI (st / 8192)).toNatClampNeg) = some cq2 from (congrArg (mu_r H 114) (show (nI (st / 8192)).toNatClampNeg = st / 8192 from nI_clamp (by omega))).trans ka2)]
  refine mw_go mu_g249 (k := 2) (f1 := (37, [(0, .inr (.inr (some 113))), (1, .inl (nI id))], [.inr (.inr (mu_r H 113 3)), .inr (.inr (some cq2))], H)) (C := [mu_is H (some 113) 11]) rfl (show mu_is H (some 113) 11 from (h.1.1.is rfl)) ?_
  rw [(show mu_r H 113 3 = (U.2.2.2.1 113 3) from (ud_q (U := U) (m := m) (P := 113) (j := 3) e rfl))]
  refine mw_go mu_g249 (k := 2) (f1 := (39, [(0, .inr (.inr (some 113))), (1, .inl (nI id))], [.inl (mu_i H (mu_p (U.2.2.2.1 113 3)) (nI id).toNatClampNeg), .inr (.inr (some cq2))], H)) (C := [mu_isr H (U.2.2.2.1 113 3) 100, vp_in (nI id) (mu_n H (mu_p (U.2.2.2.1 113 3)))]) rfl (show (mu_isr H (U.2.2.2.1 113 3) 100) ∧ (vp_in (nI id) (mu_n H (mu_p (U.2.2.2.1 113 3)))) from ⟨((h.iA e rfl rfl (show U.2.2.2.1 113 3 = (U.2.2.2.1 113 3) from rfl))).r, (h.vA (i := id) e rfl rfl (show U.2.2.2.1 113 3 = (U.2.2.2.1 113 3) from rfl) (show (U.2.2.1 113 3).1 = (U.2.2.1 113 3).1 from rfl) (by omega) (by omega))⟩) ?_
  rw [(show (mu_i H (mu_p (U.2.2.2.1 113 3)) (nI id).toNatClampNeg) = (nI st) from ((congrArg (mu_i H (mu_p (U.2.2.2.1 113 3))) (show (nI id).toNatClampNeg = id from nI_clamp (by omega))).trans (h.gA e rfl rfl (show U.2.2.2.1 113 3 = (U.2.2.2.1 113 3) from rfl))).trans ((congrArg (fun z => z.2 id) (show U.2.2.1 113 3 = (U.2.2.1 113 3) from rfl)).trans hst))]
  refine mw_go mu_g249 (k := 2) (f1 := (43, [(0, .inr (.inr (some 113))), (1, .inl (nI id))], [.inl ((nI st) - (nI st) / (8192 : Int32) * (8192 : Int32)), .inr (.inr (some cq2))], H)) (C := [¬ (8192 : Int32) = 0]) rfl (show ¬ (8192 : Int32) = 0 from (by decide)) ?_
  rw [(show ((nI st) - (nI st) / (8192 : Int32) * (8192 : Int32)) = (nI (st % 8192)) from (nI_mod (a := st) (b := 8192) (by omega) (by omega)))]
  refine mw_go mu_g249 (k := 1) (f1 := (44, [(0, .inr (.inr (some 113))), (1, .inl (nI id))], [.inr (.inl (mu_l H cq2 (nI (st % 8192)).toNatClampNeg))], H)) (C := [mu_isr H (some cq2) 102, vp_in (nI (st % 8192)) (mu_n H cq2)]) rfl (show (mu_isr H (some cq2) 102) ∧ (vp_in (nI (st % 8192)) (mu_n H cq2)) from ⟨kb2.r, (by rw [kc2]; exact vp_in_nI (n := st % 8192) (by omega) (by decide))⟩) ?_
  rw [(show (mu_l H cq2 (nI (st % 8192)).toNatClampNeg) = (fc (st % 8192)) from (congrArg (mu_l H cq2) (show (nI (st % 8192)).toNatClampNeg = st % 8192 from nI_clamp (by omega))).trans (kd2 (st % 8192)))]
  refine mw_go mu_g249 (k := 3) (f1 := (49, [(0, .inr (.inr (some 113))), (1, .inl (nI id))], [.inl (((fc (st % 8192)).toInt32) &&& (32767 : Int32))], H)) (C := []) rfl trivial ?_
  exact mw_of (fun _ => mu_ret rfl trivial ⟨(((fc (st % 8192)).toInt32) &&& (32767 : Int32)), H, rfl, ⟨hsz_n, rfl⟩⟩)
theorem st_sizeA (h : um m H) (e : ud m H = U) (hs : sab U id n) : mu_TI (mu_D (d + 1)) 249 [.inr (.inr (some 113)), .inl (nI id)] H (fun x H1 => x = nI n ∧ H1 = H) := by
  obtain ⟨⟨hi1, hi2⟩, hst, hn⟩ := (show sab U id n from hs)
  refine mu_meth (M := mu_m249) rfl rfl ?_
  refine mw_ht (mu_fn_of (show [0, 1].Nodup by decide)) ?_
  refine mw_go mu_g249 (k := 2) (f1 := (4, [(0, .inr (.inr (some 113))), (1, .inl (nI id))], [.inr (.inr (mu_r H 113 3))], H)) (C := [mu_is H (some 113) 11]) rfl (show mu_is H (some 113) 11 from (h.1.1.is rfl)) ?_
  rw [(show mu_r H 113 3 = (U.2.2.2.1 113 3) from (ud_q (U := U) (m := m) (P := 113) (j := 3) e rfl))]
  refine mw_go mu_g249 (k := 2) (f1 := (6, [(0, .inr (.inr (some 113))), (1, .inl (nI id))], [.inl (mu_i H (mu_p (U.2.2.2.1 113 3)) (nI id).toNatClampNeg)], H)) (C := [mu_isr H (U.2.2.2.1 113 3) 100, vp_in (nI id) (mu_n H (mu_p (U.2.2.2.1 113 3)))]) rfl (show (mu_isr H (U.2.2.2.1 113 3) 100) ∧ (vp_in (nI id) (mu_n H (mu_p (U.2.2.2.1 113 3)))) from ⟨((h.iA e rfl rfl (show U.2.2.2.1 113 3 = (U.2.2.2.1 113 3) from rfl))).r, (h.vA (i := id) e rfl rfl (show U.2.2.2.1 113 3 = (U.2.2.2.1 113 3) from rfl) (show (U.2.2.1 113 3).1 = (U.2.2.1 113 3).1 from rfl) (by omega) (by omega))⟩) ?_
  rw [(show (mu_i H (mu_p (U.2.2.2.1 113 3)) (nI id).toNatClampNeg) = (-1 - nI n) from ((congrArg (mu_i H (mu_p (U.2.2.2.1 113 3))) (show (nI id).toNatClampNeg = id from nI_clamp (by omega))).trans (h.gA e rfl rfl (show U.2.2.2.1 113 3 = (U.2.2.2.1 113 3) from rfl))).trans ((congrArg (fun z => z.2 id) (show U.2.2.1 113 3 = (U.2.2.1 113 3) from rfl)).trans hst))]
  refine mw_if (P := (-1 - nI n) < 0) (a := 9) (b := 18) (fun _ => rfl) trivial (fun h1 => ?_) (fun h1 => absurd (sab_neg hn) h1)
  refine mw_go mu_g249 (k := 3) (f1 := (14, [(0, .inr (.inr (some 113))), (1, .inl (nI id))], [.inr (.inr (mu_r H 113 3)), .inl (-1 : Int32)], H)) (C := [mu_is H (some 113) 11]) rfl (show mu_is H (some 113) 11 from (h.1.1.is rfl)) ?_
  rw [(show mu_r H 113 3 = (U.2.2.2.1 113 3) from (ud_q (U := U) (m := m) (P := 113) (j := 3) e rfl))]
  refine mw_go mu_g249 (k := 2) (f1 := (16, [(0, .inr (.inr (some 113))), (1, .inl (nI id))], [.inl (mu_i H (mu_p (U.2.2.2.1 113 3)) (nI id).toNatClampNeg), .inl (-1 : Int32)], H)) (C := [mu_isr H (U.2.2.2.1 113 3) 100, vp_in (nI id) (mu_n H (mu_p (U.2.2.2.1 113 3)))]) rfl (show (mu_isr H (U.2.2.2.1 113 3) 100) ∧ (vp_in (nI id) (mu_n H (mu_p (U.2.2.2.1 113 3)))) from ⟨((h.iA e rfl rfl (show U.2.2.2.1 113 3 = (U.2.2.2.1 113 3) from rfl))).r, (h.vA (i := id) e rfl rfl (show U.2.2.2.1 113 3 = (U.2.2.2.1 113 3) from rfl) (show (U.2.2.1 113 3).1 = (U.2.2.1 113 3).1 from rfl) (by omega) (by omega))⟩) ?_
  rw [(show (mu_i H (mu_p (U.2.2.2.1 113 3)) (nI id).toNatClampNeg) = (-1 - nI n) from ((congrArg (mu_i H (mu_p (U.2.2.2.1 113 3))) (show (nI id).toNatClampNeg = id from nI_clamp (by omega))).trans (h.gA e rfl rfl (show U.2.2.2.1 113 3 = (U.2.2.2.1 113 3) from rfl))).trans ((congrArg (fun z => z.2 id) (show U.2.2.1 113 3 = (U.2.2.1 113 3) from rfl)).trans hst))]
  refine mw_go mu_g249 (k := 1) (f1 := (17, [(0, .inr (.inr (some 113))), (1, .inl (nI id))], [.inl ((-1 : Int32) - (-1 - nI n))], H)) (C := []) rfl trivial ?_
  exact mw_of (fun _ => mu_ret rfl trivial ⟨((-1 : Int32) - (-1 - nI n)), H, rfl, ⟨sab_back, rfl⟩⟩)
/-- PathProver$Sets.isListed(I)Z -/
abbrev mu_m246 : ev_M := (2, (some .boolean), [], ev_b246)
theorem mu_g246 : mu_good mu_m246 := mu_goodk ev_k246
theorem st_listed (h : um m H) (e : ud m H = U) (hs : sat U id st fc) : mu_TI (mu_D (d + 2)) 246 [.inr (.inr (some 113)), .inl (nI id)] H (fun x H1 => x = (if hfm fc st = 0 then 1 else 0) ∧ H1 = H) := by
  obtain ⟨⟨hi1, hi2⟩, hst, hst2, hch⟩ := (show sat U id st fc from hs)
  refine mu_meth (M := mu_m246) rfl rfl ?_
  refine mw_ht (mu_fn_of (show [0, 1].Nodup by decide)) ?_
  refine mw_go mu_g246 (k := 2) (f1 := (2, [(0, .inr (.inr (some 113))), (1, .inl (nI id))], [.inl (nI id), .inr (.inr (some 113))], H)) (C := []) rfl trivial ?_
  refine mw_cIe (fun _ => rfl) (show mu_is H (some 113) 11 from (h.1.1.is rfl)) (st_form (d := d) h e hs) ?_
  have kf := hfm_lt (fc := fc) (st := st)
  refine mw_if (P := (nI (hfm fc st)) = 0) (a := 8) (b := 12) (fun _ => rfl) trivial (fun h2 => ?_) (fun h2 => ?_)
  · -- 8: (nI (hfm fc st)) = 0
    have nh2 : (hfm fc st) = 0 := (nI_eq (by omega) (by omega)).mp (show nI (hfm fc st) = nI 0 from h2)
    refine mw_go mu_g246 (k := 2) (f1 := (13, [(0, .inr (.inr (some 113))), (1, .inl (nI id))], [.inl (1 : Int32)], H)) (C := []) rfl trivial ?_
    exact mw_of (fun _ => mu_ret rfl (Or.inr rfl) ⟨(1 : Int32), H, rfl, (if_pos nh2).symm, rfl⟩)
  · -- 12: not (nI (hfm fc st)) = 0
    have nh2 : ¬ (hfm fc st) = 0 := fun z => h2 (show nI (hfm fc st) = nI 0 from (nI_eq (by omega) (by omega)).mpr z)
    refine mw_go mu_g246 (k := 1) (f1 := (13, [(0, .inr (.inr (some 113))), (1, .inl (nI id))], [.inl (0 : Int32)], H)) (C := []) rfl trivial ?_
    exact mw_of (fun _ => mu_ret rfl (Or.inl rfl) ⟨(0 : Int32), H, rfl, (if_neg nh2).symm, rfl⟩)
/-- PathProver$Sets.contains(II)Z -/
abbrev mu_m242 : ev_M := (9, (some .boolean), [], ev_b242)
theorem mu_g242 : mu_good mu_m242 := mu_goodk ev_k242
theorem st_has0 (h : um m H) (e : ud m H = U) (hs : sat U id st fc) (hz : stz fc st S) (hx : x < 2147483648) (hf : hfm fc st = 0) : mu_TI (mu_D (d + 2)) 242 [.inr (.inr (some 113)), .inl (nI id), .inl (nI x)] H (fun r H1 => r = (if S x = true then 1 else 0) ∧ H1 = H) := by
  obtain ⟨⟨hi1, hi2⟩, hst, hst2, hch⟩ := (show sat U id st fc from hs)
  obtain ⟨hz1, hz2, hz3, hz4, hz5⟩ := hz
  obtain ⟨hm1, hm2, hm3⟩ := hz3 hf
  refine mu_meth (M := mu_m242) rfl rfl ?_
  refine mw_ht (mu_fn_of (show [0, 1, 2].Nodup by decide)) ?_
  refine mw_go mu_g242 (k := 2) (f1 := (2, [(0, .inr (.inr (some 113))), (1, .inl (nI id)), (2, .inl (nI x))], [.inl (nI id), .inr (.inr (some 113))], H)) (C := []) rfl trivial ?_
  refine mw_cIe (fun _ => rfl) (show mu_is H (some 113) 11 from (h.1.1.is rfl)) (st_form (d := d) h e hs) ?_
  rw [show nI (hfm fc st) = (0 : Int32) from congrArg nI hf]
  refine mw_go mu_g242 (k := 3) (f1 := (8, [(3, .inl (0 : Int32)), (0, .inr (.inr (some 113))), (1, .inl (nI id)), (2, .inl (nI x))], [.inl (nI id), .inr (.inr (some 113))], H)) (C := []) rfl trivial ?_
  refine mw_cIe (fun _ => rfl) (show mu_is H (some 113) 11 from (h.1.1.is rfl)) (st_parts (d := d) h e hs) ?_
  rw [show nI (hpt fc st) = nI (hsz fc st) from congrArg nI (by unfold hpt; rw [hf]; rfl)]
  have kl := hln_lt (fc := fc) (st := st)
  have kz := hsz_lt (fc := fc) (st := st)
  refine mw_go mu_g242 (k := 3) (f1 := (15, [(4, .inl (nI (hsz fc st))), (3, .inl (0 : Int32)), (0, .inr (.inr (some 113))), (1, .inl (nI id)), (2, .inl (nI x))], [.inl (2 : Int32), .inl (0 : Int32)], H)) (C := []) rfl trivial ?_
  refine mw_if (P := (0 : Int32) = (2 : Int32)) (a := 18) (b := 79) (fun _ => rfl) trivial (fun h3 => absurd h3 (by decide)) (fun h3 => ?_)
  refine mw_go mu_g242 (k := 1) (f1 := (80, [(4, .inl (nI (hsz fc st))), (3, .inl (0 : Int32)), (0, .inr (.inr (some 113))), (1, .inl (nI id)), (2, .inl (nI x))], [.inl (0 : Int32)], H)) (C := []) rfl trivial ?_
  refine mw_if (P := (0 : Int32) = 0) (a := 83) (b := 87) (fun _ => rfl) trivial (fun h4 => ?_) (fun h4 => absurd (by decide) h4)
  refine mw_go mu_g242 (k := 7) (f1 := (97, [(7, .inl (nI (hsz fc st))), (6, .inl (0 : Int32)), (5, .inl (1 : Int32)), (4, .inl (nI (hsz fc st))), (3, .inl (0 : Int32)), (0, .inr (.inr (some 113))), (1, .inl (nI id)), (2, .inl (nI x))], [], H)) (C := []) rfl trivial ?_
  show mu_W _ _ (97, [(7, .inl (nI (hsz fc st))), (6, .inl (nI 0)), (5, .inl (1 : Int32)), (4, .inl (nI (hsz fc st))), (3, .inl (0 : Int32)), (0, .inr (.inr (some 113))), (1, .inl (nI id)), (2, .inl (nI x))], [], H) _
  refine mw_sub (L' := [(6, .inl (nI 0)), (7, .inl (nI (hsz fc st))), (0, .inr (.inr (some 113))), (1, .inl (nI id)), (2, .inl (nI x)), (3, .inl (0 : Int32)), (4, .inl (nI (hsz fc st))), (5, .inl (1 : Int32))]) (by simp) ?_
  refine mw_down (α := Nat × Nat) (fun zs => (97, [(6, .inl (nI zs.1)), (7, .inl (nI zs.2)), (0, .inr (.inr (some 113))), (1, .inl (nI id)), (2, .inl (nI x)), (3, .inl (0 : Int32)), (4, .inl (nI (hsz fc st))), (5, .inl (1 : Int32))], [], H)) (fun zs => zs.2 - zs.1) (fun zs => (zs.1 ≤ zs.2 ∧ zs.2 ≤ hsz fc st) ∧ (∀ i, i < zs.1 → nmzU fc st (1 * i + 1 - 1) < x) ∧ (∀ i, zs.2 ≤ i → i < hsz fc st → x ≤ nmzU fc st (1 * i + 1 - 1))) (fun zs hza iha => ?_) (0, hsz fc st) ⟨(show 0 ≤ (hsz fc st) ∧ (hsz fc st) ≤ hsz fc st from (by omega)), (show ∀ i, i < 0 → nmzU fc st (1 * i + 1 - 1) < x from (fun i hi => absurd hi (Nat.not_lt_zero _))), (show ∀ i, (hsz fc st) ≤ i → i < hsz fc st → x ≤ nmzU fc st (1 * i + 1 - 1) from (fun i hi1 hi2 => absurd hi2 (by omega)))⟩
  obtain ⟨lo, hi⟩ := zs
  obtain ⟨hl, ha, hb⟩ := hza
  have hl : lo ≤ hi ∧ hi ≤ hsz fc st := hl
  have ha : ∀ i, i < lo → nmzU fc st (1 * i + 1 - 1) < x := ha
  have hb : ∀ i, hi ≤ i → i < hsz fc st → x ≤ nmzU fc st (1 * i + 1 - 1) := hb
  show mu_W _ _ (97, [(6, .inl (nI lo)), (7, .inl (nI hi)), (0, .inr (.inr (some 113))), (1, .inl (nI id)), (2, .inl (nI x)), (3, .inl (0 : Int32)), (4, .inl (nI (hsz fc st))), (5, .inl (1 : Int32))], [], H) _
  refine mw_go mu_g242 (k := 2) (f1 := (101, [(6, .inl (nI lo)), (7, .inl (nI hi)), (0, .inr (.inr (some 113))), (1, .inl (nI id)), (2, .inl (nI x)), (3, .inl (0 : Int32)), (4, .inl (nI (hsz fc st))), (5, .inl (1 : Int32))], [.inl (nI hi), .inl (nI lo)], H)) (C := []) rfl trivial ?_
  refine mw_if (P := (nI lo) < (nI hi)) (a := 104) (b := 148) (fun _ => rfl) trivial (fun h5 => ?_) (fun h5 => ?_)
  · -- 104: (nI lo) < (nI hi)
    have nh5 : lo < hi := (nI_ltI (by omega) (by omega)).mp (show nI lo < nI hi from h5)
    refine mw_go mu_g242 (k := 3) (f1 := (109, [(6, .inl (nI lo)), (7, .inl (nI hi)), (0, .inr (.inr (some 113))), (1, .inl (nI id)), (2, .inl (nI x)), (3, .inl (0 : Int32)), (4, .inl (nI (hsz fc st))), (5, .inl (1 : Int32))], [.inl ((nI lo) + (nI hi))], H)) (C := []) rfl trivial ?_
    rw [(show ((nI lo) + (nI hi)) = (nI (lo + hi)) from (nI_add lo hi))]
    refine mw_go mu_g242 (k := 2) (f1 := (111, [(6, .inl (nI lo)), (7, .inl (nI hi)), (0, .inr (.inr (some 113))), (1, .inl (nI id)), (2, .inl (nI x)), (3, .inl (0 : Int32)), (4, .inl (nI (hsz fc st))), (5, .inl (1 : Int32))], [.inl (((nI (lo + hi)).toUInt32 >>> ((1 : Int32).toUInt32 &&& Int32.toUInt32 31)).toInt32)], H)) (C := []) rfl trivial ?_
    rw [show (((nI (lo + hi)).toUInt32 >>> ((1 : Int32).toUInt32 &&& Int32.toUInt32 31)).toInt32) = (nI ((lo + hi) / 2)) from nI_ushr1 (by omega)]
    refine mw_go mu_g242 (k := 6) (f1 := (120, [(8, .inl (nI ((lo + hi) / 2))), (6, .inl (nI lo)), (7, .inl (nI hi)), (0, .inr (.inr (some 113))), (1, .inl (nI id)), (2, .inl (nI x)), (3, .inl (0 : Int32)), (4, .inl (nI (hsz fc st))), (5, .inl (1 : Int32))], [.inl ((1 : Int32) * (nI ((lo + hi) / 2))), .inl (nI id), .inr (.inr (some 113))], H)) (C := []) rfl trivial ?_
    rw [(show ((1 : Int32) * (nI ((lo + hi) / 2))) = (nI (1 * ((lo + hi) / 2))) from (nI_mul (a := 1) (b := (lo + hi) / 2)))]
    refine mw_go mu_g242 (k := 2) (f1 := (123, [(8, .inl (nI ((lo + hi) / 2))), (6, .inl (nI lo)), (7, .inl (nI hi)), (0, .inr (.inr (some 113))), (1, .inl (nI id)), (2, .inl (nI x)), (3, .inl (0 : Int32)), (4, .inl (nI (hsz fc st))), (5, .inl (1 : Int32))], [.inl ((nI (1 * ((lo + hi) / 2))) + (1 : Int32)), .inl (nI id), .inr (.inr (some 113))], H)) (C := []) rfl trivial ?_
    rw [(show ((nI (1 * ((lo + hi) / 2))) + (1 : Int32)) = (nI ((1 * ((lo + hi) / 2)) + 1)) from (nI_add (1 * ((lo + hi) / 2)) 1))]
    refine mw_go mu_g242 (k := 2) (f1 := (125, [(8, .inl (nI ((lo + hi) / 2))), (6, .inl (nI lo)), (7, .inl (nI hi)), (0, .inr (.inr (some 113))), (1, .inl (nI id)), (2, .inl (nI x)), (3, .inl (0 : Int32)), (4, .inl (nI (hsz fc st))), (5, .inl (1 : Int32))], [.inl ((nI ((1 * ((lo + hi) / 2)) + 1)) - (1 : Int32)), .inl (nI id), .inr (.inr (some 113))], H)) (C := []) rfl trivial ?_
    rw [(show ((nI ((1 * ((lo + hi) / 2)) + 1)) - (1 : Int32)) = (nI (((1 * ((lo + hi) / 2)) + 1) - 1)) from (nI_sub (a := (1 * ((lo + hi) / 2)) + 1) (b := 1) (by omega)))]
    refine mw_cIe (fun _ => rfl) (show mu_is H (some 113) 11 from (h.1.1.is rfl)) (st_num (d := d) (p := ((1 * ((lo + hi) / 2)) + 1) - 1) h e hs (by omega) (by omega)) ?_
    have kn6 := nmz_lt (fc := fc) (st := st) (p := ((1 * ((lo + hi) / 2)) + 1) - 1)
    refine mw_go mu_g242 (k := 1) (f1 := (129, [(8, .inl (nI ((lo + hi) / 2))), (6, .inl (nI lo)), (7, .inl (nI hi)), (0, .inr (.inr (some 113))), (1, .inl (nI id)), (2, .inl (nI x)), (3, .inl (0 : Int32)), (4, .inl (nI (hsz fc st))), (5, .inl (1 : Int32))], [.inl (nI x), .inl (nI (nmzU fc st (((1 * ((lo + hi) / 2)) + 1) - 1)))], H)) (C := []) rfl trivial ?_
    refine mw_if (P := (nI (nmzU fc st (((1 * ((lo + hi) / 2)) + 1) - 1))) < (nI x)) (a := 132) (b := 141) (fun _ => rfl) trivial (fun h7 => ?_) (fun h7 => ?_)
    · -- 132: (nI (nmzU fc st (((1 * ((lo + hi) / 2)) + 1) - 1))) < (nI x)
      have nh7 : (nmzU fc st (((1 * ((lo + hi) / 2)) + 1) - 1)) < x := (nI_ltI (by omega) (by omega)).mp (show nI (nmzU fc st (((1 * ((lo + hi) / 2)) + 1) - 1)) < nI x from h7)
      refine mw_go mu_g242 (k := 3) (f1 := (136, [(8, .inl (nI ((lo + hi) / 2))), (6, .inl (nI lo)), (7, .inl (nI hi)), (0, .inr (.inr (some 113))), (1, .inl (nI id)), (2, .inl (nI x)), (3, .inl (0 : Int32)), (4, .inl (nI (hsz fc st))), (5, .inl (1 : Int32))], [.inl ((nI ((lo + hi) / 2)) + (1 : Int32))], H)) (C := []) rfl trivial ?_
      rw [(show ((nI ((lo + hi) / 2)) + (1 : Int32)) = (nI (((lo + hi) / 2) + 1)) from (nI_add ((lo + hi) / 2) 1))]
      refine mw_go mu_g242 (k := 3) (f1 := (97, [(6, .inl (nI (((lo + hi) / 2) + 1))), (8, .inl (nI ((lo + hi) / 2))), (7, .inl (nI hi)), (0, .inr (.inr (some 113))), (1, .inl (nI id)), (2, .inl (nI x)), (3, .inl (0 : Int32)), (4, .inl (nI (hsz fc st))), (5, .inl (1 : Int32))], [], H)) (C := []) rfl trivial ?_
      exact mw_sub (by simp) (iha (((lo + hi) / 2) + 1, hi) ⟨(show (((lo + hi) / 2) + 1) ≤ hi ∧ hi ≤ hsz fc st from (by omega)), (show ∀ i, i < (((lo + hi) / 2) + 1) → nmzU fc st (1 * i + 1 - 1) < x from (fun i hi3 => Nat.lt_of_le_of_lt (hm3.1 i ((lo + hi) / 2) (by omega) (by omega)).2 nh7)), (show ∀ i, hi ≤ i → i < hsz fc st → x ≤ nmzU fc st (1 * i + 1 - 1) from hb)⟩ (by show hi - (((lo + hi) / 2) + 1) < hi - lo; omega))
    · -- 141: not (nI (nmzU fc st (((1 * ((lo + hi) / 2)) + 1) - 1))) < (nI x)
      have nh7 : ¬ (nmzU fc st (((1 * ((lo + hi) / 2)) + 1) - 1)) < x := fun z => h7 (show nI (nmzU fc st (((1 * ((lo + hi) / 2)) + 1) - 1)) < nI x from (nI_ltI (by omega) (by omega)).mpr z)
      refine mw_go mu_g242 (k := 3) (f1 := (97, [(7, .inl (nI ((lo + hi) / 2))), (8, .inl (nI ((lo + hi) / 2))), (6, .inl (nI lo)), (0, .inr (.inr (some 113))), (1, .inl (nI id)), (2, .inl (nI x)), (3, .inl (0 : Int32)), (4, .inl (nI (hsz fc st))), (5, .inl (1 : Int32))], [], H)) (C := []) rfl trivial ?_
      exact mw_sub (by simp) (iha (lo, (lo + hi) / 2) ⟨(show lo ≤ ((lo + hi) / 2) ∧ ((lo + hi) / 2) ≤ hsz fc st from (by omega)), (show ∀ i, i < lo → nmzU fc st (1 * i + 1 - 1) < x from ha), (show ∀ i, ((lo + hi) / 2) ≤ i → i < hsz fc st → x ≤ nmzU fc st (1 * i + 1 - 1) from (fun i hi3 hi4 => Nat.le_trans (Nat.le_of_not_lt nh7) (hm3.1 ((lo + hi) / 2) i hi3 hi4).2))⟩ (by show ((lo + hi) / 2) - lo < hi - lo; omega))
  · -- 148: not (nI lo) < (nI hi)
    have nh5 : ¬ lo < hi := fun z => h5 (show nI lo < nI hi from (nI_ltI (by omega) (by omega)).mpr z)
    refine mw_go mu_g242 (k := 2) (f1 := (152, [(6, .inl (nI lo)), (7, .inl (nI hi)), (0, .inr (.inr (some 113))), (1, .inl (nI id)), (2, .inl (nI x)), (3, .inl (0 : Int32)), (4, .inl (nI (hsz fc st))), (5, .inl (1 : Int32))], [.inl (nI (hsz fc st)), .inl (nI lo)], H)) (C := []) rfl trivial ?_
    refine mw_if (P := (nI lo) < (nI (hsz fc st))) (a := 155) (b := 173) (fun _ => rfl) trivial (fun h8 => ?_) (fun h8 => ?_)
    · -- 155: (nI lo) < (nI (hsz fc st))
      have nh8 : lo < (hsz fc st) := (nI_ltI (by omega) (by omega)).mp (show nI lo < nI (hsz fc st) from h8)
      refine mw_go mu_g242 (k := 5) (f1 := (162, [(6, .inl (nI lo)), (7, .inl (nI hi)), (0, .inr (.inr (some 113))), (1, .inl (nI id)), (2, .inl (nI x)), (3, .inl (0 : Int32)), (4, .inl (nI (hsz fc st))), (5, .inl (1 : Int32))], [.inl ((1 : Int32) * (nI lo)), .inl (nI id), .inr (.inr (some 113))], H)) (C := []) rfl trivial ?_
      rw [(show ((1 : Int32) * (nI lo)) = (nI (1 * lo)) from (nI_mul (a := 1) (b := lo)))]
      refine mw_cIe (fun _ => rfl) (show mu_is H (some 113) 11 from (h.1.1.is rfl)) (st_num (d := d) (p := 1 * lo) h e hs (by omega) (by omega)) ?_
      have kn9 := nmz_lt (fc := fc) (st := st) (p := 1 * lo)
      refine mw_go mu_g242 (k := 1) (f1 := (166, [(6, .inl (nI lo)), (7, .inl (nI hi)), (0, .inr (.inr (some 113))), (1, .inl (nI id)), (2, .inl (nI x)), (3, .inl (0 : Int32)), (4, .inl (nI (hsz fc st))), (5, .inl (1 : Int32))], [.inl (nI x), .inl (nI (nmzU fc st (1 * lo)))], H)) (C := []) rfl trivial ?_
      refine mw_if (P := (nI x) < (nI (nmzU fc st (1 * lo)))) (a := 173) (b := 169) (fun _ => rfl) trivial (fun h10 => ?_) (fun h10 => ?_)
      · -- 173: (nI x) < (nI (nmzU fc st (1 * lo)))
        have nh10 : x < (nmzU fc st (1 * lo)) := (nI_ltI (by omega) (by omega)).mp (show nI x < nI (nmzU fc st (1 * lo)) from h10)
        refine mw_go mu_g242 (k := 1) (f1 := (174, [(6, .inl (nI lo)), (7, .inl (nI hi)), (0, .inr (.inr (some 113))), (1, .inl (nI id)), (2, .inl (nI x)), (3, .inl (0 : Int32)), (4, .inl (nI (hsz fc st))), (5, .inl (1 : Int32))], [.inl (0 : Int32)], H)) (C := []) rfl trivial ?_
        exact mw_of (fun _ => mu_ret rfl (Or.inl rfl) ⟨(0 : Int32), H, rfl, (if_neg (mrk_no hm3 ha (fun _ => nh10))).symm, rfl⟩)
      · -- 169: not (nI x) < (nI (nmzU fc st (1 * lo)))
        have nh10 : ¬ x < (nmzU fc st (1 * lo)) := fun z => h10 (show nI x < nI (nmzU fc st (1 * lo)) from (nI_ltI (by omega) (by omega)).mpr z)
        refine mw_go mu_g242 (k := 2) (f1 := (174, [(6, .inl (nI lo)), (7, .inl (nI hi)), (0, .inr (.inr (some 113))), (1, .inl (nI id)), (2, .inl (nI x)), (3, .inl (0 : Int32)), (4, .inl (nI (hsz fc st))), (5, .inl (1 : Int32))], [.inl (1 : Int32)], H)) (C := []) rfl trivial ?_
        exact mw_of (fun _ => mu_ret rfl (Or.inr rfl) ⟨(1 : Int32), H, rfl, (if_pos (mrk_yes hm3 (lo := lo) (by omega) nh10 (hb lo (by omega) (by omega)))).symm, rfl⟩)
    · -- 173: not (nI lo) < (nI (hsz fc st))
      have nh8 : ¬ lo < (hsz fc st) := fun z => h8 (show nI lo < nI (hsz fc st) from (nI_ltI (by omega) (by omega)).mpr z)
      refine mw_go mu_g242 (k := 1) (f1 := (174, [(6, .inl (nI lo)), (7, .inl (nI hi)), (0, .inr (.inr (some 113))), (1, .inl (nI id)), (2, .inl (nI x)), (3, .inl (0 : Int32)), (4, .inl (nI (hsz fc st))), (5, .inl (1 : Int32))], [.inl (0 : Int32)], H)) (C := []) rfl trivial ?_
      exact mw_of (fun _ => mu_ret rfl (Or.inl rfl) ⟨(0 : Int32), H, rfl, (if_neg (mrk_no hm3 ha (fun z => absurd z (by omega)))).symm, rfl⟩)
theorem st_has1 (h : um m H) (e : ud m H = U) (hs : sat U id st fc) (hz : stz fc st S) (hx : x < 2147483648) (hf : hfm fc st = 1) : mu_TI (mu_D (d + 2)) 242 [.inr (.inr (some 113)), .inl (nI id), .inl (nI x)] H (fun r H1 => r = (if S x = true then 1 else 0) ∧ H1 = H) := by
  obtain ⟨⟨hi1, hi2⟩, hst, hst2, hch⟩ := (show sat U id st fc from hs)
  obtain ⟨hz1, hz2, hz3, hz4, hz5⟩ := hz
  obtain ⟨hm2, hm3⟩ := hz4 hf
  refine mu_meth (M := mu_m242) rfl rfl ?_
  refine mw_ht (mu_fn_of (show [0, 1, 2].Nodup by decide)) ?_
  refine mw_go mu_g242 (k := 2) (f1 := (2, [(0, .inr (.inr (some 113))), (1, .inl (nI id)), (2, .inl (nI x))], [.inl (nI id), .inr (.inr (some 113))], H)) (C := []) rfl trivial ?_
  refine mw_cIe (fun _ => rfl) (show mu_is H (some 113) 11 from (h.1.1.is rfl)) (st_form (d := d) h e hs) ?_
  rw [show nI (hfm fc st) = (1 : Int32) from congrArg nI hf]
  refine mw_go mu_g242 (k := 3) (f1 := (8, [(3, .inl (1 : Int32)), (0, .inr (.inr (some 113))), (1, .inl (nI id)), (2, .inl (nI x))], [.inl (nI id), .inr (.inr (some 113))], H)) (C := []) rfl trivial ?_
  refine mw_cIe (fun _ => rfl) (show mu_is H (some 113) 11 from (h.1.1.is rfl)) (st_parts (d := d) h e hs) ?_
  rw [show nI (hpt fc st) = nI (2 * hln fc st) from congrArg nI (by unfold hpt; rw [hf]; rfl)]
  have kl := hln_lt (fc := fc) (st := st)
  have kz := hsz_lt (fc := fc) (st := st)
  refine mw_go mu_g242 (k := 3) (f1 := (15, [(4, .inl (nI (2 * hln fc st))), (3, .inl (1 : Int32)), (0, .inr (.inr (some 113))), (1, .inl (nI id)), (2, .inl (nI x))], [.inl (2 : Int32), .inl (1 : Int32)], H)) (C := []) rfl trivial ?_
  refine mw_if (P := (1 : Int32) = (2 : Int32)) (a := 18) (b := 79) (fun _ => rfl) trivial (fun h3 => absurd h3 (by decide)) (fun h3 => ?_)
  refine mw_go mu_g242 (k := 1) (f1 := (80, [(4, .inl (nI (2 * hln fc st))), (3, .inl (1 : Int32)), (0, .inr (.inr (some 113))), (1, .inl (nI id)), (2, .inl (nI x))], [.inl (1 : Int32)], H)) (C := []) rfl trivial ?_
  refine mw_if (P := (1 : Int32) = 0) (a := 83) (b := 87) (fun _ => rfl) trivial (fun h4 => absurd h4 (by decide)) (fun h4 => ?_)
  refine mw_go mu_g242 (k := 6) (f1 := (97, [(7, .inl (nI (2 * hln fc st))), (6, .inl (0 : Int32)), (5, .inl (2 : Int32)), (4, .inl (nI (2 * hln fc st))), (3, .inl (1 : Int32)), (0, .inr (.inr (some 113))), (1, .inl (nI id)), (2, .inl (nI x))], [], H)) (C := []) rfl trivial ?_
  show mu_W _ _ (97, [(7, .inl (nI (2 * hln fc st))), (6, .inl (nI 0)), (5, .inl (2 : Int32)), (4, .inl (nI (2 * hln fc st))), (3, .inl (1 : Int32)), (0, .inr (.inr (some 113))), (1, .inl (nI id)), (2, .inl (nI x))], [], H) _
  refine mw_sub (L' := [(6, .inl (nI 0)), (7, .inl (nI (2 * hln fc st))), (0, .inr (.inr (some 113))), (1, .inl (nI id)), (2, .inl (nI x)), (3, .inl (1 : Int32)), (4, .inl (nI (2 * hln fc st))), (5, .inl (2 : Int32))]) (by simp) ?_
  refine mw_down (α := Nat × Nat) (fun zs => (97, [(6, .inl (nI zs.1)), (7, .inl (nI zs.2)), (0, .inr (.inr (some 113))), (1, .inl (nI id)), (2, .inl (nI x)), (3, .inl (1 : Int32)), (4, .inl (nI (2 * hln fc st))), (5, .inl (2 : Int32))], [], H)) (fun zs => zs.2 - zs.1) (fun zs => (zs.1 ≤ zs.2 ∧ zs.2 ≤ 2 * hln fc st) ∧ (∀ i, i < zs.1 → nmzU fc st (2 * i + 2 - 1) < x) ∧ (∀ i, zs.2 ≤ i → i < 2 * hln fc st → x ≤ nmzU fc st (2 * i + 2 - 1))) (fun zs hza iha => ?_) (0, 2 * hln fc st) ⟨(show 0 ≤ (2 * hln fc st) ∧ (2 * hln fc st) ≤ 2 * hln fc st from (by omega)), (show ∀ i, i < 0 → nmzU fc st (2 * i + 2 - 1) < x from (fun i hi => absurd hi (Nat.not_lt_zero _))), (show ∀ i, (2 * hln fc st) ≤ i → i < 2 * hln fc st → x ≤ nmzU fc st (2 * i + 2 - 1) from (fun i hi1 hi2 => absurd hi2 (by omega)))⟩
  obtain ⟨lo, hi⟩ := zs
  obtain ⟨hl, ha, hb⟩ := hza
  have hl : lo ≤ hi ∧ hi ≤ 2 * hln fc st := hl
  have ha : ∀ i, i < lo → nmzU fc st (2 * i + 2 - 1) < x := ha
  have hb : ∀ i, hi ≤ i → i < 2 * hln fc st → x ≤ nmzU fc st (2 * i + 2 - 1) := hb
  show mu_W _ _ (97, [(6, .inl (nI lo)), (7, .inl (nI hi)), (0, .inr (.inr (some 113))), (1, .inl (nI id)), (2, .inl (nI x)), (3, .inl (1 : Int32)), (4, .inl (nI (2 * hln fc st))), (5, .inl (2 : Int32))], [], H) _
  refine mw_go mu_g242 (k := 2) (f1 := (101, [(6, .inl (nI lo)), (7, .inl (nI hi)), (0, .inr (.inr (some 113))), (1, .inl (nI id)), (2, .inl (nI x)), (3, .inl (1 : Int32)), (4, .inl (nI (2 * hln fc st))), (5, .inl (2 : Int32))], [.inl (nI hi), .inl (nI lo)], H)) (C := []) rfl trivial ?_
  refine mw_if (P := (nI lo) < (nI hi)) (a := 104) (b := 148) (fun _ => rfl) trivial (fun h5 => ?_) (fun h5 => ?_)
  · -- 104: (nI lo) < (nI hi)
    have nh5 : lo < hi := (nI_ltI (by omega) (by omega)).mp (show nI lo < nI hi from h5)
    refine mw_go mu_g242 (k := 3) (f1 := (109, [(6, .inl (nI lo)), (7, .inl (nI hi)), (0, .inr (.inr (some 113))), (1, .inl (nI id)), (2, .inl (nI x)), (3, .inl (1 : Int32)), (4, .inl (nI (2 * hln fc st))), (5, .inl (2 : Int32))], [.inl ((nI lo) + (nI hi))], H)) (C := []) rfl trivial ?_
    rw [(show ((nI lo) + (nI hi)) = (nI (lo + hi)) from (nI_add lo hi))]
    refine mw_go mu_g242 (k := 2) (f1 := (111, [(6, .inl (nI lo)), (7, .inl (nI hi)), (0, .inr (.inr (some 113))), (1, .inl (nI id)), (2, .inl (nI x)), (3, .inl (1 : Int32)), (4, .inl (nI (2 * hln fc st))), (5, .inl (2 : Int32))], [.inl (((nI (lo + hi)).toUInt32 >>> ((1 : Int32).toUInt32 &&& Int32.toUInt32 31)).toInt32)], H)) (C := []) rfl trivial ?_
    rw [show (((nI (lo + hi)).toUInt32 >>> ((1 : Int32).toUInt32 &&& Int32.toUInt32 31)).toInt32) = (nI ((lo + hi) / 2)) from nI_ushr1 (by omega)]
    refine mw_go mu_g242 (k := 6) (f1 := (120, [(8, .inl (nI ((lo + hi) / 2))), (6, .inl (nI lo)), (7, .inl (nI hi)), (0, .inr (.inr (some 113))), (1, .inl (nI id)), (2, .inl (nI x)), (3, .inl (1 : Int32)), (4, .inl (nI (2 * hln fc st))), (5, .inl (2 : Int32))], [.inl ((2 : Int32) * (nI ((lo + hi) / 2))), .inl (nI id), .inr (.inr (some 113))], H)) (C := []) rfl trivial ?_
    rw [(show ((2 : Int32) * (nI ((lo + hi) / 2))) = (nI (2 * ((lo + hi) / 2))) from (nI_mul (a := 2) (b := (lo + hi) / 2)))]
    refine mw_go mu_g242 (k := 2) (f1 := (123, [(8, .inl (nI ((lo + hi) / 2))), (6, .inl (nI lo)), (7, .inl (nI hi)), (0, .inr (.inr (some 113))), (1, .inl (nI id)), (2, .inl (nI x)), (3, .inl (1 : Int32)), (4, .inl (nI (2 * hln fc st))), (5, .inl (2 : Int32))], [.inl ((nI (2 * ((lo + hi) / 2))) + (2 : Int32)), .inl (nI id), .inr (.inr (some 113))], H)) (C := []) rfl trivial ?_
    rw [(show ((nI (2 * ((lo + hi) / 2))) + (2 : Int32)) = (nI ((2 * ((lo + hi) / 2)) + 2)) from (nI_add (2 * ((lo + hi) / 2)) 2))]
    refine mw_go mu_g242 (k := 2) (f1 := (125, [(8, .inl (nI ((lo + hi) / 2))), (6, .inl (nI lo)), (7, .inl (nI hi)), (0, .inr (.inr (some 113))), (1, .inl (nI id)), (2, .inl (nI x)), (3, .inl (1 : Int32)), (4, .inl (nI (2 * hln fc st))), (5, .inl (2 : Int32))], [.inl ((nI ((2 * ((lo + hi) / 2)) + 2)) - (1 : Int32)), .inl (nI id), .inr (.inr (some 113))], H)) (C := []) rfl trivial ?_
    rw [(show ((nI ((2 * ((lo + hi) / 2)) + 2)) - (1 : Int32)) = (nI (((2 * ((lo + hi) / 2)) + 2) - 1)) from (nI_sub (a := (2 * ((lo + hi) / 2)) + 2) (b := 1) (by omega)))]
    refine mw_cIe (fun _ => rfl) (show mu_is H (some 113) 11 from (h.1.1.is rfl)) (st_num (d := d) (p := ((2 * ((lo + hi) / 2)) + 2) - 1) h e hs (by omega) (by omega)) ?_
    have kn6 := nmz_lt (fc := fc) (st := st) (p := ((2 * ((lo + hi) / 2)) + 2) - 1)
    refine mw_go mu_g242 (k := 1) (f1 := (129, [(8, .inl (nI ((lo + hi) / 2))), (6, .inl (nI lo)), (7, .inl (nI hi)), (0, .inr (.inr (some 113))), (1, .inl (nI id)), (2, .inl (nI x)), (3, .inl (1 : Int32)), (4, .inl (nI (2 * hln fc st))), (5, .inl (2 : Int32))], [.inl (nI x), .inl (nI (nmzU fc st (((2 * ((lo + hi) / 2)) + 2) - 1)))], H)) (C := []) rfl trivial ?_
    refine mw_if (P := (nI (nmzU fc st (((2 * ((lo + hi) / 2)) + 2) - 1))) < (nI x)) (a := 132) (b := 141) (fun _ => rfl) trivial (fun h7 => ?_) (fun h7 => ?_)
    · -- 132: (nI (nmzU fc st (((2 * ((lo + hi) / 2)) + 2) - 1))) < (nI x)
      have nh7 : (nmzU fc st (((2 * ((lo + hi) / 2)) + 2) - 1)) < x := (nI_ltI (by omega) (by omega)).mp (show nI (nmzU fc st (((2 * ((lo + hi) / 2)) + 2) - 1)) < nI x from h7)
      refine mw_go mu_g242 (k := 3) (f1 := (136, [(8, .inl (nI ((lo + hi) / 2))), (6, .inl (nI lo)), (7, .inl (nI hi)), (0, .inr (.inr (some 113))), (1, .inl (nI id)), (2, .inl (nI x)), (3, .inl (1 : Int32)), (4, .inl (nI (2 * hln fc st))), (5, .inl (2 : Int32))], [.inl ((nI ((lo + hi) / 2)) + (1 : Int32))], H)) (C := []) rfl trivial ?_
      rw [(show ((nI ((lo + hi) / 2)) + (1 : Int32)) = (nI (((lo + hi) / 2) + 1)) from (nI_add ((lo + hi) / 2) 1))]
      refine mw_go mu_g242 (k := 3) (f1 := (97, [(6, .inl (nI (((lo + hi) / 2) + 1))), (8, .inl (nI ((lo + hi) / 2))), (7, .inl (nI hi)), (0, .inr (.inr (some 113))), (1, .inl (nI id)), (2, .inl (nI x)), (3, .inl (1 : Int32)), (4, .inl (nI (2 * hln fc st))), (5, .inl (2 : Int32))], [], H)) (C := []) rfl trivial ?_
      exact mw_sub (by simp) (iha (((lo + hi) / 2) + 1, hi) ⟨(show (((lo + hi) / 2) + 1) ≤ hi ∧ hi ≤ 2 * hln fc st from (by omega)), (show ∀ i, i < (((lo + hi) / 2) + 1) → nmzU fc st (2 * i + 2 - 1) < x from (fun i hi3 => Nat.lt_of_le_of_lt (hm3.1 i ((lo + hi) / 2) (by omega) (by omega)).2 nh7)), (show ∀ i, hi ≤ i → i < 2 * hln fc st → x ≤ nmzU fc st (2 * i + 2 - 1) from hb)⟩ (by show hi - (((lo + hi) / 2) + 1) < hi - lo; omega))
    · -- 141: not (nI (nmzU fc st (((2 * ((lo + hi) / 2)) + 2) - 1))) < (nI x)
      have nh7 : ¬ (nmzU fc st (((2 * ((lo + hi) / 2)) + 2) - 1)) < x := fun z => h7 (show nI (nmzU fc st (((2 * ((lo + hi) / 2)) + 2) - 1)) < nI x from (nI_ltI (by omega) (by omega)).mpr z)
      refine mw_go mu_g242 (k := 3) (f1 := (97, [(7, .inl (nI ((lo + hi) / 2))), (8, .inl (nI ((lo + hi) / 2))), (6, .inl (nI lo)), (0, .inr (.inr (some 113))), (1, .inl (nI id)), (2, .inl (nI x)), (3, .inl (1 : Int32)), (4, .inl (nI (2 * hln fc st))), (5, .inl (2 : Int32))], [], H)) (C := []) rfl trivial ?_
      exact mw_sub (by simp) (iha (lo, (lo + hi) / 2) ⟨(show lo ≤ ((lo + hi) / 2) ∧ ((lo + hi) / 2) ≤ 2 * hln fc st from (by omega)), (show ∀ i, i < lo → nmzU fc st (2 * i + 2 - 1) < x from ha), (show ∀ i, ((lo + hi) / 2) ≤ i → i < 2 * hln fc st → x ≤ nmzU fc st (2 * i + 2 - 1) from (fun i hi3 hi4 => Nat.le_trans (Nat.le_of_not_lt nh7) (hm3.1 ((lo + hi) / 2) i hi3 hi4).2))⟩ (by show ((lo + hi) / 2) - lo < hi - lo; omega))
  · -- 148: not (nI lo) < (nI hi)
    have nh5 : ¬ lo < hi := fun z => h5 (show nI lo < nI hi from (nI_ltI (by omega) (by omega)).mpr z)
    refine mw_go mu_g242 (k := 2) (f1 := (152, [(6, .inl (nI lo)), (7, .inl (nI hi)), (0, .inr (.inr (some 113))), (1, .inl (nI id)), (2, .inl (nI x)), (3, .inl (1 : Int32)), (4, .inl (nI (2 * hln fc st))), (5, .inl (2 : Int32))], [.inl (nI (2 * hln fc st)), .inl (nI lo)], H)) (C := []) rfl trivial ?_
    refine mw_if (P := (nI lo) < (nI (2 * hln fc st))) (a := 155) (b := 173) (fun _ => rfl) trivial (fun h8 => ?_) (fun h8 => ?_)
    · -- 155: (nI lo) < (nI (2 * hln fc st))
      have nh8 : lo < (2 * hln fc st) := (nI_ltI (by omega) (by omega)).mp (show nI lo < nI (2 * hln fc st) from h8)
      refine mw_go mu_g242 (k := 5) (f1 := (162, [(6, .inl (nI lo)), (7, .inl (nI hi)), (0, .inr (.inr (some 113))), (1, .inl (nI id)), (2, .inl (nI x)), (3, .inl (1 : Int32)), (4, .inl (nI (2 * hln fc st))), (5, .inl (2 : Int32))], [.inl ((2 : Int32) * (nI lo)), .inl (nI id), .inr (.inr (some 113))], H)) (C := []) rfl trivial ?_
      rw [(show ((2 : Int32) * (nI lo)) = (nI (2 * lo)) from (nI_mul (a := 2) (b := lo)))]
      refine mw_cIe (fun _ => rfl) (show mu_is H (some 113) 11 from (h.1.1.is rfl)) (st_num (d := d) (p := 2 * lo) h e hs (by omega) (by omega)) ?_
      have kn9 := nmz_lt (fc := fc) (st := st) (p := 2 * lo)
      refine mw_go mu_g242 (k := 1) (f1 := (166, [(6, .inl (nI lo)), (7, .inl (nI hi)), (0, .inr (.inr (some 113))), (1, .inl (nI id)), (2, .inl (nI x)), (3, .inl (1 : Int32)), (4, .inl (nI (2 * hln fc st))), (5, .inl (2 : Int32))], [.inl (nI x), .inl (nI (nmzU fc st (2 * lo)))], H)) (C := []) rfl trivial ?_
      refine mw_if (P := (nI x) < (nI (nmzU fc st (2 * lo)))) (a := 173) (b := 169) (fun _ => rfl) trivial (fun h10 => ?_) (fun h10 => ?_)
      · -- 173: (nI x) < (nI (nmzU fc st (2 * lo)))
        have nh10 : x < (nmzU fc st (2 * lo)) := (nI_ltI (by omega) (by omega)).mp (show nI x < nI (nmzU fc st (2 * lo)) from h10)
        refine mw_go mu_g242 (k := 1) (f1 := (174, [(6, .inl (nI lo)), (7, .inl (nI hi)), (0, .inr (.inr (some 113))), (1, .inl (nI id)), (2, .inl (nI x)), (3, .inl (1 : Int32)), (4, .inl (nI (2 * hln fc st))), (5, .inl (2 : Int32))], [.inl (0 : Int32)], H)) (C := []) rfl trivial ?_
        exact mw_of (fun _ => mu_ret rfl (Or.inl rfl) ⟨(0 : Int32), H, rfl, (if_neg (mrk_no hm3 ha (fun _ => nh10))).symm, rfl⟩)
      · -- 169: not (nI x) < (nI (nmzU fc st (2 * lo)))
        have nh10 : ¬ x < (nmzU fc st (2 * lo)) := fun z => h10 (show nI x < nI (nmzU fc st (2 * lo)) from (nI_ltI (by omega) (by omega)).mpr z)
        refine mw_go mu_g242 (k := 2) (f1 := (174, [(6, .inl (nI lo)), (7, .inl (nI hi)), (0, .inr (.inr (some 113))), (1, .inl (nI id)), (2, .inl (nI x)), (3, .inl (1 : Int32)), (4, .inl (nI (2 * hln fc st))), (5, .inl (2 : Int32))], [.inl (1 : Int32)], H)) (C := []) rfl trivial ?_
        exact mw_of (fun _ => mu_ret rfl (Or.inr rfl) ⟨(1 : Int32), H, rfl, (if_pos (mrk_yes hm3 (lo := lo) (by omega) nh10 (hb lo (by omega) (by omega)))).symm, rfl⟩)
    · -- 173: not (nI lo) < (nI (2 * hln fc st))
      have nh8 : ¬ lo < (2 * hln fc st) := fun z => h8 (show nI lo < nI (2 * hln fc st) from (nI_ltI (by omega) (by omega)).mpr z)
      refine mw_go mu_g242 (k := 1) (f1 := (174, [(6, .inl (nI lo)), (7, .inl (nI hi)), (0, .inr (.inr (some 113))), (1, .inl (nI id)), (2, .inl (nI x)), (3, .inl (1 : Int32)), (4, .inl (nI (2 * hln fc st))), (5, .inl (2 : Int32))], [.inl (0 : Int32)], H)) (C := []) rfl trivial ?_
      exact mw_of (fun _ => mu_ret rfl (Or.inl rfl) ⟨(0 : Int32), H, rfl, (if_neg (mrk_no hm3 ha (fun z => absurd z (by omega)))).symm, rfl⟩)
theorem st_has2 (h : um m H) (e : ud m H = U) (hs : sat U id st fc) (hz : stz fc st S) (hx : x < 2147483648) (hf : hfm fc st = 2) : mu_TI (mu_D (d + 2)) 242 [.inr (.inr (some 113)), .inl (nI id), .inl (nI x)] H (fun r H1 => r = (if S x = true then 1 else 0) ∧ H1 = H) := by
  obtain ⟨⟨hi1, hi2⟩, hst, hst2, hch⟩ := (show sat U id st fc from hs)
  obtain ⟨hz1, hz2, hz3, hz4, hz5⟩ := hz
  have hm3 := hz5 hf
  refine mu_meth (M := mu_m242) rfl rfl ?_
  refine mw_ht (mu_fn_of (show [0, 1, 2].Nodup by decide)) ?_
  refine mw_go mu_g242 (k := 2) (f1 := (2, [(0, .inr (.inr (some 113))), (1, .inl (nI id)), (2, .inl (nI x))], [.inl (nI id), .inr (.inr (some 113))], H)) (C := []) rfl trivial ?_
  refine mw_cIe (fun _ => rfl) (show mu_is H (some 113) 11 from (h.1.1.is rfl)) (st_form (d := d) h e hs) ?_
  rw [show nI (hfm fc st) = (2 : Int32) from congrArg nI hf]
  refine mw_go mu_g242 (k := 3) (f1 := (8, [(3, .inl (2 : Int32)), (0, .inr (.inr (some 113))), (1, .inl (nI id)), (2, .inl (nI x))], [.inl (nI id), .inr (.inr (some 113))], H)) (C := []) rfl trivial ?_
  refine mw_cIe (fun _ => rfl) (show mu_is H (some 113) 11 from (h.1.1.is rfl)) (st_parts (d := d) h e hs) ?_
  rw [show nI (hpt fc st) = nI (hln fc st) from congrArg nI (by unfold hpt; rw [hf]; rfl)]
  have kl := hln_lt (fc := fc) (st := st)
  have kz := hsz_lt (fc := fc) (st := st)
  refine mw_go mu_g242 (k := 3) (f1 := (15, [(4, .inl (nI (hln fc st))), (3, .inl (2 : Int32)), (0, .inr (.inr (some 113))), (1, .inl (nI id)), (2, .inl (nI x))], [.inl (2 : Int32), .inl (2 : Int32)], H)) (C := []) rfl trivial ?_
  refine mw_if (P := (2 : Int32) = (2 : Int32)) (a := 18) (b := 79) (fun _ => rfl) trivial (fun h3 => ?_) (fun h3 => absurd (by decide) h3)
  refine mw_go mu_g242 (k := 2) (f1 := (22, [(4, .inl (nI (hln fc st))), (3, .inl (2 : Int32)), (0, .inr (.inr (some 113))), (1, .inl (nI id)), (2, .inl (nI x))], [.inr (.inr (mu_r H 113 0))], H)) (C := [mu_is H (some 113) 11]) rfl (show mu_is H (some 113) 11 from (h.1.1.is rfl)) ?_
  rw [(h.1.1.r (p := 113) (j := 0) (q := 114) rfl)]
  refine mw_go mu_g242 (k := 2) (f1 := (26, [(4, .inl (nI (hln fc st))), (3, .inl (2 : Int32)), (0, .inr (.inr (some 113))), (1, .inl (nI id)), (2, .inl (nI x))], [.inr (.inr (mu_r H 113 3)), .inr (.inr (some 114))], H)) (C := [mu_is H (some 113) 11]) rfl (show mu_is H (some 113) 11 from (h.1.1.is rfl)) ?_
  rw [(show mu_r H 113 3 = (U.2.2.2.1 113 3) from (ud_q (U := U) (m := m) (P := 113) (j := 3) e rfl))]
  refine mw_go mu_g242 (k := 2) (f1 := (28, [(4, .inl (nI (hln fc st))), (3, .inl (2 : Int32)), (0, .inr (.inr (some 113))), (1, .inl (nI id)), (2, .inl (nI x))], [.inl (mu_i H (mu_p (U.2.2.2.1 113 3)) (nI id).toNatClampNeg), .inr (.inr (some 114))], H)) (C := [mu_isr H (U.2.2.2.1 113 3) 100, vp_in (nI id) (mu_n H (mu_p (U.2.2.2.1 113 3)))]) rfl (show (mu_isr H (U.2.2.2.1 113 3) 100) ∧ (vp_in (nI id) (mu_n H (mu_p (U.2.2.2.1 113 3)))) from ⟨((h.iA e rfl rfl (show U.2.2.2.1 113 3 = (U.2.2.2.1 113 3) from rfl))).r, (h.vA (i := id) e rfl rfl (show U.2.2.2.1 113 3 = (U.2.2.2.1 113 3) from rfl) (show (U.2.2.1 113 3).1 = (U.2.2.1 113 3).1 from rfl) (by omega) (by omega))⟩) ?_
  rw [(show (mu_i H (mu_p (U.2.2.2.1 113 3)) (nI id).toNatClampNeg) = (nI st) from ((congrArg (mu_i H (mu_p (U.2.2.2.1 113 3))) (show (nI id).toNatClampNeg = id from nI_clamp (by omega))).trans (h.gA e rfl rfl (show U.2.2.2.1 113 3 = (U.2.2.2.1 113 3) from rfl))).trans ((congrArg (fun z => z.2 id) (show U.2.2.1 113 3 = (U.2.2.1 113 3) from rfl)).trans hst))]
  refine mw_go mu_g242 (k := 2) (f1 := (32, [(4, .inl (nI (hln fc st))), (3, .inl (2 : Int32)), (0, .inr (.inr (some 113))), (1, .inl (nI id)), (2, .inl (nI x))], [.inl ((nI st) / (8192 : Int32)), .inr (.inr (some 114))], H)) (C := [¬ (8192 : Int32) = 0]) rfl (show ¬ (8192 : Int32) = 0 from (by decide)) ?_
  rw [(show ((nI st) / (8192 : Int32)) = (nI (st / 8192)) from (nI_div (a := st) (b := 8192) (by omega) (by omega)))]
  obtain ⟨cq4, ka4, kb4, kc4, kd4⟩ := um.gP h e (plp114 (show st / 8192 < 184 by omega)) (show U.2.2.2.2.2 114 (st / 8192) = some (8192, fc) from hch)
  refine mw_go mu_g242 (k := 1) (f1 := (33, [(4, .inl (nI (hln fc st))), (3, .inl (2 : Int32)), (0, .inr (.inr (some 113))), (1, .inl (nI id)), (2, .inl (nI x))], [.inr (.inr (mu_r H 114 (nI (st / 8192)).toNatClampNeg))], H)) (C := [mu_is H (some 114) (mu_k H 114), 103 ≤ mu_k H 114 ∧ mu_k H 114 ≤ 110 ∧ mu_k H 114 ≠ 108, vp_in (nI (st / 8192)) (mu_n H 114)]) rfl (show (mu_is H (some 114) (mu_k H 114)) ∧ (103 ≤ mu_k H 114 ∧ mu_k H 114 ≤ 110 ∧ mu_k H 114 ≠ 108) ∧ (vp_in (nI (st / 8192)) (mu_n H 114)) from ⟨(by have z := (h.1.1.a (p := 114) (x := (104, 184)) rfl).1; rw [show mu_k H 114 = 104 from z.2.2]; exact z), (by have z := (h.1.1.a (p := 114) (x := (104, 184)) rfl).1; rw [show mu_k H 114 = 104 from z.2.2]; decide), (by rw [show mu_n H 114 = 184 from (h.1.1.a (p := 114) (x := (104, 184)) rfl).2]; exact vp_in_nI (n := st / 8192) (by omega) (by decide))⟩) ?_
  rw [(show (mu_r H 114 (nI (st / 8192)).toNatClampNeg) = some cq4 from (congrArg (mu_r H 114) (show (nI (st / 8192)).toNatClampNeg = st / 8192 from nI_clamp (by omega))).trans ka4)]
  refine mw_go mu_g242 (k := 4) (f1 := (39, [(5, .inr (.inr (some cq4))), (4, .inl (nI (hln fc st))), (3, .inl (2 : Int32)), (0, .inr (.inr (some 113))), (1, .inl (nI id)), (2, .inl (nI x))], [.inl ((nI x) >>> ((6 : Int32) &&& 31))], H)) (C := []) rfl trivial ?_
  rw [(show ((nI x) >>> ((6 : Int32) &&& 31)) = (nI (x / 64)) from (nI_shr6 (a := x) (by omega)))]
  refine mw_go mu_g242 (k := 1) (f1 := (41, [(5, .inr (.inr (some cq4))), (4, .inl (nI (hln fc st))), (3, .inl (2 : Int32)), (0, .inr (.inr (some 113))), (1, .inl (nI id)), (2, .inl (nI x))], [.inl (nI (hln fc st)), .inl (nI (x / 64))], H)) (C := []) rfl trivial ?_
  refine mw_if (P := (nI (x / 64)) < (nI (hln fc st))) (a := 44) (b := 77) (fun _ => rfl) trivial (fun h5 => ?_) (fun h5 => ?_)
  · -- 44: (nI (x / 64)) < (nI (hln fc st))
    have nh5 : (x / 64) < (hln fc st) := (nI_ltI (by omega) (by omega)).mp (show nI (x / 64) < nI (hln fc st) from h5)
    refine mw_go mu_g242 (k := 3) (f1 := (50, [(5, .inr (.inr (some cq4))), (4, .inl (nI (hln fc st))), (3, .inl (2 : Int32)), (0, .inr (.inr (some 113))), (1, .inl (nI id)), (2, .inl (nI x))], [.inr (.inr (mu_r H 113 3)), .inr (.inr (some cq4))], H)) (C := [mu_is H (some 113) 11]) rfl (show mu_is H (some 113) 11 from (h.1.1.is rfl)) ?_
    rw [(show mu_r H 113 3 = (U.2.2.2.1 113 3) from (ud_q (U := U) (m := m) (P := 113) (j := 3) e rfl))]
    refine mw_go mu_g242 (k := 2) (f1 := (52, [(5, .inr (.inr (some cq4))), (4, .inl (nI (hln fc st))), (3, .inl (2 : Int32)), (0, .inr (.inr (some 113))), (1, .inl (nI id)), (2, .inl (nI x))], [.inl (mu_i H (mu_p (U.2.2.2.1 113 3)) (nI id).toNatClampNeg), .inr (.inr (some cq4))], H)) (C := [mu_isr H (U.2.2.2.1 113 3) 100, vp_in (nI id) (mu_n H (mu_p (U.2.2.2.1 113 3)))]) rfl (show (mu_isr H (U.2.2.2.1 113 3) 100) ∧ (vp_in (nI id) (mu_n H (mu_p (U.2.2.2.1 113 3)))) from ⟨((h.iA e rfl rfl (show U.2.2.2.1 113 3 = (U.2.2.2.1 113 3) from rfl))).r, (h.vA (i := id) e rfl rfl (show U.2.2.2.1 113 3 = (U.2.2.2.1 113 3) from rfl) (show (U.2.2.1 113 3).1 = (U.2.2.1 113 3).1 from rfl) (by omega) (by omega))⟩) ?_
    rw [(show (mu_i H (mu_p (U.2.2.2.1 113 3)) (nI id).toNatClampNeg) = (nI st) from ((congrArg (mu_i H (mu_p (U.2.2.2.1 113 3))) (show (nI id).toNatClampNeg = id from nI_clamp (by omega))).trans (h.gA e rfl rfl (show U.2.2.2.1 113 3 = (U.2.2.2.1 113 3) from rfl))).trans ((congrArg (fun z => z.2 id) (show U.2.2.1 113 3 = (U.2.2.1 113 3) from rfl)).trans hst))]
    refine mw_go mu_g242 (k := 2) (f1 := (56, [(5, .inr (.inr (some cq4))), (4, .inl (nI (hln fc st))), (3, .inl (2 : Int32)), (0, .inr (.inr (some 113))), (1, .inl (nI id)), (2, .inl (nI x))], [.inl ((nI st) - (nI st) / (8192 : Int32) * (8192 : Int32)), .inr (.inr (some cq4))], H)) (C := [¬ (8192 : Int32) = 0]) rfl (show ¬ (8192 : Int32) = 0 from (by decide)) ?_
    rw [(show ((nI st) - (nI st) / (8192 : Int32) * (8192 : Int32)) = (nI (st % 8192)) from (nI_mod (a := st) (b := 8192) (by omega) (by omega)))]
    refine mw_go mu_g242 (k := 2) (f1 := (58, [(5, .inr (.inr (some cq4))), (4, .inl (nI (hln fc st))), (3, .inl (2 : Int32)), (0, .inr (.inr (some 113))), (1, .inl (nI id)), (2, .inl (nI x))], [.inl ((nI (st % 8192)) + (1 : Int32)), .inr (.inr (some cq4))], H)) (C := []) rfl trivial ?_
    rw [(show ((nI (st % 8192)) + (1 : Int32)) = (nI ((st % 8192) + 1)) from (nI_add (st % 8192) 1))]
    refine mw_go mu_g242 (k := 3) (f1 := (62, [(5, .inr (.inr (some cq4))), (4, .inl (nI (hln fc st))), (3, .inl (2 : Int32)), (0, .inr (.inr (some 113))), (1, .inl (nI id)), (2, .inl (nI x))], [.inl ((nI x) >>> ((6 : Int32) &&& 31)), .inl (nI ((st % 8192) + 1)), .inr (.inr (some cq4))], H)) (C := []) rfl trivial ?_
    rw [(show ((nI x) >>> ((6 : Int32) &&& 31)) = (nI (x / 64)) from (nI_shr6 (a := x) (by omega)))]
    refine mw_go mu_g242 (k := 1) (f1 := (63, [(5, .inr (.inr (some cq4))), (4, .inl (nI (hln fc st))), (3, .inl (2 : Int32)), (0, .inr (.inr (some 113))), (1, .inl (nI id)), (2, .inl (nI x))], [.inl ((nI ((st % 8192) + 1)) + (nI (x / 64))), .inr (.inr (some cq4))], H)) (C := []) rfl trivial ?_
    rw [(show ((nI ((st % 8192) + 1)) + (nI (x / 64))) = (nI (((st % 8192) + 1) + (x / 64))) from (nI_add ((st % 8192) + 1) (x / 64)))]
    refine mw_go mu_g242 (k := 1) (f1 := (64, [(5, .inr (.inr (some cq4))), (4, .inl (nI (hln fc st))), (3, .inl (2 : Int32)), (0, .inr (.inr (some 113))), (1, .inl (nI id)), (2, .inl (nI x))], [.inr (.inl (mu_l H cq4 (nI (((st % 8192) + 1) + (x / 64))).toNatClampNeg))], H)) (C := [mu_isr H (some cq4) 102, vp_in (nI (((st % 8192) + 1) + (x / 64))) (mu_n H cq4)]) rfl (show (mu_isr H (some cq4) 102) ∧ (vp_in (nI (((st % 8192) + 1) + (x / 64))) (mu_n H cq4)) from ⟨kb4.r, (by rw [kc4]; exact vp_in_nI (n := ((st % 8192) + 1) + (x / 64)) (by omega) (by decide))⟩) ?_
    rw [(show (mu_l H cq4 (nI (((st % 8192) + 1) + (x / 64))).toNatClampNeg) = (fc (((st % 8192) + 1) + (x / 64))) from (congrArg (mu_l H cq4) (show (nI (((st % 8192) + 1) + (x / 64))).toNatClampNeg = ((st % 8192) + 1) + (x / 64) from nI_clamp (by omega))).trans (kd4 (((st % 8192) + 1) + (x / 64))))]
    refine mw_go mu_g242 (k := 6) (f1 := (70, [(5, .inr (.inr (some cq4))), (4, .inl (nI (hln fc st))), (3, .inl (2 : Int32)), (0, .inr (.inr (some 113))), (1, .inl (nI id)), (2, .inl (nI x))], [.inl (lg_cmp ((((fc (((st % 8192) + 1) + (x / 64))).toUInt64 >>> ((nI x).toInt64.toUInt64 &&& Int64.toUInt64 63)).toInt64) &&& (1 : Int64)) (0 : Int64))], H)) (C := []) rfl trivial ?_
    refine mw_if (P := (lg_cmp ((((fc (((st % 8192) + 1) + (x / 64))).toUInt64 >>> ((nI x).toInt64.toUInt64 &&& Int64.toUInt64 63)).toInt64) &&& (1 : Int64)) (0 : Int64)) = 0) (a := 77) (b := 73) (fun _ => rfl) trivial (fun h6 => ?_) (fun h6 => ?_)
    · -- 77: (lg_cmp ((((fc (((st % 8192) + 1) + (x / 64))).toUInt64 >>> ((nI x).toInt64.toUInt64 &&& Int64.toUInt64 63)).toInt64) &&& (1 : Int64)) (0 : Int64)) = 0
      refine mw_go mu_g242 (k := 1) (f1 := (78, [(5, .inr (.inr (some cq4))), (4, .inl (nI (hln fc st))), (3, .inl (2 : Int32)), (0, .inr (.inr (some 113))), (1, .inl (nI id)), (2, .inl (nI x))], [.inl (0 : Int32)], H)) (C := []) rfl trivial ?_
      exact mw_of (fun _ => mu_ret rfl (Or.inl rfl) ⟨(0 : Int32), H, rfl, (if_neg (fun z => by have z2 := lg_ne.mp h6; rw [btz_ask (by omega), if_pos ((hm3 x).mp z).2] at z2; exact absurd z2 (by decide))).symm, rfl⟩)
    · -- 73: not (lg_cmp ((((fc (((st % 8192) + 1) + (x / 64))).toUInt64 >>> ((nI x).toInt64.toUInt64 &&& Int64.toUInt64 63)).toInt64) &&& (1 : Int64)) (0 : Int64)) = 0
      refine mw_go mu_g242 (k := 2) (f1 := (78, [(5, .inr (.inr (some cq4))), (4, .inl (nI (hln fc st))), (3, .inl (2 : Int32)), (0, .inr (.inr (some 113))), (1, .inl (nI id)), (2, .inl (nI x))], [.inl (1 : Int32)], H)) (C := []) rfl trivial ?_
      exact mw_of (fun _ => mu_ret rfl (Or.inr rfl) ⟨(1 : Int32), H, rfl, (if_pos ((hm3 x).mpr ⟨by omega, by by_cases hb : btz (fc (st % 8192 + 1 + x / 64)) (x % 64) = true; (exact hb); exact absurd (lg_ne.mpr (by rw [btz_ask (by omega), if_neg hb])) h6⟩)).symm, rfl⟩)
  · -- 77: not (nI (x / 64)) < (nI (hln fc st))
    have nh5 : ¬ (x / 64) < (hln fc st) := fun z => h5 (show nI (x / 64) < nI (hln fc st) from (nI_ltI (by omega) (by omega)).mpr z)
    refine mw_go mu_g242 (k := 1) (f1 := (78, [(5, .inr (.inr (some cq4))), (4, .inl (nI (hln fc st))), (3, .inl (2 : Int32)), (0, .inr (.inr (some 113))), (1, .inl (nI id)), (2, .inl (nI x))], [.inl (0 : Int32)], H)) (C := []) rfl trivial ?_
    exact mw_of (fun _ => mu_ret rfl (Or.inl rfl) ⟨(0 : Int32), H, rfl, (if_neg (fun z => by have z2 := ((hm3 x).mp z).1; omega)).symm, rfl⟩)
theorem st_has (h : um m H) (e : ud m H = U) (hs : sat U id st fc) (hz : stz fc st S) (hx : x < 2147483648) : mu_TI (mu_D (d + 2)) 242 [.inr (.inr (some 113)), .inl (nI id), .inl (nI x)] H (fun r H1 => r = (if S x = true then 1 else 0) ∧ H1 = H) := by
  have kf := hz.1
  by_cases f0 : hfm fc st = 0
  · exact st_has0 h e hs hz hx f0
  · by_cases f1 : hfm fc st = 1
    · exact st_has1 h e hs hz hx f1
    · exact st_has2 h e hs hz hx (by omega)
end Sets2
