/-! THE STORE OF SETS: what is read of it -/
def us (w : Int64) (k : Int32) : Int64 := (w.toUInt64 >>> (k.toInt64.toUInt64 &&& Int64.toUInt64 63)).toInt64
theorem us_val {x : Int64} {k : Nat} (hk : k < 64) : tnz (us x (nI k)) = tnz x / 2 ^ k := by
  have key : ∀ k : Fin 64, ((nI k.1).toInt64.toUInt64 &&& Int64.toUInt64 63) = UInt64.ofNat k.1 := by decide +kernel
  unfold us tnz
  rw [key ⟨k, hk⟩]
  show (x.toUInt64 >>> UInt64.ofNat k).toBitVec.toNat = _
  rw [UInt64.toBitVec_shiftRight]
  simp [Nat.shiftRight_eq_div_pow]
  rw [Nat.mod_eq_of_lt hk]
theorem l2i_val {x : Int64} {w : Nat} (hw : w ≤ 31) : x.toInt32 &&& nI (2 ^ w - 1) = nI (tnz x % 2 ^ w) := by
  rw [← Int32.toBitVec_inj]
  apply BitVec.eq_of_toNat_eq
  have h2 : 2 ^ w ≤ 2 ^ 31 := Nat.pow_le_pow_right (by omega) hw
  have h1 := Nat.mod_lt (tnz x) (Nat.two_pow_pos w)
  have hp := Nat.two_pow_pos w
  show (x.toInt32.toBitVec &&& BitVec.ofNat 32 (2 ^ w - 1)).toNat = (BitVec.ofNat 32 (tnz x % 2 ^ w)).toNat
  rw [BitVec.toNat_and, BitVec.toNat_ofNat, BitVec.toNat_ofNat, Nat.mod_eq_of_lt (show 2 ^ w - 1 < 2 ^ 32 by omega), Nat.mod_eq_of_lt (show tnz x % 2 ^ w < 2 ^ 32 by omega), Nat.and_two_pow_sub_one_eq_mod]
  rw [show x.toInt32.toBitVec = x.toBitVec.setWidth 32 from by rw [Int64.toBitVec_toInt32, BitVec.signExtend_eq_setWidth_of_le _ (by decide)]]
  rw [BitVec.toNat_setWidth, Nat.mod_mod_of_dvd _ (Nat.pow_dvd_pow 2 (by omega))]
  rfl
theorem fld_val {x : Int64} {w : Nat} (hw : w ≤ 31) {M : Int64} (hM : tnz M = 2 ^ w - 1) : (x &&& M).toInt32 = nI (tnz x % 2 ^ w) := by
  rw [← Int32.toBitVec_inj]
  apply BitVec.eq_of_toNat_eq
  have h2 : 2 ^ w ≤ 2 ^ 31 := Nat.pow_le_pow_right (by omega) hw
  have h1 := Nat.mod_lt (tnz x) (Nat.two_pow_pos w)
  rw [show (x &&& M).toInt32.toBitVec = (x &&& M).toBitVec.setWidth 32 from by rw [Int64.toBitVec_toInt32, BitVec.signExtend_eq_setWidth_of_le _ (by decide)]]
  show _ = (BitVec.ofNat 32 (tnz x % 2 ^ w)).toNat
  rw [BitVec.toNat_setWidth, BitVec.toNat_ofNat, Int64.toBitVec_and, BitVec.toNat_and, show M.toBitVec.toNat = 2 ^ w - 1 from hM, Nat.and_two_pow_sub_one_eq_mod]
  rfl
theorem nI_and {a w : Nat} (hw : w ≤ 31) (ha : a < 2147483648) : nI a &&& nI (2 ^ w - 1) = nI (a % 2 ^ w) := by
  rw [← Int32.toBitVec_inj]
  apply BitVec.eq_of_toNat_eq
  have h2 : 2 ^ w ≤ 2 ^ 31 := Nat.pow_le_pow_right (by omega) hw
  have hp := Nat.two_pow_pos w
  have h1 := Nat.mod_lt a hp
  show (BitVec.ofNat 32 a &&& BitVec.ofNat 32 (2 ^ w - 1)).toNat = (BitVec.ofNat 32 (a % 2 ^ w)).toNat
  rw [BitVec.toNat_and, BitVec.toNat_ofNat, BitVec.toNat_ofNat, BitVec.toNat_ofNat, Nat.mod_eq_of_lt (show a < 2 ^ 32 by omega), Nat.mod_eq_of_lt (show 2 ^ w - 1 < 2 ^ 32 by omega), Nat.mod_eq_of_lt (show a % 2 ^ w < 2 ^ 32 by omega), Nat.and_two_pow_sub_one_eq_mod]
theorem plp114 {i : Nat} (h : i < 184) : (114, i) ∈ plp := List.mem_append_left _ (List.mem_map.mpr ⟨i, List.mem_range.mpr h, rfl⟩)
theorem plp161 {i : Nat} (h : i < 248) : (161, i) ∈ plp := List.mem_append_right _ (List.mem_append_left _ (List.mem_map.mpr ⟨i, List.mem_range.mpr h, rfl⟩))
theorem plp163 {i : Nat} (h : i < 64) : (163, i) ∈ plp := List.mem_append_right _ (List.mem_append_right _ (List.mem_map.mpr ⟨i, List.mem_range.mpr h, rfl⟩))
/-- an array of a pool -/
theorem um.gP {m : Nat} {H : mu_H} {U : Ud} {p i n : Nat} {f : Nat → Int64} (h : um m H) (e : ud m H = U) (hp : (p, i) ∈ plp) (hv : U.2.2.2.2.2 p i = some (n, f)) : ∃ q, mu_r H p i = some q ∧ mu_is H (some q) 102 ∧ mu_n H q = n ∧ ∀ k, mu_l H q k = f k := by
  rw [← e] at hv
  have hv : dP H p i = some (n, f) := hv
  unfold dP at hv
  rw [if_pos hp] at hv
  obtain ⟨q, e1, e2⟩ := Option.map_eq_some_iff.mp hv
  have e3 : mu_n H q = n ∧ (fun k => mu_l H q k) = f := Prod.mk.inj e2
  refine ⟨q, e1, ?_, e3.1, fun k => congrFun e3.2 k⟩
  rcases h.1.2.1.1 (p, i) hp with z | z
  · have z : mu_r H p i = none := z
    rw [e1] at z
    cases z
  · have z := z.1
    have z : mu_is H (mu_r H p i) 102 := z
    rw [e1] at z
    exact z
/-- a set that is kept: where, and what its chunk is -/
def sat (U : Ud) (id st : Nat) (fc : Nat → Int64) : Prop := (id < (U.2.2.1 113 3).1 ∧ (U.2.2.1 113 3).1 < 2147483648) ∧ (U.2.2.1 113 3).2 id = nI st ∧ st < 1507328 ∧ U.2.2.2.2.2 114 (st / 8192) = some (8192, fc)
/-- a number of a list, the first or last of a run -/
def nmzU (fc : Nat → Int64) (st p : Nat) : Nat := tnz (fc (st % 8192 + 1 + p / 4)) / 2 ^ (16 * (p % 4)) % 65536
/-- how many, which form, how many words -/
def hsz (fc : Nat → Int64) (st : Nat) : Nat := tnz (fc (st % 8192)) % 32768
def hfm (fc : Nat → Int64) (st : Nat) : Nat := tnz (fc (st % 8192)) / 32768 % 4
def hln (fc : Nat → Int64) (st : Nat) : Nat := tnz (fc (st % 8192)) / 131072 % 512
def hpt (fc : Nat → Int64) (st : Nat) : Nat := if hfm fc st = 0 then hsz fc st else if hfm fc st = 1 then 2 * hln fc st else hln fc st
section Sets
variable {H : mu_H} {U : Ud} {m d id st : Nat} {C : Nat → Nat} {fc : Nat → Int64}
theorem hsz_n {x : Int64} : x.toInt32 &&& 32767 = nI (tnz x % 32768) := l2i_val (x := x) (w := 15) (by decide)
theorem hfm_n {x : Int64} : (us x 15 &&& 3).toInt32 = nI (tnz x / 32768 % 4) := (fld_val (w := 2) (by decide) (by decide)).trans (congrArg (fun z => nI (z % 4)) (us_val (k := 15) (by decide)))
theorem hln_n {x : Int64} : (us x 17 &&& 511).toInt32 = nI (tnz x / 131072 % 512) := (fld_val (w := 9) (by decide) (by decide)).trans (congrArg (fun z => nI (z % 512)) (us_val (k := 17) (by decide)))
theorem nm_n {x : Int64} {p : Nat} : (us x (nI (16 * (p % 4)))).toInt32 &&& 65535 = nI (tnz x / 2 ^ (16 * (p % 4)) % 65536) := (l2i_val (x := us x (nI (16 * (p % 4)))) (w := 16) (by decide)).trans (congrArg (fun z => nI (z % 65536)) (us_val (by omega)))
theorem and3_n {a : Nat} (ha : a < 2147483648) : nI a &&& 3 = nI (a % 4) := nI_and (w := 2) (by decide) ha
theorem hfm_lt : hfm fc st < 4 := Nat.mod_lt _ (by decide)
theorem hsz_lt : hsz fc st < 32768 := Nat.mod_lt _ (by decide)
theorem hln_lt : hln fc st < 512 := Nat.mod_lt _ (by decide)
theorem hpt_lt : hpt fc st < 32768 := by
  have h1 := hsz_lt (fc := fc) (st := st)
  have h2 := hln_lt (fc := fc) (st := st)
  unfold hpt
  split
  · exact h1
  · split <;> omega
theorem nmz_lt {p : Nat} : nmzU fc st p < 65536 := Nat.mod_lt _ (by decide)
/-- PathProver$Sets.headOf(I)J -/
abbrev mu_m252 : ev_M := (2, (some .long), [], ev_b252)
theorem mu_g252 : mu_good mu_m252 := mu_goodk ev_k252
theorem st_head (h : um m H) (e : ud m H = U) (hs : sat U id st fc) : mu_TL (mu_D (d + 1)) 252 [.inr (.inr (some 113)), .inl (nI id)] H (fun x H1 => x = fc (st % 8192) ∧ H1 = H) := by
  obtain ⟨⟨hi1, hi2⟩, hst, hst2, hch⟩ := (show sat U id st fc from hs)
  refine mu_meth (M := mu_m252) rfl rfl ?_
  refine mw_ht (mu_fn_of (show [0, 1].Nodup by decide)) ?_
  refine mw_go mu_g252 (k := 2) (f1 := (4, [(0, .inr (.inr (some 113))), (1, .inl (nI id))], [.inr (.inr (mu_r H 113 0))], H)) (C := [mu_is H (some 113) 11]) rfl (show mu_is H (some 113) 11 from (h.1.1.is rfl)) ?_
  rw [(h.1.1.r (p := 113) (j := 0) (q := 114) rfl)]
  refine mw_go mu_g252 (k := 2) (f1 := (8, [(0, .inr (.inr (some 113))), (1, .inl (nI id))], [.inr (.inr (mu_r H 113 3)), .inr (.inr (some 114))], H)) (C := [mu_is H (some 113) 11]) rfl (show mu_is H (some 113) 11 from (h.1.1.is rfl)) ?_
  rw [(show mu_r H 113 3 = (U.2.2.2.1 113 3) from (ud_q (U := U) (m := m) (P := 113) (j := 3) e rfl))]
  refine mw_go mu_g252 (k := 2) (f1 := (10, [(0, .inr (.inr (some 113))), (1, .inl (nI id))], [.inl (mu_i H (mu_p (U.2.2.2.1 113 3)) (nI id).toNatClampNeg), .inr (.inr (some 114))], H)) (C := [mu_isr H (U.2.2.2.1 113 3) 100, vp_in (nI id) (mu_n H (mu_p (U.2.2.2.1 113 3)))]) rfl (show (mu_isr H (U.2.2.2.1 113 3) 100) ∧ (vp_in (nI id) (mu_n H (mu_p (U.2.2.2.1 113 3)))) from ⟨((h.iA e rfl rfl (show U.2.2.2.1 113 3 = (U.2.2.2.1 113 3) from rfl))).r, (h.vA (i := id) e rfl rfl (show U.2.2.2.1 113 3 = (U.2.2.2.1 113 3) from rfl) (show (U.2.2.1 113 3).1 = (U.2.2.1 113 3).1 from rfl) (by omega) (by omega))⟩) ?_
  rw [(show (mu_i H (mu_p (U.2.2.2.1 113 3)) (nI id).toNatClampNeg) = (nI st) from ((congrArg (mu_i H (mu_p (U.2.2.2.1 113 3))) (show (nI id).toNatClampNeg = id from nI_clamp (by omega))).trans (h.gA e rfl rfl (show U.2.2.2.1 113 3 = (U.2.2.2.1 113 3) from rfl))).trans ((congrArg (fun z => z.2 id) (show U.2.2.1 113 3 = (U.2.2.1 113 3) from rfl)).trans hst))]
  refine mw_go mu_g252 (k := 2) (f1 := (14, [(0, .inr (.inr (some 113))), (1, .inl (nI id))], [.inl ((nI st) / (8192 : Int32)), .inr (.inr (some 114))], H)) (C := [¬ (8192 : Int32) = 0]) rfl (show ¬ (8192 : Int32) = 0 from (by decide)) ?_
  rw [(show ((nI st) / (8192 : Int32)) = (nI (st / 8192)) from (nI_div (a := st) (b := 8192) (by omega) (by omega)))]
  obtain ⟨cq1, ka1, kb1, kc1, kd1⟩ := um.gP h e (plp114 (show st / 8192 < 184 by omega)) (show U.2.2.2.2.2 114 (st / 8192) = some (8192, fc) from hch)
  refine mw_go mu_g252 (k := 1) (f1 := (15, [(0, .inr (.inr (some 113))), (1, .inl (nI id))], [.inr (.inr (mu_r H 114 (nI (st / 8192)).toNatClampNeg))], H)) (C := [mu_is H (some 114) (mu_k H 114), 103 ≤ mu_k H 114 ∧ mu_k H 114 ≤ 110 ∧ mu_k H 114 ≠ 108, vp_in (nI (st / 8192)) (mu_n H 114)]) rfl (show (mu_is H (some 114) (mu_k H 114)) ∧ (103 ≤ mu_k H 114 ∧ mu_k H 114 ≤ 110 ∧ mu_k H 114 ≠ 108) ∧ (vp_in (nI (st / 8192)) (mu_n H 114)) from ⟨(by have z := (h.1.1.a (p := 114) (x := (104, 184)) rfl).1; rw [show mu_k H 114 = 104 from z.2.2]; exact z), (by have z := (h.1.1.a (p := 114) (x := (104, 184)) rfl).1; rw [show mu_k H 114 = 104 from z.2.2]; decide), (by rw [show mu_n H 114 = 184 from (h.1.1.a (p := 114) (x := (104, 184)) rfl).2]; exact vp_in_nI (n := st / 8192) (by omega) (by decide))⟩) ?_
  rw [(show (mu_r H 114 (nI (st / 8192)).toNatClampNeg) = some cq1 from (congrArg (mu_r H 114) (show (nI (st / 8192)).toNatClampNeg = st / 8192 from nI_clamp (by omega))).trans ka1)]
  refine mw_go mu_g252 (k := 2) (f1 := (19, [(0, .inr (.inr (some 113))), (1, .inl (nI id))], [.inr (.inr (mu_r H 113 3)), .inr (.inr (some cq1))], H)) (C := [mu_is H (some 113) 11]) rfl (show mu_is H (some 113) 11 from (h.1.1.is rfl)) ?_
  rw [(show mu_r H 113 3 = (U.2.2.2.1 113 3) from (ud_q (U := U) (m := m) (P := 113) (j := 3) e rfl))]
  refine mw_go mu_g252 (k := 2) (f1 := (21, [(0, .inr (.inr (some 113))), (1, .inl (nI id))], [.inl (mu_i H (mu_p (U.2.2.2.1 113 3)) (nI id).toNatClampNeg), .inr (.inr (some cq1))], H)) (C := [mu_isr H (U.2.2.2.1 113 3) 100, vp_in (nI id) (mu_n H (mu_p (U.2.2.2.1 113 3)))]) rfl (show (mu_isr H (U.2.2.2.1 113 3) 100) ∧ (vp_in (nI id) (mu_n H (mu_p (U.2.2.2.1 113 3)))) from ⟨((h.iA e rfl rfl (show U.2.2.2.1 113 3 = (U.2.2.2.1 113 3) from rfl))).r, (h.vA (i := id) e rfl rfl (show U.2.2.2.1 113 3 = (U.2.2.2.1 113 3) from rfl) (show (U.2.2.1 113 3).1 = (U.2.2.1 113 3).1 from rfl) (by omega) (by omega))⟩) ?_
  rw [(show (mu_i H (mu_p (U.2.2.2.1 113 3)) (nI id).toNatClampNeg) = (nI st) from ((congrArg (mu_i H (mu_p (U.2.2.2.1 113 3))) (show (nI id).toNatClampNeg = id from nI_clamp (by omega))).trans (h.gA e rfl rfl (show U.2.2.2.1 113 3 = (U.2.2.2.1 113 3) from rfl))).trans ((congrArg (fun z => z.2 id) (show U.2.2.1 113 3 = (U.2.2.1 113 3) from rfl)).trans hst))]
  refine mw_go mu_g252 (k := 2) (f1 := (25, [(0, .inr (.inr (some 113))), (1, .inl (nI id))], [.inl ((nI st) - (nI st) / (8192 : Int32) * (8192 : Int32)), .inr (.inr (some cq1))], H)) (C := [¬ (8192 : Int32) = 0]) rfl (show ¬ (8192 : Int32) = 0 from (by decide)) ?_
  rw [(show ((nI st) - (nI st) / (8192 : Int32) * (8192 : Int32)) = (nI (st % 8192)) from (nI_mod (a := st) (b := 8192) (by omega) (by omega)))]
  refine mw_go mu_g252 (k := 1) (f1 := (26, [(0, .inr (.inr (some 113))), (1, .inl (nI id))], [.inr (.inl (mu_l H cq1 (nI (st % 8192)).toNatClampNeg))], H)) (C := [mu_isr H (some cq1) 102, vp_in (nI (st % 8192)) (mu_n H cq1)]) rfl (show (mu_isr H (some cq1) 102) ∧ (vp_in (nI (st % 8192)) (mu_n H cq1)) from ⟨kb1.r, (by rw [kc1]; exact vp_in_nI (n := st % 8192) (by omega) (by decide))⟩) ?_
  rw [(show (mu_l H cq1 (nI (st % 8192)).toNatClampNeg) = (fc (st % 8192)) from (congrArg (mu_l H cq1) (show (nI (st % 8192)).toNatClampNeg = st % 8192 from nI_clamp (by omega))).trans (kd1 (st % 8192)))]
  exact mw_of (fun _ => mu_ret rfl trivial ⟨(fc (st % 8192)), H, rfl, ⟨rfl, rfl⟩⟩)
/-- PathProver$Sets.formOf(I)I -/
abbrev mu_m236 : ev_M := (2, (some .int), [], ev_b236)
theorem mu_g236 : mu_good mu_m236 := mu_goodk ev_k236
theorem st_form (h : um m H) (e : ud m H = U) (hs : sat U id st fc) : mu_TI (mu_D (d + 1)) 236 [.inr (.inr (some 113)), .inl (nI id)] H (fun x H1 => x = nI (hfm fc st) ∧ H1 = H) := by
  obtain ⟨⟨hi1, hi2⟩, hst, hst2, hch⟩ := (show sat U id st fc from hs)
  refine mu_meth (M := mu_m236) rfl rfl ?_
  refine mw_ht (mu_fn_of (show [0, 1].Nodup by decide)) ?_
  refine mw_go mu_g236 (k := 2) (f1 := (4, [(0, .inr (.inr (some 113))), (1, .inl (nI id))], [.inr (.inr (mu_r H 113 0))], H)) (C := [mu_is H (some 113) 11]) rfl (show mu_is H (some 113) 11 from (h.1.1.is rfl)) ?_
  rw [(h.1.1.r (p := 113) (j := 0) (q := 114) rfl)]
  refine mw_go mu_g236 (k := 2) (f1 := (8, [(0, .inr (.inr (some 113))), (1, .inl (nI id))], [.inr (.inr (mu_r H 113 3)), .inr (.inr (some 114))], H)) (C := [mu_is H (some 113) 11]) rfl (show mu_is H (some 113) 11 from (h.1.1.is rfl)) ?_
  rw [(show mu_r H 113 3 = (U.2.2.2.1 113 3) from (ud_q (U := U) (m := m) (P := 113) (j := 3) e rfl))]
  refine mw_go mu_g236 (k := 2) (f1 := (10, [(0, .inr (.inr (some 113))), (1, .inl (nI id))], [.inl (mu_i H (mu_p (U.2.2.2.1 113 3)) (nI id).toNatClampNeg), .inr (.inr (some 114))], H)) (C := [mu_isr H (U.2.2.2.1 113 3) 100, vp_in (nI id) (mu_n H (mu_p (U.2.2.2.1 113 3)))]) rfl (show (mu_isr H (U.2.2.2.1 113 3) 100) ∧ (vp_in (nI id) (mu_n H (mu_p (U.2.2.2.1 113 3)))) from ⟨((h.iA e rfl rfl (show U.2.2.2.1 113 3 = (U.2.2.2.1 113 3) from rfl))).r, (h.vA (i := id) e rfl rfl (show U.2.2.2.1 113 3 = (U.2.2.2.1 113 3) from rfl) (show (U.2.2.1 113 3).1 = (U.2.2.1 113 3).1 from rfl) (by omega) (by omega))⟩) ?_
  rw [(show (mu_i H (mu_p (U.2.2.2.1 113 3)) (nI id).toNatClampNeg) = (nI st) from ((congrArg (mu_i H (mu_p (U.2.2.2.1 113 3))) (show (nI id).toNatClampNeg = id from nI_clamp (by omega))).trans (h.gA e rfl rfl (show U.2.2.2.1 113 3 = (U.2.2.2.1 113 3) from rfl))).trans ((congrArg (fun z => z.2 id) (show U.2.2.1 113 3 = (U.2.2.1 113 3) from rfl)).trans hst))]
  refine mw_go mu_g236 (k := 2) (f1 := (14, [(0, .inr (.inr (some 113))), (1, .inl (nI id))], [.inl ((nI st) / (8192 : Int32)), .inr (.inr (some 114))], H)) (C := [¬ (8192 : Int32) = 0]) rfl (show ¬ (8192 : Int32) = 0 from (by decide)) ?_
  rw [(show ((nI st) / (8192 : Int32)) = (nI (st / 8192)) from (nI_div (a := st) (b := 8192) (by omega) (by omega)))]
  obtain ⟨cq1, ka1, kb1, kc1, kd1⟩ := um.gP h e (plp114 (show st / 8192 < 184 by omega)) (show U.2.2.2.2.2 114 (st / 8192) = some (8192, fc) from hch)
  refine mw_go mu_g236 (k := 1) (f1 := (15, [(0, .inr (.inr (some 113))), (1, .inl (nI id))], [.inr (.inr (mu_r H 114 (nI (st / 8192)).toNatClampNeg))], H)) (C := [mu_is H (some 114) (mu_k H 114), 103 ≤ mu_k H 114 ∧ mu_k H 114 ≤ 110 ∧ mu_k H 114 ≠ 108, vp_in (nI (st / 8192)) (mu_n H 114)]) rfl (show (mu_is H (some 114) (mu_k H 114)) ∧ (103 ≤ mu_k H 114 ∧ mu_k H 114 ≤ 110 ∧ mu_k H 114 ≠ 108) ∧ (vp_in (nI (st / 8192)) (mu_n H 114)) from ⟨(by have z := (h.1.1.a (p := 114) (x := (104, 184)) rfl).1; rw [show mu_k H 114 = 104 from z.2.2]; exact z), (by have z := (h.1.1.a (p := 114) (x := (104, 184)) rfl).1; rw [show mu_k H 114 = 104 from z.2.2]; decide), (by rw [show mu_n H 114 = 184 from (h.1.1.a (p := 114) (x := (104, 184)) rfl).2]; exact vp_in_nI (n := st / 8192) (by omega) (by decide))⟩) ?_
  rw [(show (mu_r H 114 (nI (st / 8192)).toNatClampNeg) = some cq1 from (congrArg (mu_r H 114) (show (nI (st / 8192)).toNatClampNeg = st / 8192 from nI_clamp (by omega))).trans ka1)]
  refine mw_go mu_g236 (k := 2) (f1 := (19, [(0, .inr (.inr (some 113))), (1, .inl (nI id))], [.inr (.inr (mu_r H 113 3)), .inr (.inr (some cq1))], H)) (C := [mu_is H (some 113) 11]) rfl (show mu_is H (some 113) 11 from (h.1.1.is rfl)) ?_
  rw [(show mu_r H 113 3 = (U.2.2.2.1 113 3) from (ud_q (U := U) (m := m) (P := 113) (j := 3) e rfl))]
  refine mw_go mu_g236 (k := 2) (f1 := (21, [(0, .inr (.inr (some 113))), (1, .inl (nI id))], [.inl (mu_i H (mu_p (U.2.2.2.1 113 3)) (nI id).toNatClampNeg), .inr (.inr (some cq1))], H)) (C := [mu_isr H (U.2.2.2.1 113 3) 100, vp_in (nI id) (mu_n H (mu_p (U.2.2.2.1 113 3)))]) rfl (show (mu_isr H (U.2.2.2.1 113 3) 100) ∧ (vp_in (nI id) (mu_n H (mu_p (U.2.2.2.1 113 3)))) from ⟨((h.iA e rfl rfl (show U.2.2.2.1 113 3 = (U.2.2.2.1 113 3) from rfl))).r, (h.vA (i := id) e rfl rfl (show U.2.2.2.1 113 3 = (U.2.2.2.1 113 3) from rfl) (show (U.2.2.1 113 3).1 = (U.2.2.1 113 3).1 from rfl) (by omega) (by omega))⟩) ?_
  rw [(show (mu_i H (mu_p (U.2.2.2.1 113 3)) (nI id).toNatClampNeg) = (nI st) from ((congrArg (mu_i H (mu_p (U.2.2.2.1 113 3))) (show (nI id).toNatClampNeg = id from nI_clamp (by omega))).trans (h.gA e rfl rfl (show U.2.2.2.1 113 3 = (U.2.2.2.1 113 3) from rfl))).trans ((congrArg (fun z => z.2 id) (show U.2.2.1 113 3 = (U.2.2.1 113 3) from rfl)).trans hst))]
  refine mw_go mu_g236 (k := 2) (f1 := (25, [(0, .inr (.inr (some 113))), (1, .inl (nI id))], [.inl ((nI st) - (nI st) / (8192 : Int32) * (8192 : Int32)), .inr (.inr (some cq1))], H)) (C := [¬ (8192 : Int32) = 0]) rfl (show ¬ (8192 : Int32) = 0 from (by decide)) ?_
  rw [(show ((nI st) - (nI st) / (8192 : Int32) * (8192 : Int32)) = (nI (st % 8192)) from (nI_mod (a := st) (b := 8192) (by omega) (by omega)))]
  refine mw_go mu_g236 (k := 1) (f1 := (26, [(0, .inr (.inr (some 113))), (1, .inl (nI id))], [.inr (.inl (mu_l H cq1 (nI (st % 8192)).toNatClampNeg))], H)) (C := [mu_isr H (some cq1) 102, vp_in (nI (st % 8192)) (mu_n H cq1)]) rfl (show (mu_isr H (some cq1) 102) ∧ (vp_in (nI (st % 8192)) (mu_n H cq1)) from ⟨kb1.r, (by rw [kc1]; exact vp_in_nI (n := st % 8192) (by omega) (by decide))⟩) ?_
  rw [(show (mu_l H cq1 (nI (st % 8192)).toNatClampNeg) = (fc (st % 8192)) from (congrArg (mu_l H cq1) (show (nI (st % 8192)).toNatClampNeg = st % 8192 from nI_clamp (by omega))).trans (kd1 (st % 8192)))]
  refine mw_go mu_g236 (k := 5) (f1 := (34, [(0, .inr (.inr (some 113))), (1, .inl (nI id))], [.inl (((((fc (st % 8192)).toUInt64 >>> ((15 : Int32).toInt64.toUInt64 &&& Int64.toUInt64 63)).toInt64) &&& (3 : Int64)).toInt32)], H)) (C := []) rfl trivial ?_
  exact mw_of (fun _ => mu_ret rfl trivial ⟨(((((fc (st % 8192)).toUInt64 >>> ((15 : Int32).toInt64.toUInt64 &&& Int64.toUInt64 63)).toInt64) &&& (3 : Int64)).toInt32), H, rfl, (show (((((fc (st % 8192)).toUInt64 >>> ((15 : Int32).toInt64.toUInt64 &&& Int64.toUInt64 63)).toInt64) &&& (3 : Int64)).toInt32) = nI (hfm fc st) from hfm_n), rfl⟩)
/-- PathProver$Sets.partsIn(I)I -/
abbrev mu_m237 : ev_M := (6, (some .int), [], ev_b237)
theorem mu_g237 : mu_good mu_m237 := mu_goodk ev_k237
theorem st_parts (h : um m H) (e : ud m H = U) (hs : sat U id st fc) : mu_TI (mu_D (d + 1)) 237 [.inr (.inr (some 113)), .inl (nI id)] H (fun x H1 => x = nI (hpt fc st) ∧ H1 = H) := by
  obtain ⟨⟨hi1, hi2⟩, hst, hst2, hch⟩ := (show sat U id st fc from hs)
  refine mu_meth (M := mu_m237) rfl rfl ?_
  refine mw_ht (mu_fn_of (show [0, 1].Nodup by decide)) ?_
  refine mw_go mu_g237 (k := 2) (f1 := (4, [(0, .inr (.inr (some 113))), (1, .inl (nI id))], [.inr (.inr (mu_r H 113 0))], H)) (C := [mu_is H (some 113) 11]) rfl (show mu_is H (some 113) 11 from (h.1.1.is rfl)) ?_
  rw [(h.1.1.r (p := 113) (j := 0) (q := 114) rfl)]
  refine mw_go mu_g237 (k := 2) (f1 := (8, [(0, .inr (.inr (some 113))), (1, .inl (nI id))], [.inr (.inr (mu_r H 113 3)), .inr (.inr (some 114))], H)) (C := [mu_is H (some 113) 11]) rfl (show mu_is H (some 113) 11 from (h.1.1.is rfl)) ?_
  rw [(show mu_r H 113 3 = (U.2.2.2.1 113 3) from (ud_q (U := U) (m := m) (P := 113) (j := 3) e rfl))]
  refine mw_go mu_g237 (k := 2) (f1 := (10, [(0, .inr (.inr (some 113))), (1, .inl (nI id))], [.inl (mu_i H (mu_p (U.2.2.2.1 113 3)) (nI id).toNatClampNeg), .inr (.inr (some 114))], H)) (C := [mu_isr H (U.2.2.2.1 113 3) 100, vp_in (nI id) (mu_n H (mu_p (U.2.2.2.1 113 3)))]) rfl (show (mu_isr H (U.2.2.2.1 113 3) 100) ∧ (vp_in (nI id) (mu_n H (mu_p (U.2.2.2.1 113 3)))) from ⟨((h.iA e rfl rfl (show U.2.2.2.1 113 3 = (U.2.2.2.1 113 3) from rfl))).r, (h.vA (i := id) e rfl rfl (show U.2.2.2.1 113 3 = (U.2.2.2.1 113 3) from rfl) (show (U.2.2.1 113 3).1 = (U.2.2.1 113 3).1 from rfl) (by omega) (by omega))⟩) ?_
  rw [(show (mu_i H (mu_p (U.2.2.2.1 113 3)) (nI id).toNatClampNeg) = (nI st) from ((congrArg (mu_i H (mu_p (U.2.2.2.1 113 3))) (show (nI id).toNatClampNeg = id from nI_clamp (by omega))).trans (h.gA e rfl rfl (show U.2.2.2.1 113 3 = (U.2.2.2.1 113 3) from rfl))).trans ((congrArg (fun z => z.2 id) (show U.2.2.1 113 3 = (U.2.2.1 113 3) from rfl)).trans hst))]
  refine mw_go mu_g237 (k := 2) (f1 := (14, [(0, .inr (.inr (some 113))), (1, .inl (nI id))], [.inl ((nI st) / (8192 : Int32)), .inr (.inr (some 114))], H)) (C := [¬ (8192 : Int32) = 0]) rfl (show ¬ (8192 : Int32) = 0 from (by decide)) ?_
  rw [(show ((nI st) / (8192 : Int32)) = (nI (st / 8192)) from (nI_div (a := st) (b := 8192) (by omega) (by omega)))]
  obtain ⟨cq1, ka1, kb1, kc1, kd1⟩ := um.gP h e (plp114 (show st / 8192 < 184 by omega)) (show U.2.2.2.2.2 114 (st / 8192) = some (8192, fc) from hch)
  refine mw_go mu_g237 (k := 1) (f1 := (15, [(0, .inr (.inr (some 113))), (1, .inl (nI id))], [.inr (.inr (mu_r H 114 (nI (st / 8192)).toNatClampNeg))], H)) (C := [mu_is H (some 114) (mu_k H 114), 103 ≤ mu_k H 114 ∧ mu_k H 114 ≤ 110 ∧ mu_k H 114 ≠ 108, vp_in (nI (st / 8192)) (mu_n H 114)]) rfl (show (mu_is H (some 114) (mu_k H 114)) ∧ (103 ≤ mu_k H 114 ∧ mu_k H 114 ≤ 110 ∧ mu_k H 114 ≠ 108) ∧ (vp_in (nI (st / 8192)) (mu_n H 114)) from ⟨(by have z := (h.1.1.a (p := 114) (x := (104, 184)) rfl).1; rw [show mu_k H 114 = 104 from z.2.2]; exact z), (by have z := (h.1.1.a (p := 114) (x := (104, 184)) rfl).1; rw [show mu_k H 114 = 104 from z.2.2]; decide), (by rw [show mu_n H 114 = 184 from (h.1.1.a (p := 114) (x := (104, 184)) rfl).2]; exact vp_in_nI (n := st / 8192) (by omega) (by decide))⟩) ?_
  rw [(show (mu_r H 114 (nI (st / 8192)).toNatClampNeg) = some cq1 from (congrArg (mu_r H 114) (show (nI (st / 8192)).toNatClampNeg = st / 8192 from nI_clamp (by omega))).trans ka1)]
  refine mw_go mu_g237 (k := 2) (f1 := (19, [(0, .inr (.inr (some 113))), (1, .inl (nI id))], [.inr (.inr (mu_r H 113 3)), .inr (.inr (some cq1))], H)) (C := [mu_is H (some 113) 11]) rfl (show mu_is H (some 113) 11 from (h.1.1.is rfl)) ?_
  rw [(show mu_r H 113 3 = (U.2.2.2.1 113 3) from (ud_q (U := U) (m := m) (P := 113) (j := 3) e rfl))]
  refine mw_go mu_g237 (k := 2) (f1 := (21, [(0, .inr (.inr (some 113))), (1, .inl (nI id))], [.inl (mu_i H (mu_p (U.2.2.2.1 113 3)) (nI id).toNatClampNeg), .inr (.inr (some cq1))], H)) (C := [mu_isr H (U.2.2.2.1 113 3) 100, vp_in (nI id) (mu_n H (mu_p (U.2.2.2.1 113 3)))]) rfl (show (mu_isr H (U.2.2.2.1 113 3) 100) ∧ (vp_in (nI id) (mu_n H (mu_p (U.2.2.2.1 113 3)))) from ⟨((h.iA e rfl rfl (show U.2.2.2.1 113 3 = (U.2.2.2.1 113 3) from rfl))).r, (h.vA (i := id) e rfl rfl (show U.2.2.2.1 113 3 = (U.2.2.2.1 113 3) from rfl) (show (U.2.2.1 113 3).1 = (U.2.2.1 113 3).1 from rfl) (by omega) (by omega))⟩) ?_
  rw [(show (mu_i H (mu_p (U.2.2.2.1 113 3)) (nI id).toNatClampNeg) = (nI st) from ((congrArg (mu_i H (mu_p (U.2.2.2.1 113 3))) (show (nI id).toNatClampNeg = id from nI_clamp (by omega))).trans (h.gA e rfl rfl (show U.2.2.2.1 113 3 = (U.2.2.2.1 113 3) from rfl))).trans ((congrArg (fun z => z.2 id) (show U.2.2.1 113 3 = (U.2.2.1 113 3) from rfl)).trans hst))]
  refine mw_go mu_g237 (k := 2) (f1 := (25, [(0, .inr (.inr (some 113))), (1, .inl (nI id))], [.inl ((nI st) - (nI st) / (8192 : Int32) * (8192 : Int32)), .inr (.inr (some cq1))], H)) (C := [¬ (8192 : Int32) = 0]) rfl (show ¬ (8192 : Int32) = 0 from (by decide)) ?_
  rw [(show ((nI st) - (nI st) / (8192 : Int32) * (8192 : Int32)) = (nI (st % 8192)) from (nI_mod (a := st) (b := 8192) (by omega) (by omega)))]
  refine mw_go mu_g237 (k := 1) (f1 := (26, [(0, .inr (.inr (some 113))), (1, .inl (nI id))], [.inr (.inl (mu_l H cq1 (nI (st % 8192)).toNatClampNeg))], H)) (C := [mu_isr H (some cq1) 102, vp_in (nI (st % 8192)) (mu_n H cq1)]) rfl (show (mu_isr H (some cq1) 102) ∧ (vp_in (nI (st % 8192)) (mu_n H cq1)) from ⟨kb1.r, (by rw [kc1]; exact vp_in_nI (n := st % 8192) (by omega) (by decide))⟩) ?_
  rw [(show (mu_l H cq1 (nI (st % 8192)).toNatClampNeg) = (fc (st % 8192)) from (congrArg (mu_l H cq1) (show (nI (st % 8192)).toNatClampNeg = st % 8192 from nI_clamp (by omega))).trans (kd1 (st % 8192)))]
  refine mw_go mu_g237 (k := 15) (f1 := (49, [(5, .inl (((((fc (st % 8192)).toUInt64 >>> ((15 : Int32).toInt64.toUInt64 &&& Int64.toUInt64 63)).toInt64) &&& (3 : Int64)).toInt32)), (4, .inl (((((fc (st % 8192)).toUInt64 >>> ((17 : Int32).toInt64.toUInt64 &&& Int64.toUInt64 63)).toInt64) &&& (511 : Int64)).toInt32)), (2, .inr (.inl (fc (st % 8192)))), (0, .inr (.inr (some 113))), (1, .inl (nI id))], [], H)) (C := []) rfl trivial ?_
  rw [show (((((fc (st % 8192)).toUInt64 >>> ((15 : Int32).toInt64.toUInt64 &&& Int64.toUInt64 63)).toInt64) &&& (3 : Int64)).toInt32) = nI (hfm fc st) from hfm_n, show (((((fc (st % 8192)).toUInt64 >>> ((17 : Int32).toInt64.toUInt64 &&& Int64.toUInt64 63)).toInt64) &&& (511 : Int64)).toInt32) = nI (hln fc st) from hln_n]
  have kf := hfm_lt (fc := fc) (st := st)
  have kl := hln_lt (fc := fc) (st := st)
  refine mw_go mu_g237 (k := 1) (f1 := (51, [(5, .inl (nI (hfm fc st))), (4, .inl (nI (hln fc st))), (2, .inr (.inl (fc (st % 8192)))), (0, .inr (.inr (some 113))), (1, .inl (nI id))], [.inl (nI (hfm fc st))], H)) (C := []) rfl trivial ?_
  refine mw_if (P := (nI (hfm fc st)) = 0) (a := 54) (b := 63) (fun _ => rfl) trivial (fun h2 => ?_) (fun h2 => ?_)
  · -- 54: (nI (hfm fc st)) = 0
    have nh2 : (hfm fc st) = 0 := (nI_eq (by omega) (by omega)).mp (show nI (hfm fc st) = nI 0 from h2)
    refine mw_go mu_g237 (k := 5) (f1 := (78, [(5, .inl (nI (hfm fc st))), (4, .inl (nI (hln fc st))), (2, .inr (.inl (fc (st % 8192)))), (0, .inr (.inr (some 113))), (1, .inl (nI id))], [.inl (((fc (st % 8192)).toInt32) &&& (32767 : Int32))], H)) (C := []) rfl trivial ?_
    exact mw_of (fun _ => mu_ret rfl trivial ⟨(((fc (st % 8192)).toInt32) &&& (32767 : Int32)), H, rfl, (show (((fc (st % 8192)).toInt32) &&& (32767 : Int32)) = nI (hpt fc st) from hsz_n.trans (congrArg nI (show hsz fc st = hpt fc st from (if_pos nh2).symm))), rfl⟩)
  · -- 63: not (nI (hfm fc st)) = 0
    have nh2 : ¬ (hfm fc st) = 0 := fun z => h2 (show nI (hfm fc st) = nI 0 from (nI_eq (by omega) (by omega)).mpr z)
    refine mw_go mu_g237 (k := 2) (f1 := (66, [(5, .inl (nI (hfm fc st))), (4, .inl (nI (hln fc st))), (2, .inr (.inl (fc (st % 8192)))), (0, .inr (.inr (some 113))), (1, .inl (nI id))], [.inl (1 : Int32), .inl (nI (hfm fc st))], H)) (C := []) rfl trivial ?_
    refine mw_if (P := (nI (hfm fc st)) = (1 : Int32)) (a := 69) (b := 76) (fun _ => rfl) trivial (fun h3 => ?_) (fun h3 => ?_)
    · -- 69: (nI (hfm fc st)) = (1 : Int32)
      have nh3 : (hfm fc st) = 1 := (nI_eq (by omega) (by omega)).mp (show nI (hfm fc st) = nI 1 from h3)
      refine mw_go mu_g237 (k := 3) (f1 := (73, [(5, .inl (nI (hfm fc st))), (4, .inl (nI (hln fc st))), (2, .inr (.inl (fc (st % 8192)))), (0, .inr (.inr (some 113))), (1, .inl (nI id))], [.inl ((2 : Int32) * (nI (hln fc st)))], H)) (C := []) rfl trivial ?_
      rw [(show ((2 : Int32) * (nI (hln fc st))) = (nI (2 * (hln fc st))) from (nI_mul (a := 2) (b := hln fc st)))]
      refine mw_go mu_g237 (k := 1) (f1 := (78, [(5, .inl (nI (hfm fc st))), (4, .inl (nI (hln fc st))), (2, .inr (.inl (fc (st % 8192)))), (0, .inr (.inr (some 113))), (1, .inl (nI id))], [.inl (nI (2 * (hln fc st)))], H)) (C := []) rfl trivial ?_
      exact mw_of (fun _ => mu_ret rfl trivial ⟨(nI (2 * (hln fc st))), H, rfl, (show (nI (2 * (hln fc st))) = nI (hpt fc st) from congrArg nI (show 2 * hln fc st = hpt fc st from ((if_neg nh2).trans (if_pos nh3)).symm)), rfl⟩)
    · -- 76: not (nI (hfm fc st)) = (1 : Int32)
      have nh3 : ¬ (hfm fc st) = 1 := fun z => h3 (show nI (hfm fc st) = nI 1 from (nI_eq (by omega) (by omega)).mpr z)
      refine mw_go mu_g237 (k := 1) (f1 := (78, [(5, .inl (nI (hfm fc st))), (4, .inl (nI (hln fc st))), (2, .inr (.inl (fc (st % 8192)))), (0, .inr (.inr (some 113))), (1, .inl (nI id))], [.inl (nI (hln fc st))], H)) (C := []) rfl trivial ?_
      exact mw_of (fun _ => mu_ret rfl trivial ⟨(nI (hln fc st)), H, rfl, (show (nI (hln fc st)) = nI (hpt fc st) from congrArg nI (show hln fc st = hpt fc st from ((if_neg nh2).trans (if_neg nh3)).symm)), rfl⟩)
/-- PathProver$Sets.numberAt(II)I -/
abbrev mu_m238 : ev_M := (3, (some .int), [], ev_b238)
theorem mu_g238 : mu_good mu_m238 := mu_goodk ev_k238
theorem st_num {p : Nat} (h : um m H) (e : ud m H = U) (hs : sat U id st fc) (hp : p < 2147483648) (hb : st % 8192 + 1 + p / 4 < 8192) : mu_TI (mu_D (d + 1)) 238 [.inr (.inr (some 113)), .inl (nI id), .inl (nI p)] H (fun x H1 => x = nI (nmzU fc st p) ∧ H1 = H) := by
  obtain ⟨⟨hi1, hi2⟩, hst, hst2, hch⟩ := (show sat U id st fc from hs)
  refine mu_meth (M := mu_m238) rfl rfl ?_
  refine mw_ht (mu_fn_of (show [0, 1, 2].Nodup by decide)) ?_
  refine mw_go mu_g238 (k := 2) (f1 := (4, [(0, .inr (.inr (some 113))), (1, .inl (nI id)), (2, .inl (nI p))], [.inr (.inr (mu_r H 113 0))], H)) (C := [mu_is H (some 113) 11]) rfl (show mu_is H (some 113) 11 from (h.1.1.is rfl)) ?_
  rw [(h.1.1.r (p := 113) (j := 0) (q := 114) rfl)]
  refine mw_go mu_g238 (k := 2) (f1 := (8, [(0, .inr (.inr (some 113))), (1, .inl (nI id)), (2, .inl (nI p))], [.inr (.inr (mu_r H 113 3)), .inr (.inr (some 114))], H)) (C := [mu_is H (some 113) 11]) rfl (show mu_is H (some 113) 11 from (h.1.1.is rfl)) ?_
  rw [(show mu_r H 113 3 = (U.2.2.2.1 113 3) from (ud_q (U := U) (m := m) (P := 113) (j := 3) e rfl))]
  refine mw_go mu_g238 (k := 2) (f1 := (10, [(0, .inr (.inr (some 113))), (1, .inl (nI id)), (2, .inl (nI p))], [.inl (mu_i H (mu_p (U.2.2.2.1 113 3)) (nI id).toNatClampNeg), .inr (.inr (some 114))], H)) (C := [mu_isr H (U.2.2.2.1 113 3) 100, vp_in (nI id) (mu_n H (mu_p (U.2.2.2.1 113 3)))]) rfl (show (mu_isr H (U.2.2.2.1 113 3) 100) ∧ (vp_in (nI id) (mu_n H (mu_p (U.2.2.2.1 113 3)))) from ⟨((h.iA e rfl rfl (show U.2.2.2.1 113 3 = (U.2.2.2.1 113 3) from rfl))).r, (h.vA (i := id) e rfl rfl (show U.2.2.2.1 113 3 = (U.2.2.2.1 113 3) from rfl) (show (U.2.2.1 113 3).1 = (U.2.2.1 113 3).1 from rfl) (by omega) (by omega))⟩) ?_
  rw [(show (mu_i H (mu_p (U.2.2.2.1 113 3)) (nI id).toNatClampNeg) = (nI st) from ((congrArg (mu_i H (mu_p (U.2.2.2.1 113 3))) (show (nI id).toNatClampNeg = id from nI_clamp (by omega))).trans (h.gA e rfl rfl (show U.2.2.2.1 113 3 = (U.2.2.2.1 113 3) from rfl))).trans ((congrArg (fun z => z.2 id) (show U.2.2.1 113 3 = (U.2.2.1 113 3) from rfl)).trans hst))]
  refine mw_go mu_g238 (k := 2) (f1 := (14, [(0, .inr (.inr (some 113))), (1, .inl (nI id)), (2, .inl (nI p))], [.inl ((nI st) / (8192 : Int32)), .inr (.inr (some 114))], H)) (C := [¬ (8192 : Int32) = 0]) rfl (show ¬ (8192 : Int32) = 0 from (by decide)) ?_
  rw [(show ((nI st) / (8192 : Int32)) = (nI (st / 8192)) from (nI_div (a := st) (b := 8192) (by omega) (by omega)))]
  obtain ⟨cq1, ka1, kb1, kc1, kd1⟩ := um.gP h e (plp114 (show st / 8192 < 184 by omega)) (show U.2.2.2.2.2 114 (st / 8192) = some (8192, fc) from hch)
  refine mw_go mu_g238 (k := 1) (f1 := (15, [(0, .inr (.inr (some 113))), (1, .inl (nI id)), (2, .inl (nI p))], [.inr (.inr (mu_r H 114 (nI (st / 8192)).toNatClampNeg))], H)) (C := [mu_is H (some 114) (mu_k H 114), 103 ≤ mu_k H 114 ∧ mu_k H 114 ≤ 110 ∧ mu_k H 114 ≠ 108, vp_in (nI (st / 8192)) (mu_n H 114)]) rfl (show (mu_is H (some 114) (mu_k H 114)) ∧ (103 ≤ mu_k H 114 ∧ mu_k H 114 ≤ 110 ∧ mu_k H 114 ≠ 108) ∧ (vp_in (nI (st / 8192)) (mu_n H 114)) from ⟨(by have z := (h.1.1.a (p := 114) (x := (104, 184)) rfl).1; rw [show mu_k H 114 = 104 from z.2.2]; exact z), (by have z := (h.1.1.a (p := 114) (x := (104, 184)) rfl).1; rw [show mu_k H 114 = 104 from z.2.2]; decide), (by rw [show mu_n H 114 = 184 from (h.1.1.a (p := 114) (x := (104, 184)) rfl).2]; exact vp_in_nI (n := st / 8192) (by omega) (by decide))⟩) ?_
  rw [(show (mu_r H 114 (nI (st / 8192)).toNatClampNeg) = some cq1 from (congrArg (mu_r H 114) (show (nI (st / 8192)).toNatClampNeg = st / 8192 from nI_clamp (by omega))).trans ka1)]
  refine mw_go mu_g238 (k := 2) (f1 := (19, [(0, .inr (.inr (some 113))), (1, .inl (nI id)), (2, .inl (nI p))], [.inr (.inr (mu_r H 113 3)), .inr (.inr (some cq1))], H)) (C := [mu_is H (some 113) 11]) rfl (show mu_is H (some 113) 11 from (h.1.1.is rfl)) ?_
  rw [(show mu_r H 113 3 = (U.2.2.2.1 113 3) from (ud_q (U := U) (m := m) (P := 113) (j := 3) e rfl))]
  refine mw_go mu_g238 (k := 2) (f1 := (21, [(0, .inr (.inr (some 113))), (1, .inl (nI id)), (2, .inl (nI p))], [.inl (mu_i H (mu_p (U.2.2.2.1 113 3)) (nI id).toNatClampNeg), .inr (.inr (some cq1))], H)) (C := [mu_isr H (U.2.2.2.1 113 3) 100, vp_in (nI id) (mu_n H (mu_p (U.2.2.2.1 113 3)))]) rfl (show (mu_isr H (U.2.2.2.1 113 3) 100) ∧ (vp_in (nI id) (mu_n H (mu_p (U.2.2.2.1 113 3)))) from ⟨((h.iA e rfl rfl (show U.2.2.2.1 113 3 = (U.2.2.2.1 113 3) from rfl))).r, (h.vA (i := id) e rfl rfl (show U.2.2.2.1 113 3 = (U.2.2.2.1 113 3) from rfl) (show (U.2.2.1 113 3).1 = (U.2.2.1 113 3).1 from rfl) (by omega) (by omega))⟩) ?_
  rw [(show (mu_i H (mu_p (U.2.2.2.1 113 3)) (nI id).toNatClampNeg) = (nI st) from ((congrArg (mu_i H (mu_p (U.2.2.2.1 113 3))) (show (nI id).toNatClampNeg = id from nI_clamp (by omega))).trans (h.gA e rfl rfl (show U.2.2.2.1 113 3 = (U.2.2.2.1 113 3) from rfl))).trans ((congrArg (fun z => z.2 id) (show U.2.2.1 113 3 = (U.2.2.1 113 3) from rfl)).trans hst))]
  refine mw_go mu_g238 (k := 2) (f1 := (25, [(0, .inr (.inr (some 113))), (1, .inl (nI id)), (2, .inl (nI p))], [.inl ((nI st) - (nI st) / (8192 : Int32) * (8192 : Int32)), .inr (.inr (some cq1))], H)) (C := [¬ (8192 : Int32) = 0]) rfl (show ¬ (8192 : Int32) = 0 from (by decide)) ?_
  rw [(show ((nI st) - (nI st) / (8192 : Int32) * (8192 : Int32)) = (nI (st % 8192)) from (nI_mod (a := st) (b := 8192) (by omega) (by omega)))]
  refine mw_go mu_g238 (k := 2) (f1 := (27, [(0, .inr (.inr (some 113))), (1, .inl (nI id)), (2, .inl (nI p))], [.inl ((nI (st % 8192)) + (1 : Int32)), .inr (.inr (some cq1))], H)) (C := []) rfl trivial ?_
  rw [(show ((nI (st % 8192)) + (1 : Int32)) = (nI ((st % 8192) + 1)) from (nI_add (st % 8192) 1))]
  refine mw_go mu_g238 (k := 3) (f1 := (30, [(0, .inr (.inr (some 113))), (1, .inl (nI id)), (2, .inl (nI p))], [.inl ((nI p) >>> ((2 : Int32) &&& 31)), .inl (nI ((st % 8192) + 1)), .inr (.inr (some cq1))], H)) (C := []) rfl trivial ?_
  rw [(show ((nI p) >>> ((2 : Int32) &&& 31)) = (nI (p / 4)) from (nI_shr2 (a := p) (by omega)))]
  refine mw_go mu_g238 (k := 1) (f1 := (31, [(0, .inr (.inr (some 113))), (1, .inl (nI id)), (2, .inl (nI p))], [.inl ((nI ((st % 8192) + 1)) + (nI (p / 4))), .inr (.inr (some cq1))], H)) (C := []) rfl trivial ?_
  rw [(show ((nI ((st % 8192) + 1)) + (nI (p / 4))) = (nI (((st % 8192) + 1) + (p / 4))) from (nI_add ((st % 8192) + 1) (p / 4)))]
  refine mw_go mu_g238 (k := 1) (f1 := (32, [(0, .inr (.inr (some 113))), (1, .inl (nI id)), (2, .inl (nI p))], [.inr (.inl (mu_l H cq1 (nI (((st % 8192) + 1) + (p / 4))).toNatClampNeg))], H)) (C := [mu_isr H (some cq1) 102, vp_in (nI (((st % 8192) + 1) + (p / 4))) (mu_n H cq1)]) rfl (show (mu_isr H (some cq1) 102) ∧ (vp_in (nI (((st % 8192) + 1) + (p / 4))) (mu_n H cq1)) from ⟨kb1.r, (by rw [kc1]; exact vp_in_nI (n := ((st % 8192) + 1) + (p / 4)) (by omega) (by decide))⟩) ?_
  rw [(show (mu_l H cq1 (nI (((st % 8192) + 1) + (p / 4))).toNatClampNeg) = (fc (((st % 8192) + 1) + (p / 4))) from (congrArg (mu_l H cq1) (show (nI (((st % 8192) + 1) + (p / 4))).toNatClampNeg = ((st % 8192) + 1) + (p / 4) from nI_clamp (by omega))).trans (kd1 (((st % 8192) + 1) + (p / 4))))]
  refine mw_go mu_g238 (k := 4) (f1 := (37, [(0, .inr (.inr (some 113))), (1, .inl (nI id)), (2, .inl (nI p))], [.inl ((nI p) &&& (3 : Int32)), .inl (16 : Int32), .inr (.inl (fc (((st % 8192) + 1) + (p / 4))))], H)) (C := []) rfl trivial ?_
  rw [show ((nI p) &&& (3 : Int32)) = (nI (p % 4)) from and3_n (by omega)]
  refine mw_go mu_g238 (k := 1) (f1 := (38, [(0, .inr (.inr (some 113))), (1, .inl (nI id)), (2, .inl (nI p))], [.inl ((16 : Int32) * (nI (p % 4))), .inr (.inl (fc (((st % 8192) + 1) + (p / 4))))], H)) (C := []) rfl trivial ?_
  rw [(show ((16 : Int32) * (nI (p % 4))) = (nI (16 * (p % 4))) from (nI_mul (a := 16) (b := p % 4)))]
  refine mw_go mu_g238 (k := 4) (f1 := (43, [(0, .inr (.inr (some 113))), (1, .inl (nI id)), (2, .inl (nI p))], [.inl (((((fc (((st % 8192) + 1) + (p / 4))).toUInt64 >>> ((nI (16 * (p % 4))).toInt64.toUInt64 &&& Int64.toUInt64 63)).toInt64).toInt32) &&& (65535 : Int32))], H)) (C := []) rfl trivial ?_
  exact mw_of (fun _ => mu_ret rfl trivial ⟨(((((fc (((st % 8192) + 1) + (p / 4))).toUInt64 >>> ((nI (16 * (p % 4))).toInt64.toUInt64 &&& Int64.toUInt64 63)).toInt64).toInt32) &&& (65535 : Int32)), H, rfl, (show (((((fc (((st % 8192) + 1) + (p / 4))).toUInt64 >>> ((nI (16 * (p % 4))).toInt64.toUInt64 &&& Int64.toUInt64 63)).toInt64).toInt32) &&& (65535 : Int32)) = nI (nmzU fc st p) from nm_n), rfl⟩)
end Sets
