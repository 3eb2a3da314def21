/-! THE STORE OF SETS: runs, and sets laid out as bits -/
def bts (L : Nat → Int64) (t : Nat) : Bool := btz (L (t / 64)) (t % 64)
theorem btz_m1 {b : Nat} (hb : b < 64) : btz (-1) b = true := by
  have : ∀ b : Fin 64, btz (-1) b.1 = true := by decide +kernel
  exact this ⟨b, hb⟩
theorem btz_ushr {x : Int64} {k b : Nat} (hk : k < 64) : btz (x.toUInt64 >>> ((nI k).toInt64.toUInt64 &&& Int64.toUInt64 63)).toInt64 b = btz x (k + b) := by
  have key : ∀ k : Fin 64, ((nI k.1).toInt64.toUInt64 &&& Int64.toUInt64 63).toNat % 64 = k.1 := by decide +kernel
  unfold btz
  show ((x.toUInt64 >>> ((nI k).toInt64.toUInt64 &&& Int64.toUInt64 63)).toBitVec).getLsbD b = _
  have e3 : (x.toUInt64 >>> ((nI k).toInt64.toUInt64 &&& Int64.toUInt64 63)).toBitVec = x.toBitVec >>> k := by
    refine BitVec.eq_of_toNat_eq ?_
    rw [BitVec.toNat_ushiftRight]
    show (x.toUInt64 >>> ((nI k).toInt64.toUInt64 &&& Int64.toUInt64 63)).toNat = _
    rw [UInt64.toNat_shiftRight, key ⟨k, hk⟩]
    rfl
  rw [e3, BitVec.getLsbD_ushiftRight]
section Runs
variable {H : mu_H} {U : Ud} {m d id st a b w q x n p i : Nat} {C : Nat → Nat} {fc L L0 : Nat → Int64} {S : Nat → Bool} {r v : Int64}
theorem upL_at : (upL U p i v).2.2.2.2.1 p = fun k => if k = i then v else U.2.2.2.2.1 p k := by
  funext k
  show (if p = p ∧ k = i then v else U.2.2.2.2.1 p k) = _
  by_cases z : k = i
  · rw [if_pos ⟨rfl, z⟩, if_pos z]
  · rw [if_neg (fun y => z y.2), if_neg z]
theorem rn_lo1 (hw : a / 64 = w) (ha : a < 2147483648) (hq : q < 64) : btz ((-1) <<< ((nI a).toInt64 &&& 63)) q = decide (a ≤ 64 * w + q) := by
  rw [btz_shl ha hq]
  by_cases z : a % 64 ≤ q
  · rw [btz_m1 (by omega), decide_eq_true z, decide_eq_true (by omega)]; rfl
  · rw [decide_eq_false z, decide_eq_false (by omega)]; rfl
theorem rn_hi1 (hw : b / 64 = w) (hq : q < 64) : btz ((-1 : Int64).toUInt64 >>> ((nI (63 - b % 64)).toInt64.toUInt64 &&& Int64.toUInt64 63)).toInt64 q = decide (64 * w + q ≤ b) := by
  rw [btz_ushr (by omega)]
  by_cases z : q ≤ b % 64
  · rw [btz_m1 (by omega), decide_eq_true (by omega)]
  · rw [btz_ge (by omega), decide_eq_false (by omega)]
theorem rn_1 (h1 : a / 64 < w) (h2 : w < b / 64) (hq : q < 64) : btz (-1) q = (decide (a ≤ 64 * w + q) && decide (64 * w + q ≤ b)) := by
  rw [btz_m1 hq, decide_eq_true (by omega), decide_eq_true (by omega)]; rfl
theorem rn_2 (h1 : a / 64 < w) (h2 : b / 64 = w) (hq : q < 64) : btz (-1 &&& ((-1 : Int64).toUInt64 >>> ((nI (63 - b % 64)).toInt64.toUInt64 &&& Int64.toUInt64 63)).toInt64) q = (decide (a ≤ 64 * w + q) && decide (64 * w + q ≤ b)) := by
  rw [btz_and, btz_m1 hq, decide_eq_true (show a ≤ 64 * w + q by omega), rn_hi1 h2 hq]
theorem rn_3 (h1 : a / 64 = w) (ha : a < 2147483648) (h2 : w < b / 64) (hq : q < 64) : btz ((-1) <<< ((nI a).toInt64 &&& 63)) q = (decide (a ≤ 64 * w + q) && decide (64 * w + q ≤ b)) := by
  rw [rn_lo1 h1 ha hq, decide_eq_true (show 64 * w + q ≤ b by omega), Bool.and_true]
theorem rn_4 (h1 : a / 64 = w) (ha : a < 2147483648) (h2 : b / 64 = w) (hq : q < 64) : btz (((-1) <<< ((nI a).toInt64 &&& 63)) &&& ((-1 : Int64).toUInt64 >>> ((nI (63 - b % 64)).toInt64.toUInt64 &&& Int64.toUInt64 63)).toInt64) q = (decide (a ≤ 64 * w + q) && decide (64 * w + q ≤ b)) := by
  rw [btz_and, rn_lo1 h1 ha hq, rn_hi1 h2 hq]
theorem and63_n {k : Nat} (hk : k < 2147483648) : nI k &&& 63 = nI (k % 64) := nI_and (w := 6) (by decide) hk
theorem bts_in (h : ∀ t, bts L t = bts L0 t) (t : Nat) : bts L t = (bts L0 t || decide (t / 64 < a / 64 ∧ a ≤ t ∧ t ≤ b)) := by
  rw [h t, decide_eq_false (by omega), Bool.or_false]
theorem bts_step (hB : ∀ t, bts L t = (bts L0 t || decide (t / 64 < w ∧ a ≤ t ∧ t ≤ b))) (hr : ∀ q, q < 64 → btz r q = (decide (a ≤ 64 * w + q) && decide (64 * w + q ≤ b))) (t : Nat) : bts (fun i => if i = w then L w ||| r else L i) t = (bts L0 t || decide (t / 64 < w + 1 ∧ a ≤ t ∧ t ≤ b)) := by
  have k1 := hB t
  by_cases z : t / 64 = w
  · have k2 := hr (t % 64) (Nat.mod_lt _ (by decide))
    rw [show 64 * w + t % 64 = t by omega] at k2
    unfold bts at k1 ⊢
    show btz (if t / 64 = w then L w ||| r else L (t / 64)) (t % 64) = _
    rw [if_pos z, btz_or, k2, ← z, k1, decide_eq_false (show ¬ (t / 64 < w ∧ a ≤ t ∧ t ≤ b) by omega), Bool.or_false]
    by_cases y : a ≤ t ∧ t ≤ b
    · rw [decide_eq_true y.1, decide_eq_true y.2, decide_eq_true (show t / 64 < t / 64 + 1 ∧ a ≤ t ∧ t ≤ b from ⟨Nat.lt_succ_self _, y⟩)]; rfl
    · rw [decide_eq_false (show ¬ (t / 64 < t / 64 + 1 ∧ a ≤ t ∧ t ≤ b) from fun k => y k.2)]
      by_cases y1 : a ≤ t
      · rw [decide_eq_true y1, decide_eq_false (fun k => y ⟨y1, k⟩)]; rfl
      · rw [decide_eq_false y1]; rfl
  · unfold bts at k1 ⊢
    show btz (if t / 64 = w then L w ||| r else L (t / 64)) (t % 64) = _
    rw [if_neg z, k1]
    congr 1
    exact decide_eq_decide.mpr ⟨fun k => ⟨by omega, k.2⟩, fun k => ⟨by omega, k.2⟩⟩
theorem bts_end (hw : b / 64 + 1 = w) (hB : ∀ t, bts L t = (bts L0 t || decide (t / 64 < w ∧ a ≤ t ∧ t ≤ b))) (t : Nat) : bts L t = (bts L0 t || decide (a ≤ t ∧ t ≤ b)) := by
  rw [hB t]
  congr 1
  exact decide_eq_decide.mpr ⟨fun k => k.2, fun k => ⟨by omega, k⟩⟩
/-- PathProver$Sets.runIn(III)J -/
abbrev mu_m240 : ev_M := (5, (some .long), [], ev_b240)
theorem mu_g240 : mu_good mu_m240 := mu_goodk ev_k240
theorem rn_in (h : um m H) (e : ud m H = U) (ha : a < 2147483648) (hb : b < 2147483648) (hw1 : a / 64 ≤ w) (hw2 : w ≤ b / 64) : mu_TL (mu_D (d + 1)) 240 [.inl (nI w), .inl (nI a), .inl (nI b)] H (fun x H1 => (∀ q, q < 64 → btz x q = (decide (a ≤ 64 * w + q) && decide (64 * w + q ≤ b))) ∧ H1 = H) := by
  refine mu_meth (M := mu_m240) rfl rfl ?_
  refine mw_ht (mu_fn_of (show [0, 1, 2].Nodup by decide)) ?_
  refine mw_go mu_g240 (k := 4) (f1 := (5, [(0, .inl (nI w)), (1, .inl (nI a)), (2, .inl (nI b))], [.inl ((nI a) >>> ((6 : Int32) &&& 31)), .inl (nI w)], H)) (C := []) rfl trivial ?_
  rw [(show ((nI a) >>> ((6 : Int32) &&& 31)) = (nI (a / 64)) from (nI_shr6 (a := a) (by omega)))]
  refine mw_if (P := (nI (a / 64)) < (nI w)) (a := 8) (b := 14) (fun _ => rfl) trivial (fun h1 => ?_) (fun h1 => ?_)
  · -- 8: (nI (a / 64)) < (nI w)
    have nh1 : (a / 64) < w := (nI_ltI (by omega) (by omega)).mp (show nI (a / 64) < nI w from h1)
    refine mw_go mu_g240 (k := 7) (f1 := (25, [(3, .inr (.inl (-1 : Int64))), (0, .inl (nI w)), (1, .inl (nI a)), (2, .inl (nI b))], [.inl ((nI b) >>> ((6 : Int32) &&& 31)), .inl (nI w)], H)) (C := []) rfl trivial ?_
    rw [(show ((nI b) >>> ((6 : Int32) &&& 31)) = (nI (b / 64)) from (nI_shr6 (a := b) (by omega)))]
    refine mw_if (P := (nI w) < (nI (b / 64))) (a := 28) (b := 32) (fun _ => rfl) trivial (fun h2 => ?_) (fun h2 => ?_)
    · -- 28: (nI w) < (nI (b / 64))
      have nh2 : w < (b / 64) := (nI_ltI (by omega) (by omega)).mp (show nI w < nI (b / 64) from h2)
      refine mw_go mu_g240 (k := 2) (f1 := (45, [(3, .inr (.inl (-1 : Int64))), (0, .inl (nI w)), (1, .inl (nI a)), (2, .inl (nI b))], [.inr (.inl (-1 : Int64))], H)) (C := []) rfl trivial ?_
      exact mw_of (fun _ => mu_ret rfl trivial ⟨(-1 : Int64), H, rfl, (fun q hq => rn_1 nh1 nh2 hq), rfl⟩)
    · -- 32: not (nI w) < (nI (b / 64))
      have nh2 : ¬ w < (b / 64) := fun z => h2 (show nI w < nI (b / 64) from (nI_ltI (by omega) (by omega)).mpr z)
      refine mw_go mu_g240 (k := 6) (f1 := (42, [(3, .inr (.inl (-1 : Int64))), (0, .inl (nI w)), (1, .inl (nI a)), (2, .inl (nI b))], [.inl ((nI b) &&& (63 : Int32)), .inl (63 : Int32), .inr (.inl (-1 : Int64)), .inr (.inl (-1 : Int64))], H)) (C := []) rfl trivial ?_
      rw [show ((nI b) &&& (63 : Int32)) = (nI (b % 64)) from and63_n (by omega)]
      refine mw_go mu_g240 (k := 1) (f1 := (43, [(3, .inr (.inl (-1 : Int64))), (0, .inl (nI w)), (1, .inl (nI a)), (2, .inl (nI b))], [.inl ((63 : Int32) - (nI (b % 64))), .inr (.inl (-1 : Int64)), .inr (.inl (-1 : Int64))], H)) (C := []) rfl trivial ?_
      rw [(show ((63 : Int32) - (nI (b % 64))) = (nI (63 - (b % 64))) from (nI_sub (a := 63) (b := b % 64) (by omega)))]
      refine mw_go mu_g240 (k := 2) (f1 := (45, [(3, .inr (.inl (-1 : Int64))), (0, .inl (nI w)), (1, .inl (nI a)), (2, .inl (nI b))], [.inr (.inl ((-1 : Int64) &&& (((-1 : Int64).toUInt64 >>> ((nI (63 - (b % 64))).toInt64.toUInt64 &&& Int64.toUInt64 63)).toInt64)))], H)) (C := []) rfl trivial ?_
      exact mw_of (fun _ => mu_ret rfl trivial ⟨((-1 : Int64) &&& (((-1 : Int64).toUInt64 >>> ((nI (63 - (b % 64))).toInt64.toUInt64 &&& Int64.toUInt64 63)).toInt64)), H, rfl, (fun q hq => rn_2 nh1 (by omega) hq), rfl⟩)
  · -- 14: not (nI (a / 64)) < (nI w)
    have nh1 : ¬ (a / 64) < w := fun z => h1 (show nI (a / 64) < nI w from (nI_ltI (by omega) (by omega)).mpr z)
    refine mw_go mu_g240 (k := 8) (f1 := (25, [(3, .inr (.inl ((-1 : Int64) <<< ((nI a).toInt64 &&& 63)))), (0, .inl (nI w)), (1, .inl (nI a)), (2, .inl (nI b))], [.inl ((nI b) >>> ((6 : Int32) &&& 31)), .inl (nI w)], H)) (C := []) rfl trivial ?_
    rw [(show ((nI b) >>> ((6 : Int32) &&& 31)) = (nI (b / 64)) from (nI_shr6 (a := b) (by omega)))]
    refine mw_if (P := (nI w) < (nI (b / 64))) (a := 28) (b := 32) (fun _ => rfl) trivial (fun h3 => ?_) (fun h3 => ?_)
    · -- 28: (nI w) < (nI (b / 64))
      have nh3 : w < (b / 64) := (nI_ltI (by omega) (by omega)).mp (show nI w < nI (b / 64) from h3)
      refine mw_go mu_g240 (k := 2) (f1 := (45, [(3, .inr (.inl ((-1 : Int64) <<< ((nI a).toInt64 &&& 63)))), (0, .inl (nI w)), (1, .inl (nI a)), (2, .inl (nI b))], [.inr (.inl ((-1 : Int64) <<< ((nI a).toInt64 &&& 63)))], H)) (C := []) rfl trivial ?_
      exact mw_of (fun _ => mu_ret rfl trivial ⟨((-1 : Int64) <<< ((nI a).toInt64 &&& 63)), H, rfl, (fun q hq => rn_3 (by omega) (by omega) nh3 hq), rfl⟩)
    · -- 32: not (nI w) < (nI (b / 64))
      have nh3 : ¬ w < (b / 64) := fun z => h3 (show nI w < nI (b / 64) from (nI_ltI (by omega) (by omega)).mpr z)
      refine mw_go mu_g240 (k := 6) (f1 := (42, [(3, .inr (.inl ((-1 : Int64) <<< ((nI a).toInt64 &&& 63)))), (0, .inl (nI w)), (1, .inl (nI a)), (2, .inl (nI b))], [.inl ((nI b) &&& (63 : Int32)), .inl (63 : Int32), .inr (.inl (-1 : Int64)), .inr (.inl ((-1 : Int64) <<< ((nI a).toInt64 &&& 63)))], H)) (C := []) rfl trivial ?_
      rw [show ((nI b) &&& (63 : Int32)) = (nI (b % 64)) from and63_n (by omega)]
      refine mw_go mu_g240 (k := 1) (f1 := (43, [(3, .inr (.inl ((-1 : Int64) <<< ((nI a).toInt64 &&& 63)))), (0, .inl (nI w)), (1, .inl (nI a)), (2, .inl (nI b))], [.inl ((63 : Int32) - (nI (b % 64))), .inr (.inl (-1 : Int64)), .inr (.inl ((-1 : Int64) <<< ((nI a).toInt64 &&& 63)))], H)) (C := []) rfl trivial ?_
      rw [(show ((63 : Int32) - (nI (b % 64))) = (nI (63 - (b % 64))) from (nI_sub (a := 63) (b := b % 64) (by omega)))]
      refine mw_go mu_g240 (k := 2) (f1 := (45, [(3, .inr (.inl ((-1 : Int64) <<< ((nI a).toInt64 &&& 63)))), (0, .inl (nI w)), (1, .inl (nI a)), (2, .inl (nI b))], [.inr (.inl (((-1 : Int64) <<< ((nI a).toInt64 &&& 63)) &&& (((-1 : Int64).toUInt64 >>> ((nI (63 - (b % 64))).toInt64.toUInt64 &&& Int64.toUInt64 63)).toInt64)))], H)) (C := []) rfl trivial ?_
      exact mw_of (fun _ => mu_ret rfl trivial ⟨(((-1 : Int64) <<< ((nI a).toInt64 &&& 63)) &&& (((-1 : Int64).toUInt64 >>> ((nI (63 - (b % 64))).toInt64.toUInt64 &&& Int64.toUInt64 63)).toInt64)), H, rfl, (fun q hq => rn_4 (by omega) (by omega) (by omega) hq), rfl⟩)
def F239a : Uf := ⟨[], [], [], [], [146], false⟩
/-- PathProver$Sets.layRun([JII)V -/
abbrev mu_m239 : ev_M := (4, none, [], ev_b239)
theorem mu_g239 : mu_good mu_m239 := mu_goodk ev_k239
def F239_146 : Uf := ⟨[], [], [], [], [146], false⟩
theorem st_lay146 (h : um m H) (e : ud m H = U) (hab : a ≤ b) (hb : b < 16384) : mu_TV (mu_D (d + 2)) 239 [.inr (.inr (some 146)), .inl (nI a), .inl (nI b)] H (fun H1 => um m H1 ∧ ur m C H H1 ∧ uq F239_146 U (ud m H1) ∧ ∀ t, bts ((ud m H1).2.2.2.2.1 146) t = (bts (U.2.2.2.2.1 146) t || decide (a ≤ t ∧ t ≤ b))) := by
  refine mu_meth (M := mu_m239) rfl rfl ?_
  refine mw_ht (mu_fn_of (show [0, 1, 2].Nodup by decide)) ?_
  refine mw_go mu_g239 (k := 3) (f1 := (4, [(0, .inr (.inr (some 146))), (1, .inl (nI a)), (2, .inl (nI b))], [.inl ((nI a) >>> ((6 : Int32) &&& 31))], H)) (C := []) rfl trivial ?_
  rw [(show ((nI a) >>> ((6 : Int32) &&& 31)) = (nI (a / 64)) from (nI_shr6 (a := a) (by omega)))]
  refine mw_go mu_g239 (k := 1) (f1 := (5, [(3, .inl (nI (a / 64))), (0, .inr (.inr (some 146))), (1, .inl (nI a)), (2, .inl (nI b))], [], H)) (C := []) rfl trivial ?_
  refine mw_sub (L' := [(3, .inl (nI (a / 64))), (0, .inr (.inr (some 146))), (1, .inl (nI a)), (2, .inl (nI b))]) (by simp) ?_
  refine mw_down (α := Nat × mu_H) (fun zs => (5, [(3, .inl (nI zs.1)), (0, .inr (.inr (some 146))), (1, .inl (nI a)), (2, .inl (nI b))], [], zs.2)) (fun zs => b / 64 + 1 - zs.1) (fun zs => um m zs.2 ∧ ur m C H zs.2 ∧ (uq F239a U (ud m zs.2)) ∧ (a / 64 ≤ zs.1 ∧ zs.1 ≤ b / 64 + 1) ∧ (∀ t, bts ((ud m zs.2).2.2.2.2.1 146) t = (bts (U.2.2.2.2.1 146) t || decide (t / 64 < zs.1 ∧ a ≤ t ∧ t ≤ b)))) (fun zs hza iha => ?_) (a / 64, H) ⟨h, (ur.refl m C H), (show uq F239a U (ud m H) from by rw [e]; exact uq.refl _ _), (show a / 64 ≤ (a / 64) ∧ (a / 64) ≤ b / 64 + 1 from (by omega)), (show ∀ t, bts ((ud m H).2.2.2.2.1 146) t = (bts (U.2.2.2.2.1 146) t || decide (t / 64 < (a / 64) ∧ a ≤ t ∧ t ≤ b)) from by rw [e]; exact (bts_in (fun t => rfl)))⟩
  obtain ⟨w, Hsa⟩ := zs
  obtain ⟨ua, hta, da, hw, hB⟩ := hza
  have ua : um m Hsa := ua
  have hta : ur m C H Hsa := hta
  have zza : uq F239a U (ud m Hsa) := da
  have hw : a / 64 ≤ w ∧ w ≤ b / 64 + 1 := hw
  have hB : ∀ t, bts ((ud m Hsa).2.2.2.2.1 146) t = (bts (U.2.2.2.2.1 146) t || decide (t / 64 < w ∧ a ≤ t ∧ t ≤ b)) := hB
  obtain ⟨Va, da⟩ : ∃ V, ud m Hsa = V := ⟨_, rfl⟩
  rw [da] at zza hB
  have qfa : uq F239_146 U Va := (uq.refl F239_146 U).tr zza rfl
  show mu_W _ _ (5, [(3, .inl (nI w)), (0, .inr (.inr (some 146))), (1, .inl (nI a)), (2, .inl (nI b))], [], Hsa) _
  refine mw_go mu_g239 (k := 4) (f1 := (10, [(3, .inl (nI w)), (0, .inr (.inr (some 146))), (1, .inl (nI a)), (2, .inl (nI b))], [.inl ((nI b) >>> ((6 : Int32) &&& 31)), .inl (nI w)], Hsa)) (C := []) rfl trivial ?_
  rw [(show ((nI b) >>> ((6 : Int32) &&& 31)) = (nI (b / 64)) from (nI_shr6 (a := b) (by omega)))]
  refine mw_if (P := (nI (b / 64)) < (nI w)) (a := 31) (b := 13) (fun _ => rfl) trivial (fun h1 => ?_) (fun h1 => ?_)
  · -- 31: (nI (b / 64)) < (nI w)
    have nh1 : (b / 64) < w := (nI_ltI (by omega) (by omega)).mp (show nI (b / 64) < nI w from h1)
    exact mw_of (fun _ => mu_ret rfl trivial ⟨Hsa, rfl, ua, hta, (by rw [da]; exact qfa), (by rw [da]; exact bts_end (by omega) hB)⟩)
  · -- 13: not (nI (b / 64)) < (nI w)
    have nh1 : ¬ (b / 64) < w := fun z => h1 (show nI (b / 64) < nI w from (nI_ltI (by omega) (by omega)).mpr z)
    refine mw_go mu_g239 (k := 4) (f1 := (17, [(3, .inl (nI w)), (0, .inr (.inr (some 146))), (1, .inl (nI a)), (2, .inl (nI b))], [.inr (.inl (mu_l Hsa 146 (nI w).toNatClampNeg)), .inl (nI w), .inr (.inr (some 146))], Hsa)) (C := [mu_isr Hsa (some 146) 102, vp_in (nI w) (mu_n Hsa 146)]) rfl (show (mu_isr Hsa (some 146) 102) ∧ (vp_in (nI w) (mu_n Hsa 146)) from ⟨((ua.1.1.a (p := 146) (x := (102, 256)) rfl).1).r, (by rw [show mu_n Hsa 146 = 256 from (ua.1.1.a (p := 146) (x := (102, 256)) rfl).2]; exact vp_in_nI (n := w) (by omega) (by decide))⟩) ?_
    rw [(show (mu_l Hsa 146 (nI w).toNatClampNeg) = (Va.2.2.2.2.1 146) w from (congrArg (mu_l Hsa 146) (show (nI w).toNatClampNeg = w from nI_clamp (by omega))).trans ((ud_l (m := m) (p := 146) (i := w) da rfl).trans (congrFun (show Va.2.2.2.2.1 146 = (Va.2.2.2.2.1 146) from rfl) w)))]
    refine mw_go mu_g239 (k := 3) (f1 := (20, [(3, .inl (nI w)), (0, .inr (.inr (some 146))), (1, .inl (nI a)), (2, .inl (nI b))], [.inl (nI b), .inl (nI a), .inl (nI w), .inr (.inl ((Va.2.2.2.2.1 146) w)), .inl (nI w), .inr (.inr (some 146))], Hsa)) (C := []) rfl trivial ?_
    refine mw_cL (fun _ => rfl) trivial (rn_in (d := d) (w := w) (a := a) (b := b) ua da (by omega) (by omega) (by omega) (by omega)) (fun x2 H2 q2 => ?_)
    obtain ⟨hr, hQe⟩ := q2
    rw [hQe]
    refine mw_go mu_g239 (k := 2) (f1 := (25, [(3, .inl (nI w)), (0, .inr (.inr (some 146))), (1, .inl (nI a)), (2, .inl (nI b))], [], (mu_sl Hsa 146 (nI w).toNatClampNeg (((Va.2.2.2.2.1 146) w) ||| x2)))) (C := [mu_is Hsa (some 146) 102, vp_in (nI w) (mu_n Hsa 146)]) rfl (show (mu_is Hsa (some 146) 102) ∧ (vp_in (nI w) (mu_n Hsa 146)) from ⟨((ua.1.1.a (p := 146) (x := (102, 256)) rfl).1), (by rw [show mu_n Hsa 146 = 256 from (ua.1.1.a (p := 146) (x := (102, 256)) rfl).2]; exact vp_in_nI (n := w) (by omega) (by decide))⟩) ?_
    rw [(show (nI w).toNatClampNeg = w from nI_clamp (by omega))]
    obtain ⟨u3, r3, d3⟩ : um m (mu_sl Hsa 146 w (((Va.2.2.2.2.1 146) w) ||| x2)) ∧ ur m C Hsa (mu_sl Hsa 146 w (((Va.2.2.2.2.1 146) w) ||| x2)) ∧ ud m (mu_sl Hsa 146 w (((Va.2.2.2.2.1 146) w) ||| x2)) = (upL Va 146 w (((Va.2.2.2.2.1 146) w) ||| x2)) := ua.sL (C := C) da rfl
    generalize (mu_sl Hsa 146 w (((Va.2.2.2.2.1 146) w) ||| x2)) = Q3 at u3 r3 d3 ⊢
    have qf3 : uq F239_146 U (upL Va 146 w (((Va.2.2.2.2.1 146) w) ||| x2)) := qfa.L rfl
    have ht3 : ur m C H Q3 := hta.trans r3
    refine mw_go mu_g239 (k := 1) (f1 := (28, [(3, .inl ((nI w) + 1)), (0, .inr (.inr (some 146))), (1, .inl (nI a)), (2, .inl (nI b))], [], Q3)) (C := []) rfl trivial ?_
    rw [(show ((nI w) + 1) = (nI (w + 1)) from (nI_add w 1))]
    refine mw_go mu_g239 (k := 1) (f1 := (5, [(3, .inl (nI (w + 1))), (0, .inr (.inr (some 146))), (1, .inl (nI a)), (2, .inl (nI b))], [], Q3)) (C := []) rfl trivial ?_
    exact mw_sub (by simp) (iha (w + 1, Q3) ⟨u3, ht3, (show uq F239a U (ud m Q3) from by rw [d3]; exact (zza.L rfl)), (show a / 64 ≤ (w + 1) ∧ (w + 1) ≤ b / 64 + 1 from (by omega)), (show ∀ t, bts ((ud m Q3).2.2.2.2.1 146) t = (bts (U.2.2.2.2.1 146) t || decide (t / 64 < (w + 1) ∧ a ≤ t ∧ t ≤ b)) from by rw [d3]; exact (fun t => by rw [upL_at]; exact bts_step hB hr t))⟩ (by show b / 64 + 1 - (w + 1) < b / 64 + 1 - w; omega))
end Runs
