/-! GRAPH: what a row meets by name; the lowest row that a row leads to; a row is left -/
section MeetsG
variable {H : mu_H} {U V : Ud} {m d bf bt ga gi gq k : Nat} {C : Nat → Nat}
theorem gr_meetsG (h : um m H) (e : ud m H = U) (hz : BZ U bf bt) (hgl : LSN U ga gi gq 256) : mu_TI (mu_D (d + 1)) 335 [.inr (.inr (some 147)), .inr (.inr (some gq))] H (fun x H1 => H1 = H ∧ ((x = 0 ∧ ¬ ∃ t, t < 16384 ∧ bts (U.2.2.2.2.1 146) t = true ∧ bts (lgf U ga gi) t = true) ∨ (x = 1 ∧ ∃ t, t < 16384 ∧ bts (U.2.2.2.2.1 146) t = true ∧ bts (lgf U ga gi) t = true))) := by
  obtain ⟨hz1, hz2, hz3, hz4⟩ := hz.1
  obtain ⟨kb1, kc1, kd1⟩ := LSN.read h e hgl
  refine mu_meth (M := mu_m335) rfl rfl ?_
  refine mw_ht (mu_fn_of (show [0, 1].Nodup by decide)) ?_
  refine mw_go mu_g335 (k := 2) (f1 := (4, [(0, .inr (.inr (some 147))), (1, .inr (.inr (some gq)))], [.inr (.inr (mu_r H 147 1))], H)) (C := [mu_is H (some 147) 2]) rfl (show mu_is H (some 147) 2 from (h.1.1.is rfl)) ?_
  rw [(h.1.1.r (p := 147) (j := 1) (q := 129) rfl)]
  refine mw_go mu_g335 (k := 1) (f1 := (7, [(0, .inr (.inr (some 147))), (1, .inr (.inr (some gq)))], [.inl (mu_i H 129 19)], H)) (C := [mu_is H (some 129) 9]) rfl (show mu_is H (some 129) 9 from (h.1.1.is rfl)) ?_
  rw [(show mu_i H 129 19 = (nI bf) from (ud_i (U := U) (m := m) (P := 129) (j := 19) e rfl).trans hz1)]
  refine mw_go mu_g335 (k := 1) (f1 := (8, [(2, .inl (nI bf)), (0, .inr (.inr (some 147))), (1, .inr (.inr (some gq)))], [], H)) (C := []) rfl trivial ?_
  refine mw_sub (L' := [(2, .inl (nI bf)), (0, .inr (.inr (some 147))), (1, .inr (.inr (some gq)))]) (by simp) ?_
  refine mw_down (α := Nat) (fun zs => (8, [(2, .inl (nI zs)), (0, .inr (.inr (some 147))), (1, .inr (.inr (some gq)))], [], H)) (fun zs => bt - zs) (fun zs => (bf ≤ zs ∧ zs ≤ bt) ∧ (∀ i, bf ≤ i → i < zs → U.2.2.2.2.1 146 i &&& lgf U ga gi i = 0)) (fun zs hza iha => ?_) bf ⟨(show bf ≤ bf ∧ bf ≤ bt from (by omega)), (show ∀ i, bf ≤ i → i < bf → U.2.2.2.2.1 146 i &&& lgf U ga gi i = 0 from (fun i i1 i2 => absurd i2 (by omega)))⟩
  obtain ⟨w, rfl⟩ : ∃ y, y = zs := ⟨zs, rfl⟩
  obtain ⟨hw, hno⟩ := hza
  have hw : bf ≤ w ∧ w ≤ bt := hw
  have hno : ∀ i, bf ≤ i → i < w → U.2.2.2.2.1 146 i &&& lgf U ga gi i = 0 := hno
  show mu_W _ _ (8, [(2, .inl (nI w)), (0, .inr (.inr (some 147))), (1, .inr (.inr (some gq)))], [], H) _
  refine mw_go mu_g335 (k := 3) (f1 := (13, [(2, .inl (nI w)), (0, .inr (.inr (some 147))), (1, .inr (.inr (some gq)))], [.inr (.inr (mu_r H 147 1)), .inl (nI w)], H)) (C := [mu_is H (some 147) 2]) rfl (show mu_is H (some 147) 2 from (h.1.1.is rfl)) ?_
  rw [(h.1.1.r (p := 147) (j := 1) (q := 129) rfl)]
  refine mw_go mu_g335 (k := 1) (f1 := (16, [(2, .inl (nI w)), (0, .inr (.inr (some 147))), (1, .inr (.inr (some gq)))], [.inl (mu_i H 129 20), .inl (nI w)], H)) (C := [mu_is H (some 129) 9]) rfl (show mu_is H (some 129) 9 from (h.1.1.is rfl)) ?_
  rw [(show mu_i H 129 20 = (nI bt) from (ud_i (U := U) (m := m) (P := 129) (j := 20) e rfl).trans hz2)]
  refine mw_if (P := (nI w) < (nI bt)) (a := 19) (b := 45) (fun _ => rfl) trivial (fun h1 => ?_) (fun h1 => ?_)
  · -- 19: (nI w) < (nI bt)
    have nh1 : w < bt := (nI_ltI (by omega) (by omega)).mp (show nI w < nI bt from h1)
    refine mw_go mu_g335 (k := 2) (f1 := (23, [(2, .inl (nI w)), (0, .inr (.inr (some 147))), (1, .inr (.inr (some gq)))], [.inr (.inr (mu_r H 147 1))], H)) (C := [mu_is H (some 147) 2]) rfl (show mu_is H (some 147) 2 from (h.1.1.is rfl)) ?_
    rw [(h.1.1.r (p := 147) (j := 1) (q := 129) rfl)]
    refine mw_go mu_g335 (k := 1) (f1 := (26, [(2, .inl (nI w)), (0, .inr (.inr (some 147))), (1, .inr (.inr (some gq)))], [.inr (.inr (mu_r H 129 18))], H)) (C := [mu_is H (some 129) 9]) rfl (show mu_is H (some 129) 9 from (h.1.1.is rfl)) ?_
    rw [(h.1.1.r (p := 129) (j := 18) (q := 146) rfl)]
    refine mw_go mu_g335 (k := 2) (f1 := (28, [(2, .inl (nI w)), (0, .inr (.inr (some 147))), (1, .inr (.inr (some gq)))], [.inr (.inl (mu_l H 146 (nI w).toNatClampNeg))], H)) (C := [mu_isr H (some 146) 102, vp_in (nI w) (mu_n H 146)]) rfl (show (mu_isr H (some 146) 102) ∧ (vp_in (nI w) (mu_n H 146)) from ⟨((h.1.1.a (p := 146) (x := (102, 256)) rfl).1).r, (by rw [show mu_n H 146 = 256 from (h.1.1.a (p := 146) (x := (102, 256)) rfl).2]; exact vp_in_nI (n := w) (by omega) (by decide))⟩) ?_
    rw [(show (mu_l H 146 (nI w).toNatClampNeg) = (U.2.2.2.2.1 146) w from (congrArg (mu_l H 146) (show (nI w).toNatClampNeg = w from nI_clamp (by omega))).trans ((ud_l (m := m) (p := 146) (i := w) e rfl).trans (congrFun (show U.2.2.2.2.1 146 = (U.2.2.2.2.1 146) from rfl) w)))]
    refine mw_go mu_g335 (k := 3) (f1 := (31, [(2, .inl (nI w)), (0, .inr (.inr (some 147))), (1, .inr (.inr (some gq)))], [.inr (.inl (mu_l H gq (nI w).toNatClampNeg)), .inr (.inl ((U.2.2.2.2.1 146) w))], H)) (C := [mu_isr H (some gq) 102, vp_in (nI w) (mu_n H gq)]) rfl (show (mu_isr H (some gq) 102) ∧ (vp_in (nI w) (mu_n H gq)) from ⟨kb1.r, (by rw [kc1]; exact vp_in_nI (n := w) (by omega) (by decide))⟩) ?_
    rw [(show (mu_l H gq (nI w).toNatClampNeg) = ((lgf U ga gi) w) from (congrArg (mu_l H gq) (show (nI w).toNatClampNeg = w from nI_clamp (by omega))).trans (kd1 w))]
    refine mw_go mu_g335 (k := 3) (f1 := (34, [(2, .inl (nI w)), (0, .inr (.inr (some 147))), (1, .inr (.inr (some gq)))], [.inl (lg_cmp (((U.2.2.2.2.1 146) w) &&& ((lgf U ga gi) w)) (0 : Int64))], H)) (C := []) rfl trivial ?_
    refine mw_if (P := (lg_cmp (((U.2.2.2.2.1 146) w) &&& ((lgf U ga gi) w)) (0 : Int64)) = 0) (a := 39) (b := 37) (fun _ => rfl) trivial (fun h2 => ?_) (fun h2 => ?_)
    · -- 39: (lg_cmp (((U.2.2.2.2.1 146) w) &&& ((lgf U ga gi) w)) (0 : Int64)) = 0
      refine mw_go mu_g335 (k := 1) (f1 := (42, [(2, .inl ((nI w) + 1)), (0, .inr (.inr (some 147))), (1, .inr (.inr (some gq)))], [], H)) (C := []) rfl trivial ?_
      rw [(show ((nI w) + 1) = (nI (w + 1)) from (nI_add w 1))]
      refine mw_go mu_g335 (k := 1) (f1 := (8, [(2, .inl (nI (w + 1))), (0, .inr (.inr (some 147))), (1, .inr (.inr (some gq)))], [], H)) (C := []) rfl trivial ?_
      exact mw_sub (by simp) (iha (w + 1) ⟨(show bf ≤ (w + 1) ∧ (w + 1) ≤ bt from (by omega)), (show ∀ i, bf ≤ i → i < (w + 1) → U.2.2.2.2.1 146 i &&& lgf U ga gi i = 0 from (fun i i1 i2 => by by_cases y : i = w; (rw [y]; exact lg_ne.mp h2); (exact hno i i1 (by omega))))⟩ (by show bt - (w + 1) < bt - w; omega))
    · -- 37: not (lg_cmp (((U.2.2.2.2.1 146) w) &&& ((lgf U ga gi) w)) (0 : Int64)) = 0
      refine mw_go mu_g335 (k := 1) (f1 := (38, [(2, .inl (nI w)), (0, .inr (.inr (some 147))), (1, .inr (.inr (some gq)))], [.inl (1 : Int32)], H)) (C := []) rfl trivial ?_
      exact mw_of (fun _ => mu_ret rfl (Or.inr rfl) ⟨_, H, rfl, rfl, Or.inr ⟨rfl, meet_yes (w := w) (fun y => h2 (lg_ne.mpr y)) (by omega)⟩⟩)
  · -- 45: not (nI w) < (nI bt)
    have nh1 : ¬ w < bt := fun z => h1 (show nI w < nI bt from (nI_ltI (by omega) (by omega)).mpr z)
    refine mw_go mu_g335 (k := 1) (f1 := (46, [(2, .inl (nI w)), (0, .inr (.inr (some 147))), (1, .inr (.inr (some gq)))], [.inl (0 : Int32)], H)) (C := []) rfl trivial ?_
    exact mw_of (fun _ => mu_ret rfl (Or.inl rfl) ⟨_, H, rfl, rfl, Or.inl ⟨rfl, meet_no hz.2 (fun i i1 i2 => hno i i1 (by omega))⟩⟩)
theorem pv_hasG (h : um m H) (e : ud m H = U) (hgl : LSN U ga gi gq 256) (hk : k < 16384) : mu_TI (mu_D (d + 1)) 377 [.inr (.inr (some gq)), .inl (nI k)] H (fun x H1 => x = (if bts (lgf U ga gi) k = true then 1 else 0) ∧ H1 = H) := by
  obtain ⟨kb1, kc1, kd1⟩ := LSN.read h e hgl
  refine mu_meth (M := mu_m377) rfl rfl ?_
  refine mw_ht (mu_fn_of (show [0, 1].Nodup by decide)) ?_
  refine mw_go mu_g377 (k := 4) (f1 := (5, [(0, .inr (.inr (some gq))), (1, .inl (nI k))], [.inl ((nI k) >>> ((6 : Int32) &&& 31)), .inr (.inr (some gq))], H)) (C := []) rfl trivial ?_
  rw [(show ((nI k) >>> ((6 : Int32) &&& 31)) = (nI (k / 64)) from (nI_shr6 (a := k) (by omega)))]
  refine mw_go mu_g377 (k := 1) (f1 := (6, [(0, .inr (.inr (some gq))), (1, .inl (nI k))], [.inr (.inl (mu_l H gq (nI (k / 64)).toNatClampNeg))], H)) (C := [mu_isr H (some gq) 102, vp_in (nI (k / 64)) (mu_n H gq)]) rfl (show (mu_isr H (some gq) 102) ∧ (vp_in (nI (k / 64)) (mu_n H gq)) from ⟨kb1.r, (by rw [kc1]; exact vp_in_nI (n := k / 64) (by omega) (by decide))⟩) ?_
  rw [(show (mu_l H gq (nI (k / 64)).toNatClampNeg) = ((lgf U ga gi) (k / 64)) from (congrArg (mu_l H gq) (show (nI (k / 64)).toNatClampNeg = k / 64 from nI_clamp (by omega))).trans (kd1 (k / 64)))]
  refine mw_go mu_g377 (k := 6) (f1 := (12, [(0, .inr (.inr (some gq))), (1, .inl (nI k))], [.inl (lg_cmp (((((lgf U ga gi) (k / 64)).toUInt64 >>> ((nI k).toInt64.toUInt64 &&& Int64.toUInt64 63)).toInt64) &&& (1 : Int64)) (0 : Int64))], H)) (C := []) rfl trivial ?_
  refine mw_if (P := (lg_cmp (((((lgf U ga gi) (k / 64)).toUInt64 >>> ((nI k).toInt64.toUInt64 &&& Int64.toUInt64 63)).toInt64) &&& (1 : Int64)) (0 : Int64)) = 0) (a := 19) (b := 15) (fun _ => rfl) trivial (fun h1 => ?_) (fun h1 => ?_)
  · -- 19: (lg_cmp (((((lgf U ga gi) (k / 64)).toUInt64 >>> ((nI k).toInt64.toUInt64 &&& Int64.toUInt64 63)).toInt64) &&& (1 : Int64)) (0 : Int64)) = 0
    refine mw_go mu_g377 (k := 1) (f1 := (20, [(0, .inr (.inr (some gq))), (1, .inl (nI k))], [.inl (0 : Int32)], H)) (C := []) rfl trivial ?_
    exact mw_of (fun _ => mu_ret rfl (Or.inl rfl) ⟨_, _, rfl, (by have z := lg_ne.mp h1; rw [btz_ask (by omega)] at z; by_cases hb : btz (lgf U ga gi (k / 64)) (k % 64) = true; rw [if_pos hb] at z; exact absurd z (by decide); unfold bts; rw [if_neg hb]), rfl⟩)
  · -- 15: not (lg_cmp (((((lgf U ga gi) (k / 64)).toUInt64 >>> ((nI k).toInt64.toUInt64 &&& Int64.toUInt64 63)).toInt64) &&& (1 : Int64)) (0 : Int64)) = 0
    refine mw_go mu_g377 (k := 2) (f1 := (20, [(0, .inr (.inr (some gq))), (1, .inl (nI k))], [.inl (1 : Int32)], H)) (C := []) rfl trivial ?_
    exact mw_of (fun _ => mu_ret rfl (Or.inr rfl) ⟨_, _, rfl, (by have z := fun y => h1 (lg_ne.mpr y); rw [btz_ask (by omega)] at z; by_cases hb : btz (lgf U ga gi (k / 64)) (k % 64) = true; unfold bts; rw [if_pos hb]; rw [if_neg hb] at z; exact absurd rfl z), rfl⟩)
end MeetsG
/-- what the row that is laid out leads to on the pile -/
def BPL (U : Ud) (T s : Nat) : Bool := decide (s < T) && (bts (U.2.2.2.2.1 146) s && bts (U.2.2.2.2.1 151) s)
def LAT (U : Ud) (T : Nat) (ix rx : Nat → Nat) (lo en : Nat) : Prop := lo = en ∨ ∃ x, BPL U T x = true ∧ ix (rx x) = lo
section Lowest
variable {H : mu_H} {U V : Ud} {m d T R wn bf bt en r0 bo lo w t : Nat} {C : Nat → Nat} {rx mb me ix : Nat → Nat} {lf : Int64}
theorem bpl_q (hT : ∀ s, s < 16384 → bts (U.2.2.2.2.1 146) s = true → s < T) (hwt : w < 256) (q : Nat) (hq : q < 64) : btz (U.2.2.2.2.1 146 w &&& U.2.2.2.2.1 151 w) q = BPL U T (64 * w + q) := by
  have e1 : bts (U.2.2.2.2.1 146) (64 * w + q) = btz (U.2.2.2.2.1 146 w) q := by
    unfold bts
    rw [show (64 * w + q) / 64 = w by omega, show (64 * w + q) % 64 = q by omega]
  have e2 : bts (U.2.2.2.2.1 151) (64 * w + q) = btz (U.2.2.2.2.1 151 w) q := by
    unfold bts
    rw [show (64 * w + q) / 64 = w by omega, show (64 * w + q) % 64 = q by omega]
  unfold BPL
  rw [btz_and, ← e1, ← e2]
  cases hb : bts (U.2.2.2.2.1 146) (64 * w + q)
  · rw [Bool.false_and, Bool.and_false]
  · rw [decide_eq_true (hT _ (by omega) hb), Bool.true_and, Bool.true_and]
theorem bpl_is {s : Nat} : BPL U T s = true ↔ s < T ∧ bts (U.2.2.2.2.1 146) s = true ∧ bts (U.2.2.2.2.1 151) s = true := by
  unfold BPL
  rw [Bool.and_eq_true, decide_eq_true_iff, Bool.and_eq_true]
theorem LAT.min {s : Nat} (h : LAT U T ix rx lo en) (hb : BPL U T s = true) : LAT U T ix rx (min lo (ix (rx s))) en := by
  by_cases hm : lo ≤ ix (rx s)
  · rw [Nat.min_eq_left hm]; exact h
  · rw [Nat.min_eq_right (by omega)]; exact Or.inr ⟨s, hb, rfl⟩
theorem bpl_no (hz : BZ U bf bt) {s : Nat} (hs : s < 16384) (h : ¬ (bf ≤ s / 64 ∧ s / 64 < bt)) : ¬ BPL U T s = true := fun y => by
  have y2 := (bpl_is.mp y).2.1
  unfold bts at y2
  rw [hz.2 (s / 64) (by omega) h, btz_0] at y2
  cases y2
/-- PathProver$Graph.lowest()I -/
abbrev mu_m336 : ev_M := (8, (some .int), [], ev_b336)
theorem mu_g336 : mu_good mu_m336 := mu_goodk ev_k336
theorem gr_lowest (h : um m H) (e : ud m H = U) (hG : GRB U T R wn rx mb me) (hz : BZ U bf bt) (hen : U.2.1 147 22 = nI en) (henb : en < 2147483648) (h0 : (U.2.2.1 147 10).2 (0 * 7 + 6) = nI r0) (hr0 : r0 < R) (hbo : (U.2.2.1 147 10).2 (r0 * 7 + 1) = nI bo) (hbe : bo ≤ en) (hpi : ∀ t, t < T → bts (U.2.2.2.2.1 151) t = true → (U.2.2.1 147 10).2 (rx t * 7 + 1) = nI (ix (rx t)) ∧ bo ≤ ix (rx t) ∧ ix (rx t) ≤ en) (hT146 : ∀ s, s < 16384 → bts (U.2.2.2.2.1 146) s = true → s < T) : mu_TI (mu_D (d + 3)) 336 [.inr (.inr (some 147))] H (fun x H1 => H1 = H ∧ ∃ lo, x = nI lo ∧ lo ≤ en ∧ bo ≤ lo ∧ (∀ t, t < T → bts (U.2.2.2.2.1 146) t = true → bts (U.2.2.2.2.1 151) t = true → lo ≤ ix (rx t)) ∧ (lo = en ∨ ∃ t, t < T ∧ bts (U.2.2.2.2.1 146) t = true ∧ bts (U.2.2.2.2.1 151) t = true ∧ ix (rx t) = lo)) := by
  obtain ⟨⟨hz19, hz20, hzft, hz256⟩, hz0⟩ := id hz
  obtain ⟨⟨⟨hg12, hg11⟩, hgwn, hTb⟩, ⟨⟨g6a, g6b⟩, hrx⟩, ⟨hRT, hn10a, hn10⟩, hgrest⟩ := hG
  refine mu_meth (M := mu_m336) rfl rfl ?_
  refine mw_ht (mu_fn_of (show [0].Nodup by decide)) ?_
  refine mw_go mu_g336 (k := 4) (f1 := (5, [(0, .inr (.inr (some 147)))], [.inl (6 : Int32), .inl (0 : Int32), .inr (.inr (some 147)), .inr (.inr (some 147))], H)) (C := []) rfl trivial ?_
  refine mw_cIe (fun _ => rfl) (show mu_is H (some 147) 2 from (h.1.1.is rfl)) (gr_node (d := (d + 1)) (r := 0) (c := 6) h e (by omega) hn10) ?_
  rw [show (U.2.2.1 147 10).2 (0 * 7 + 6) = nI r0 from h0]
  refine mw_go mu_g336 (k := 1) (f1 := (9, [(0, .inr (.inr (some 147)))], [.inl (1 : Int32), .inl (nI r0), .inr (.inr (some 147))], H)) (C := []) rfl trivial ?_
  refine mw_cIe (fun _ => rfl) (show mu_is H (some 147) 2 from (h.1.1.is rfl)) (gr_node (d := (d + 1)) (r := r0) (c := 1) h e (by omega) hn10) ?_
  rw [show (U.2.2.1 147 10).2 (r0 * 7 + 1) = nI bo from hbo]
  refine mw_go mu_g336 (k := 3) (f1 := (17, [(1, .inl (nI bo)), (0, .inr (.inr (some 147)))], [.inl (mu_i H 147 22)], H)) (C := [mu_is H (some 147) 2]) rfl (show mu_is H (some 147) 2 from (h.1.1.is rfl)) ?_
  rw [(show mu_i H 147 22 = (nI en) from (ud_i (U := U) (m := m) (P := 147) (j := 22) e rfl).trans hen)]
  refine mw_go mu_g336 (k := 3) (f1 := (22, [(2, .inl (nI en)), (1, .inl (nI bo)), (0, .inr (.inr (some 147)))], [.inr (.inr (mu_r H 147 1))], H)) (C := [mu_is H (some 147) 2]) rfl (show mu_is H (some 147) 2 from (h.1.1.is rfl)) ?_
  rw [(h.1.1.r (p := 147) (j := 1) (q := 129) rfl)]
  refine mw_go mu_g336 (k := 1) (f1 := (25, [(2, .inl (nI en)), (1, .inl (nI bo)), (0, .inr (.inr (some 147)))], [.inl (mu_i H 129 19)], H)) (C := [mu_is H (some 129) 9]) rfl (show mu_is H (some 129) 9 from (h.1.1.is rfl)) ?_
  rw [(show mu_i H 129 19 = (nI bf) from (ud_i (U := U) (m := m) (P := 129) (j := 19) e rfl).trans hz19)]
  refine mw_go mu_g336 (k := 1) (f1 := (26, [(3, .inl (nI bf)), (2, .inl (nI en)), (1, .inl (nI bo)), (0, .inr (.inr (some 147)))], [], H)) (C := []) rfl trivial ?_
  refine mw_sub (L' := [(2, .inl (nI en)), (3, .inl (nI bf)), (0, .inr (.inr (some 147))), (1, .inl (nI bo))]) (by simp) ?_
  refine mw_down (α := Nat × Nat) (fun zs => (26, [(2, .inl (nI zs.1)), (3, .inl (nI zs.2)), (0, .inr (.inr (some 147))), (1, .inl (nI bo))], [], H)) (fun zs => bt - zs.2) (fun zs => (bf ≤ zs.2 ∧ zs.2 ≤ bt) ∧ (bo ≤ zs.1 ∧ zs.1 ≤ en) ∧ (∀ x, x < 64 * zs.2 → BPL U T x = true → zs.1 ≤ ix (rx x)) ∧ (LAT U T ix rx zs.1 en)) (fun zs hza iha => ?_) (en, bf) ⟨(show bf ≤ bf ∧ bf ≤ bt from (by omega)), (show bo ≤ en ∧ en ≤ en from ⟨hbe, Nat.le_refl _⟩), (show ∀ x, x < 64 * bf → BPL U T x = true → en ≤ ix (rx x) from (fun x hx y => absurd y (bpl_no hz (by have := (bpl_is.mp y).1; omega) (by omega)))), (show LAT U T ix rx en en from (show LAT U T ix rx en en from Or.inl rfl))⟩
  obtain ⟨lo, w⟩ := zs
  obtain ⟨hw, hlo, hmin, hat⟩ := hza
  have hw : bf ≤ w ∧ w ≤ bt := hw
  have hlo : bo ≤ lo ∧ lo ≤ en := hlo
  have hmin : ∀ x, x < 64 * w → BPL U T x = true → lo ≤ ix (rx x) := hmin
  have hat : LAT U T ix rx lo en := hat
  show mu_W _ _ (26, [(2, .inl (nI lo)), (3, .inl (nI w)), (0, .inr (.inr (some 147))), (1, .inl (nI bo))], [], H) _
  refine mw_go mu_g336 (k := 3) (f1 := (31, [(2, .inl (nI lo)), (3, .inl (nI w)), (0, .inr (.inr (some 147))), (1, .inl (nI bo))], [.inr (.inr (mu_r H 147 1)), .inl (nI w)], H)) (C := [mu_is H (some 147) 2]) rfl (show mu_is H (some 147) 2 from (h.1.1.is rfl)) ?_
  rw [(h.1.1.r (p := 147) (j := 1) (q := 129) rfl)]
  refine mw_go mu_g336 (k := 1) (f1 := (34, [(2, .inl (nI lo)), (3, .inl (nI w)), (0, .inr (.inr (some 147))), (1, .inl (nI bo))], [.inl (mu_i H 129 20), .inl (nI w)], H)) (C := [mu_is H (some 129) 9]) rfl (show mu_is H (some 129) 9 from (h.1.1.is rfl)) ?_
  rw [(show mu_i H 129 20 = (nI bt) from (ud_i (U := U) (m := m) (P := 129) (j := 20) e rfl).trans hz20)]
  refine mw_if (P := (nI w) < (nI bt)) (a := 37) (b := 141) (fun _ => rfl) trivial (fun h3 => ?_) (fun h3 => ?_)
  · -- 37: (nI w) < (nI bt)
    have nh3 : w < bt := (nI_ltI (by omega) (by omega)).mp (show nI w < nI bt from h3)
    refine mw_go mu_g336 (k := 2) (f1 := (39, [(2, .inl (nI lo)), (3, .inl (nI w)), (0, .inr (.inr (some 147))), (1, .inl (nI bo))], [.inl (nI bo), .inl (nI lo)], H)) (C := []) rfl trivial ?_
    refine mw_if (P := (nI bo) < (nI lo)) (a := 42) (b := 141) (fun _ => rfl) trivial (fun h4 => ?_) (fun h4 => ?_)
    · -- 42: (nI bo) < (nI lo)
      have nh4 : bo < lo := (nI_ltI (by omega) (by omega)).mp (show nI bo < nI lo from h4)
      refine mw_go mu_g336 (k := 2) (f1 := (46, [(2, .inl (nI lo)), (3, .inl (nI w)), (0, .inr (.inr (some 147))), (1, .inl (nI bo))], [.inr (.inr (mu_r H 147 1))], H)) (C := [mu_is H (some 147) 2]) rfl (show mu_is H (some 147) 2 from (h.1.1.is rfl)) ?_
      rw [(h.1.1.r (p := 147) (j := 1) (q := 129) rfl)]
      refine mw_go mu_g336 (k := 1) (f1 := (49, [(2, .inl (nI lo)), (3, .inl (nI w)), (0, .inr (.inr (some 147))), (1, .inl (nI bo))], [.inr (.inr (mu_r H 129 18))], H)) (C := [mu_is H (some 129) 9]) rfl (show mu_is H (some 129) 9 from (h.1.1.is rfl)) ?_
      rw [(h.1.1.r (p := 129) (j := 18) (q := 146) rfl)]
      refine mw_go mu_g336 (k := 2) (f1 := (51, [(2, .inl (nI lo)), (3, .inl (nI w)), (0, .inr (.inr (some 147))), (1, .inl (nI bo))], [.inr (.inl (mu_l H 146 (nI w).toNatClampNeg))], H)) (C := [mu_isr H (some 146) 102, vp_in (nI w) (mu_n H 146)]) rfl (show (mu_isr H (some 146) 102) ∧ (vp_in (nI w) (mu_n H 146)) from ⟨((h.1.1.a (p := 146) (x := (102, 256)) rfl).1).r, (by rw [show mu_n H 146 = 256 from (h.1.1.a (p := 146) (x := (102, 256)) rfl).2]; exact vp_in_nI (n := w) (by omega) (by decide))⟩) ?_
      rw [(show (mu_l H 146 (nI w).toNatClampNeg) = (U.2.2.2.2.1 146) w from (congrArg (mu_l H 146) (show (nI w).toNatClampNeg = w from nI_clamp (by omega))).trans ((ud_l (m := m) (p := 146) (i := w) e rfl).trans (congrFun (show U.2.2.2.2.1 146 = (U.2.2.2.2.1 146) from rfl) w)))]
      refine mw_go mu_g336 (k := 2) (f1 := (55, [(2, .inl (nI lo)), (3, .inl (nI w)), (0, .inr (.inr (some 147))), (1, .inl (nI bo))], [.inr (.inr (mu_r H 147 5)), .inr (.inl ((U.2.2.2.2.1 146) w))], H)) (C := [mu_is H (some 147) 2]) rfl (show mu_is H (some 147) 2 from (h.1.1.is rfl)) ?_
      rw [(h.1.1.r (p := 147) (j := 5) (q := 151) rfl)]
      refine mw_go mu_g336 (k := 2) (f1 := (57, [(2, .inl (nI lo)), (3, .inl (nI w)), (0, .inr (.inr (some 147))), (1, .inl (nI bo))], [.inr (.inl (mu_l H 151 (nI w).toNatClampNeg)), .inr (.inl ((U.2.2.2.2.1 146) w))], H)) (C := [mu_isr H (some 151) 102, vp_in (nI w) (mu_n H 151)]) rfl (show (mu_isr H (some 151) 102) ∧ (vp_in (nI w) (mu_n H 151)) from ⟨((h.1.1.a (p := 151) (x := (102, 256)) rfl).1).r, (by rw [show mu_n H 151 = 256 from (h.1.1.a (p := 151) (x := (102, 256)) rfl).2]; exact vp_in_nI (n := w) (by omega) (by decide))⟩) ?_
      rw [(show (mu_l H 151 (nI w).toNatClampNeg) = (U.2.2.2.2.1 151) w from (congrArg (mu_l H 151) (show (nI w).toNatClampNeg = w from nI_clamp (by omega))).trans ((ud_l (m := m) (p := 151) (i := w) e rfl).trans (congrFun (show U.2.2.2.2.1 151 = (U.2.2.2.2.1 151) from rfl) w)))]
      refine mw_go mu_g336 (k := 1) (f1 := (58, [(2, .inl (nI lo)), (3, .inl (nI w)), (0, .inr (.inr (some 147))), (1, .inl (nI bo))], [.inr (.inl (((U.2.2.2.2.1 146) w) &&& ((U.2.2.2.2.1 151) w)))], H)) (C := []) rfl trivial ?_
      obtain ⟨lf0, hlf0⟩ : ∃ y, y = (((U.2.2.2.2.1 146) w) &&& ((U.2.2.2.2.1 151) w)) := ⟨_, rfl⟩
      rw [← hlf0]
      have hlq : ∀ q, q < 64 → btz lf0 q = BPL U T (64 * w + q) := fun q hq => by
        rw [hlf0]
        exact bpl_q hT146 (by omega) q hq
      refine mw_go mu_g336 (k := 4) (f1 := (64, [(4, .inr (.inl lf0)), (2, .inl (nI lo)), (3, .inl (nI w)), (0, .inr (.inr (some 147))), (1, .inl (nI bo))], [.inl (lg_cmp lf0 (0 : Int64))], H)) (C := []) rfl trivial ?_
      refine mw_if (P := (lg_cmp lf0 (0 : Int64)) = 0) (a := 67) (b := 71) (fun _ => rfl) trivial (fun h5 => ?_) (fun h5 => ?_)
      · -- 67: (lg_cmp lf0 (0 : Int64)) = 0
        refine mw_go mu_g336 (k := 2) (f1 := (76, [(4, .inr (.inl lf0)), (2, .inl (nI lo)), (3, .inl (nI w)), (0, .inr (.inr (some 147))), (1, .inl (nI bo))], [.inl (0 : Int32)], H)) (C := []) rfl trivial ?_
        have hc0 : (0 : Int32) = nI (cnz lf0 64) := by rw [show lf0 = 0 from lg_ne.mp h5, cnz_0 64 (fun i _ => btz_0)]; rfl
        refine mw_frU (congrArg (fun z => ((76, [(4, .inr (.inl lf0)), (2, .inl (nI lo)), (3, .inl (nI w)), (0, .inr (.inr (some 147))), (1, .inl (nI bo))], [.inl z], H) : mu_F)) hc0) ?_
        refine mw_go mu_g336 (k := 1) (f1 := (78, [(6, .inl (nI (cnz lf0 64))), (4, .inr (.inl lf0)), (2, .inl (nI lo)), (3, .inl (nI w)), (0, .inr (.inr (some 147))), (1, .inl (nI bo))], [], H)) (C := []) rfl trivial ?_
        refine mw_sub (L' := [(2, .inl (nI lo)), (4, .inr (.inl lf0)), (6, .inl (nI (cnz lf0 64))), (0, .inr (.inr (some 147))), (1, .inl (nI bo)), (3, .inl (nI w))]) (by simp) ?_
        refine mw_down (α := Nat × Int64) (fun zs => (78, [(2, .inl (nI zs.1)), (4, .inr (.inl zs.2)), (6, .inl (nI (cnz zs.2 64))), (0, .inr (.inr (some 147))), (1, .inl (nI bo)), (3, .inl (nI w))], [], H)) (fun zs => cnz zs.2 64) (fun zs => (bo ≤ zs.1 ∧ zs.1 ≤ en) ∧ (∀ x, x < 64 * w ∨ (x / 64 = w ∧ btz zs.2 (x % 64) = false) → BPL U T x = true → zs.1 ≤ ix (rx x)) ∧ (LAT U T ix rx zs.1 en) ∧ (∀ q, q < 64 → btz zs.2 q = true → BPL U T (64 * w + q) = true)) (fun zs hzb ihb => ?_) (lo, lf0) ⟨(show bo ≤ lo ∧ lo ≤ en from hlo), (show ∀ x, x < 64 * w ∨ (x / 64 = w ∧ btz lf0 (x % 64) = false) → BPL U T x = true → lo ≤ ix (rx x) from (fun x hx y => by rcases hx with hx | ⟨hx1, hx2⟩; (exact hmin x hx y); (rw [hlq (x % 64) (by omega), show 64 * w + x % 64 = x by omega, y] at hx2; cases hx2))), (show LAT U T ix rx lo en from hat), (show ∀ q, q < 64 → btz lf0 q = true → BPL U T (64 * w + q) = true from (fun q hq y => by rw [← hlq q hq]; exact y))⟩
        obtain ⟨lv, lf⟩ := zs
        obtain ⟨hlv, hmiv, hav, hlf⟩ := hzb
        have hlv : bo ≤ lv ∧ lv ≤ en := hlv
        have hmiv : ∀ x, x < 64 * w ∨ (x / 64 = w ∧ btz lf (x % 64) = false) → BPL U T x = true → lv ≤ ix (rx x) := hmiv
        have hav : LAT U T ix rx lv en := hav
        have hlf : ∀ q, q < 64 → btz lf q = true → BPL U T (64 * w + q) = true := hlf
        show mu_W _ _ (78, [(2, .inl (nI lv)), (4, .inr (.inl lf)), (6, .inl (nI (cnz lf 64))), (0, .inr (.inr (some 147))), (1, .inl (nI bo)), (3, .inl (nI w))], [], H) _
        have hcb := cnz_b (lf := lf) 64
        refine mw_go mu_g336 (k := 1) (f1 := (80, [(2, .inl (nI lv)), (4, .inr (.inl lf)), (6, .inl (nI (cnz lf 64))), (0, .inr (.inr (some 147))), (1, .inl (nI bo)), (3, .inl (nI w))], [.inl (nI (cnz lf 64))], H)) (C := []) rfl trivial ?_
        refine mw_if (P := 0 < (nI (cnz lf 64))) (a := 83) (b := 135) (fun _ => rfl) trivial (fun h6 => ?_) (fun h6 => ?_)
        · -- 83: 0 < (nI (cnz lf 64))
          have nh6 : 0 < (cnz lf 64) := (nI_ltI (by omega) (by omega)).mp (show nI 0 < nI (cnz lf 64) from h6)
          refine mw_go mu_g336 (k := 2) (f1 := (85, [(2, .inl (nI lv)), (4, .inr (.inl lf)), (6, .inl (nI (cnz lf 64))), (0, .inr (.inr (some 147))), (1, .inl (nI bo)), (3, .inl (nI w))], [.inl (nI bo), .inl (nI lv)], H)) (C := []) rfl trivial ?_
          refine mw_if (P := (nI bo) < (nI lv)) (a := 88) (b := 135) (fun _ => rfl) trivial (fun h7 => ?_) (fun h7 => ?_)
          · -- 88: (nI bo) < (nI lv)
            have nh7 : bo < lv := (nI_ltI (by omega) (by omega)).mp (show nI bo < nI lv from h7)
            refine mw_go mu_g336 (k := 3) (f1 := (92, [(2, .inl (nI lv)), (4, .inr (.inl lf)), (6, .inl (nI (cnz lf 64))), (0, .inr (.inr (some 147))), (1, .inl (nI bo)), (3, .inl (nI w))], [.inl ((nI w) * (64 : Int32))], H)) (C := []) rfl trivial ?_
            rw [(show ((nI w) * (64 : Int32)) = (nI (w * 64)) from (nI_mul (a := w) (b := 64)))]
            refine mw_go mu_g336 (k := 1) (f1 := (94, [(2, .inl (nI lv)), (4, .inr (.inl lf)), (6, .inl (nI (cnz lf 64))), (0, .inr (.inr (some 147))), (1, .inl (nI bo)), (3, .inl (nI w))], [.inr (.inl lf), .inl (nI (w * 64))], H)) (C := []) rfl trivial ?_
            obtain ⟨t, ht1, ht2, ht3⟩ := cnz_low (lf := lf) (by omega)
            have hbt := hlf t ht1 ht2
            obtain ⟨ht4, ht5, ht6⟩ := bpl_is.mp hbt
            obtain ⟨hi1, hi2, hi3⟩ := hpi (64 * w + t) ht4 ht6
            obtain ⟨hrt1, hrt2⟩ := hrx (64 * w + t) ht4
            refine mw_cIe (fun _ => rfl) trivial (jl_tz_ok (d := d) lf) ?_
            rw [show jl_tz lf = nI t from tz64 ht1 ht2 ht3]
            refine mw_go mu_g336 (k := 1) (f1 := (98, [(2, .inl (nI lv)), (4, .inr (.inl lf)), (6, .inl (nI (cnz lf 64))), (0, .inr (.inr (some 147))), (1, .inl (nI bo)), (3, .inl (nI w))], [.inl ((nI (w * 64)) + (nI t))], H)) (C := []) rfl trivial ?_
            rw [(show ((nI (w * 64)) + (nI t)) = (nI ((w * 64) + t)) from (nI_add (w * 64) t))]
            rw [show (nI ((w * 64) + t)) = nI (64 * w + t) from congrArg nI (by omega)]
            refine mw_go mu_g336 (k := 7) (f1 := (109, [(4, .inr (.inl (lf &&& (lf - (1 : Int64))))), (7, .inl (nI (64 * w + t))), (2, .inl (nI lv)), (6, .inl (nI (cnz lf 64))), (0, .inr (.inr (some 147))), (1, .inl (nI bo)), (3, .inl (nI w))], [], H)) (C := []) rfl trivial ?_
            obtain ⟨lf2, hlf2⟩ : ∃ y, y = (lf &&& (lf - (1 : Int64))) := ⟨_, rfl⟩
            rw [← hlf2]
            have hoff : ∀ i, btz lf2 i = (btz lf i && decide (i ≠ t)) := fun i => by rw [hlf2]; exact low_off ht2 ht3 i
            have hcl : cnz lf2 64 + 1 = cnz lf 64 := (cnz_less ht2 (by rw [hoff]; simp) (fun i hi => by rw [hoff]; simp [hi]) 64).2 ht1
            refine mw_go mu_g336 (k := 4) (f1 := (115, [(4, .inr (.inl lf2)), (7, .inl (nI (64 * w + t))), (2, .inl (nI lv)), (6, .inl (nI (cnz lf 64))), (0, .inr (.inr (some 147))), (1, .inl (nI bo)), (3, .inl (nI w))], [.inr (.inr (mu_r H 147 1)), .inr (.inr (some 147)), .inl (nI lv)], H)) (C := [mu_is H (some 147) 2]) rfl (show mu_is H (some 147) 2 from (h.1.1.is rfl)) ?_
            rw [(h.1.1.r (p := 147) (j := 1) (q := 129) rfl)]
            refine mw_go mu_g336 (k := 1) (f1 := (118, [(4, .inr (.inl lf2)), (7, .inl (nI (64 * w + t))), (2, .inl (nI lv)), (6, .inl (nI (cnz lf 64))), (0, .inr (.inr (some 147))), (1, .inl (nI bo)), (3, .inl (nI w))], [.inr (.inr (mu_r H 129 6)), .inr (.inr (some 147)), .inl (nI lv)], H)) (C := [mu_is H (some 129) 9]) rfl (show mu_is H (some 129) 9 from (h.1.1.is rfl)) ?_
            rw [(show mu_r H 129 6 = (U.2.2.2.1 129 6) from (ud_q (U := U) (m := m) (P := 129) (j := 6) e rfl))]
            refine mw_go mu_g336 (k := 2) (f1 := (121, [(4, .inr (.inl lf2)), (7, .inl (nI (64 * w + t))), (2, .inl (nI lv)), (6, .inl (nI (cnz lf 64))), (0, .inr (.inr (some 147))), (1, .inl (nI bo)), (3, .inl (nI w))], [.inl (mu_i H (mu_p (U.2.2.2.1 129 6)) (nI (64 * w + t)).toNatClampNeg), .inr (.inr (some 147)), .inl (nI lv)], H)) (C := [mu_isr H (U.2.2.2.1 129 6) 100, vp_in (nI (64 * w + t)) (mu_n H (mu_p (U.2.2.2.1 129 6)))]) rfl (show (mu_isr H (U.2.2.2.1 129 6) 100) ∧ (vp_in (nI (64 * w + t)) (mu_n H (mu_p (U.2.2.2.1 129 6)))) from ⟨((h.iA e rfl rfl (show U.2.2.2.1 129 6 = (U.2.2.2.1 129 6) from rfl))).r, (h.vA (i := 64 * w + t) e rfl rfl (show U.2.2.2.1 129 6 = (U.2.2.2.1 129 6) from rfl) (show (U.2.2.1 129 6).1 = (U.2.2.1 129 6).1 from rfl) (by omega) (by omega))⟩) ?_
            rw [(show (mu_i H (mu_p (U.2.2.2.1 129 6)) (nI (64 * w + t)).toNatClampNeg) = (nI (rx (64 * w + t))) from ((congrArg (mu_i H (mu_p (U.2.2.2.1 129 6))) (show (nI (64 * w + t)).toNatClampNeg = 64 * w + t from nI_clamp (by omega))).trans (h.gA e rfl rfl (show U.2.2.2.1 129 6 = (U.2.2.2.1 129 6) from rfl))).trans ((congrArg (fun z => z.2 (64 * w + t)) (show U.2.2.1 129 6 = (U.2.2.1 129 6) from rfl)).trans hrt1))]
            refine mw_go mu_g336 (k := 1) (f1 := (122, [(4, .inr (.inl lf2)), (7, .inl (nI (64 * w + t))), (2, .inl (nI lv)), (6, .inl (nI (cnz lf 64))), (0, .inr (.inr (some 147))), (1, .inl (nI bo)), (3, .inl (nI w))], [.inl (1 : Int32), .inl (nI (rx (64 * w + t))), .inr (.inr (some 147)), .inl (nI lv)], H)) (C := []) rfl trivial ?_
            refine mw_cIe (fun _ => rfl) (show mu_is H (some 147) 2 from (h.1.1.is rfl)) (gr_node (d := (d + 1)) (r := rx (64 * w + t)) (c := 1) h e (by omega) hn10) ?_
            rw [show (U.2.2.1 147 10).2 (rx (64 * w + t) * 7 + 1) = nI (ix (rx (64 * w + t))) from hi1]
            refine mw_cIe (fun _ => rfl) trivial (mu_min_ok (d := (d + 1)) (nI lv) (nI (ix (rx (64 * w + t))))) ?_
            rw [show (mu_min (nI lv) (nI (ix (rx (64 * w + t))))) = nI (min lv (ix (rx (64 * w + t)))) from mu_min_n (a := lv) (b := ix (rx (64 * w + t))) (by omega) (by omega)]
            refine mw_go mu_g336 (k := 2) (f1 := (132, [(6, .inl ((nI (cnz lf 64)) + (-1))), (2, .inl (nI (min lv (ix (rx (64 * w + t)))))), (4, .inr (.inl lf2)), (7, .inl (nI (64 * w + t))), (0, .inr (.inr (some 147))), (1, .inl (nI bo)), (3, .inl (nI w))], [], H)) (C := []) rfl trivial ?_
            rw [(show ((nI (cnz lf 64)) + (-1)) = (nI ((cnz lf 64) - 1)) from ((Int32.sub_eq_add_neg _ _).symm.trans (nI_sub (a := cnz lf 64) (b := 1) (by omega))))]
            rw [show (nI ((cnz lf 64) - 1)) = nI (cnz lf2 64) from congrArg nI (by omega)]
            refine mw_go mu_g336 (k := 1) (f1 := (78, [(6, .inl (nI (cnz lf2 64))), (2, .inl (nI (min lv (ix (rx (64 * w + t)))))), (4, .inr (.inl lf2)), (7, .inl (nI (64 * w + t))), (0, .inr (.inr (some 147))), (1, .inl (nI bo)), (3, .inl (nI w))], [], H)) (C := []) rfl trivial ?_
            exact mw_sub (by simp) (ihb (min lv (ix (rx (64 * w + t))), lf2) ⟨(show bo ≤ (min lv (ix (rx (64 * w + t)))) ∧ (min lv (ix (rx (64 * w + t)))) ≤ en from ⟨by omega, by omega⟩), (show ∀ x, x < 64 * w ∨ (x / 64 = w ∧ btz lf2 (x % 64) = false) → BPL U T x = true → (min lv (ix (rx (64 * w + t)))) ≤ ix (rx x) from (fun x hx y => by rcases hx with hx | ⟨hx1, hx2⟩; (have := hmiv x (Or.inl hx) y; omega); (by_cases hxt : x % 64 = t; (rw [show x = 64 * w + t by omega]; omega); (rw [hoff, decide_eq_true hxt, Bool.and_true] at hx2; have := hmiv x (Or.inr ⟨hx1, hx2⟩) y; omega)))), (show LAT U T ix rx (min lv (ix (rx (64 * w + t)))) en from (hav.min hbt)), (show ∀ q, q < 64 → btz lf2 q = true → BPL U T (64 * w + q) = true from (fun q hq y => by rw [hoff, Bool.and_eq_true] at y; exact hlf q hq y.1))⟩ (by show cnz lf2 64 < cnz lf 64; omega))
          · -- 135: not (nI bo) < (nI lv)
            have nh7 : ¬ bo < lv := fun z => h7 (show nI bo < nI lv from (nI_ltI (by omega) (by omega)).mpr z)
            refine mw_go mu_g336 (k := 1) (f1 := (138, [(3, .inl ((nI w) + 1)), (2, .inl (nI lv)), (4, .inr (.inl lf)), (6, .inl (nI (cnz lf 64))), (0, .inr (.inr (some 147))), (1, .inl (nI bo))], [], H)) (C := []) rfl trivial ?_
            rw [(show ((nI w) + 1) = (nI (w + 1)) from (nI_add w 1))]
            refine mw_go mu_g336 (k := 1) (f1 := (26, [(3, .inl (nI (w + 1))), (2, .inl (nI lv)), (4, .inr (.inl lf)), (6, .inl (nI (cnz lf 64))), (0, .inr (.inr (some 147))), (1, .inl (nI bo))], [], H)) (C := []) rfl trivial ?_
            exact mw_sub (by simp) (iha (lv, w + 1) ⟨(show bf ≤ (w + 1) ∧ (w + 1) ≤ bt from (by omega)), (show bo ≤ lv ∧ lv ≤ en from hlv), (show ∀ x, x < 64 * (w + 1) → BPL U T x = true → lv ≤ ix (rx x) from (fun x hx y => by by_cases hlb : bo < lv; (refine hmiv x ?_ y; by_cases hxw : x < 64 * w; (exact Or.inl hxw); (refine Or.inr ⟨by omega, ?_⟩; exact cnz_none (lf := lf) 64 (by omega) (x % 64) (by omega))); (have hx1 := bpl_is.mp y; have := (hpi x hx1.1 hx1.2.2).2.1; omega))), (show LAT U T ix rx lv en from hav)⟩ (by show bt - (w + 1) < bt - w; omega))
        · -- 135: not 0 < (nI (cnz lf 64))
          have nh6 : ¬ 0 < (cnz lf 64) := fun z => h6 (show nI 0 < nI (cnz lf 64) from (nI_ltI (by omega) (by omega)).mpr z)
          refine mw_go mu_g336 (k := 1) (f1 := (138, [(3, .inl ((nI w) + 1)), (2, .inl (nI lv)), (4, .inr (.inl lf)), (6, .inl (nI (cnz lf 64))), (0, .inr (.inr (some 147))), (1, .inl (nI bo))], [], H)) (C := []) rfl trivial ?_
          rw [(show ((nI w) + 1) = (nI (w + 1)) from (nI_add w 1))]
          refine mw_go mu_g336 (k := 1) (f1 := (26, [(3, .inl (nI (w + 1))), (2, .inl (nI lv)), (4, .inr (.inl lf)), (6, .inl (nI (cnz lf 64))), (0, .inr (.inr (some 147))), (1, .inl (nI bo))], [], H)) (C := []) rfl trivial ?_
          exact mw_sub (by simp) (iha (lv, w + 1) ⟨(show bf ≤ (w + 1) ∧ (w + 1) ≤ bt from (by omega)), (show bo ≤ lv ∧ lv ≤ en from hlv), (show ∀ x, x < 64 * (w + 1) → BPL U T x = true → lv ≤ ix (rx x) from (fun x hx y => by by_cases hlb : bo < lv; (refine hmiv x ?_ y; by_cases hxw : x < 64 * w; (exact Or.inl hxw); (refine Or.inr ⟨by omega, ?_⟩; exact cnz_none (lf := lf) 64 (by omega) (x % 64) (by omega))); (have hx1 := bpl_is.mp y; have := (hpi x hx1.1 hx1.2.2).2.1; omega))), (show LAT U T ix rx lv en from hav)⟩ (by show bt - (w + 1) < bt - w; omega))
      · -- 71: not (lg_cmp lf0 (0 : Int64)) = 0
        refine mw_go mu_g336 (k := 1) (f1 := (73, [(4, .inr (.inl lf0)), (2, .inl (nI lo)), (3, .inl (nI w)), (0, .inr (.inr (some 147))), (1, .inl (nI bo))], [.inr (.inl lf0)], H)) (C := []) rfl trivial ?_
        refine mw_cIe (fun _ => rfl) trivial (jl_bits_ok (d := (d + 1)) lf0) ?_
        rw [show jl_bits lf0 = nI (cnz lf0 64) from jl_bits_c]
        refine mw_go mu_g336 (k := 1) (f1 := (78, [(6, .inl (nI (cnz lf0 64))), (4, .inr (.inl lf0)), (2, .inl (nI lo)), (3, .inl (nI w)), (0, .inr (.inr (some 147))), (1, .inl (nI bo))], [], H)) (C := []) rfl trivial ?_
        refine mw_sub (L' := [(2, .inl (nI lo)), (4, .inr (.inl lf0)), (6, .inl (nI (cnz lf0 64))), (0, .inr (.inr (some 147))), (1, .inl (nI bo)), (3, .inl (nI w))]) (by simp) ?_
        refine mw_down (α := Nat × Int64) (fun zs => (78, [(2, .inl (nI zs.1)), (4, .inr (.inl zs.2)), (6, .inl (nI (cnz zs.2 64))), (0, .inr (.inr (some 147))), (1, .inl (nI bo)), (3, .inl (nI w))], [], H)) (fun zs => cnz zs.2 64) (fun zs => (bo ≤ zs.1 ∧ zs.1 ≤ en) ∧ (∀ x, x < 64 * w ∨ (x / 64 = w ∧ btz zs.2 (x % 64) = false) → BPL U T x = true → zs.1 ≤ ix (rx x)) ∧ (LAT U T ix rx zs.1 en) ∧ (∀ q, q < 64 → btz zs.2 q = true → BPL U T (64 * w + q) = true)) (fun zs hzb ihb => ?_) (lo, lf0) ⟨(show bo ≤ lo ∧ lo ≤ en from hlo), (show ∀ x, x < 64 * w ∨ (x / 64 = w ∧ btz lf0 (x % 64) = false) → BPL U T x = true → lo ≤ ix (rx x) from (fun x hx y => by rcases hx with hx | ⟨hx1, hx2⟩; (exact hmin x hx y); (rw [hlq (x % 64) (by omega), show 64 * w + x % 64 = x by omega, y] at hx2; cases hx2))), (show LAT U T ix rx lo en from hat), (show ∀ q, q < 64 → btz lf0 q = true → BPL U T (64 * w + q) = true from (fun q hq y => by rw [← hlq q hq]; exact y))⟩
        obtain ⟨lv, lf⟩ := zs
        obtain ⟨hlv, hmiv, hav, hlf⟩ := hzb
        have hlv : bo ≤ lv ∧ lv ≤ en := hlv
        have hmiv : ∀ x, x < 64 * w ∨ (x / 64 = w ∧ btz lf (x % 64) = false) → BPL U T x = true → lv ≤ ix (rx x) := hmiv
        have hav : LAT U T ix rx lv en := hav
        have hlf : ∀ q, q < 64 → btz lf q = true → BPL U T (64 * w + q) = true := hlf
        show mu_W _ _ (78, [(2, .inl (nI lv)), (4, .inr (.inl lf)), (6, .inl (nI (cnz lf 64))), (0, .inr (.inr (some 147))), (1, .inl (nI bo)), (3, .inl (nI w))], [], H) _
        have hcb := cnz_b (lf := lf) 64
        refine mw_go mu_g336 (k := 1) (f1 := (80, [(2, .inl (nI lv)), (4, .inr (.inl lf)), (6, .inl (nI (cnz lf 64))), (0, .inr (.inr (some 147))), (1, .inl (nI bo)), (3, .inl (nI w))], [.inl (nI (cnz lf 64))], H)) (C := []) rfl trivial ?_
        refine mw_if (P := 0 < (nI (cnz lf 64))) (a := 83) (b := 135) (fun _ => rfl) trivial (fun h12 => ?_) (fun h12 => ?_)
        · -- 83: 0 < (nI (cnz lf 64))
          have nh12 : 0 < (cnz lf 64) := (nI_ltI (by omega) (by omega)).mp (show nI 0 < nI (cnz lf 64) from h12)
          refine mw_go mu_g336 (k := 2) (f1 := (85, [(2, .inl (nI lv)), (4, .inr (.inl lf)), (6, .inl (nI (cnz lf 64))), (0, .inr (.inr (some 147))), (1, .inl (nI bo)), (3, .inl (nI w))], [.inl (nI bo), .inl (nI lv)], H)) (C := []) rfl trivial ?_
          refine mw_if (P := (nI bo) < (nI lv)) (a := 88) (b := 135) (fun _ => rfl) trivial (fun h13 => ?_) (fun h13 => ?_)
          · -- 88: (nI bo) < (nI lv)
            have nh13 : bo < lv := (nI_ltI (by omega) (by omega)).mp (show nI bo < nI lv from h13)
            refine mw_go mu_g336 (k := 3) (f1 := (92, [(2, .inl (nI lv)), (4, .inr (.inl lf)), (6, .inl (nI (cnz lf 64))), (0, .inr (.inr (some 147))), (1, .inl (nI bo)), (3, .inl (nI w))], [.inl ((nI w) * (64 : Int32))], H)) (C := []) rfl trivial ?_
            rw [(show ((nI w) * (64 : Int32)) = (nI (w * 64)) from (nI_mul (a := w) (b := 64)))]
            refine mw_go mu_g336 (k := 1) (f1 := (94, [(2, .inl (nI lv)), (4, .inr (.inl lf)), (6, .inl (nI (cnz lf 64))), (0, .inr (.inr (some 147))), (1, .inl (nI bo)), (3, .inl (nI w))], [.inr (.inl lf), .inl (nI (w * 64))], H)) (C := []) rfl trivial ?_
            obtain ⟨t, ht1, ht2, ht3⟩ := cnz_low (lf := lf) (by omega)
            have hbt := hlf t ht1 ht2
            obtain ⟨ht4, ht5, ht6⟩ := bpl_is.mp hbt
            obtain ⟨hi1, hi2, hi3⟩ := hpi (64 * w + t) ht4 ht6
            obtain ⟨hrt1, hrt2⟩ := hrx (64 * w + t) ht4
            refine mw_cIe (fun _ => rfl) trivial (jl_tz_ok (d := d) lf) ?_
            rw [show jl_tz lf = nI t from tz64 ht1 ht2 ht3]
            refine mw_go mu_g336 (k := 1) (f1 := (98, [(2, .inl (nI lv)), (4, .inr (.inl lf)), (6, .inl (nI (cnz lf 64))), (0, .inr (.inr (some 147))), (1, .inl (nI bo)), (3, .inl (nI w))], [.inl ((nI (w * 64)) + (nI t))], H)) (C := []) rfl trivial ?_
            rw [(show ((nI (w * 64)) + (nI t)) = (nI ((w * 64) + t)) from (nI_add (w * 64) t))]
            rw [show (nI ((w * 64) + t)) = nI (64 * w + t) from congrArg nI (by omega)]
            refine mw_go mu_g336 (k := 7) (f1 := (109, [(4, .inr (.inl (lf &&& (lf - (1 : Int64))))), (7, .inl (nI (64 * w + t))), (2, .inl (nI lv)), (6, .inl (nI (cnz lf 64))), (0, .inr (.inr (some 147))), (1, .inl (nI bo)), (3, .inl (nI w))], [], H)) (C := []) rfl trivial ?_
            obtain ⟨lf2, hlf2⟩ : ∃ y, y = (lf &&& (lf - (1 : Int64))) := ⟨_, rfl⟩
            rw [← hlf2]
            have hoff : ∀ i, btz lf2 i = (btz lf i && decide (i ≠ t)) := fun i => by rw [hlf2]; exact low_off ht2 ht3 i
            have hcl : cnz lf2 64 + 1 = cnz lf 64 := (cnz_less ht2 (by rw [hoff]; simp) (fun i hi => by rw [hoff]; simp [hi]) 64).2 ht1
            refine mw_go mu_g336 (k := 4) (f1 := (115, [(4, .inr (.inl lf2)), (7, .inl (nI (64 * w + t))), (2, .inl (nI lv)), (6, .inl (nI (cnz lf 64))), (0, .inr (.inr (some 147))), (1, .inl (nI bo)), (3, .inl (nI w))], [.inr (.inr (mu_r H 147 1)), .inr (.inr (some 147)), .inl (nI lv)], H)) (C := [mu_is H (some 147) 2]) rfl (show mu_is H (some 147) 2 from (h.1.1.is rfl)) ?_
            rw [(h.1.1.r (p := 147) (j := 1) (q := 129) rfl)]
            refine mw_go mu_g336 (k := 1) (f1 := (118, [(4, .inr (.inl lf2)), (7, .inl (nI (64 * w + t))), (2, .inl (nI lv)), (6, .inl (nI (cnz lf 64))), (0, .inr (.inr (some 147))), (1, .inl (nI bo)), (3, .inl (nI w))], [.inr (.inr (mu_r H 129 6)), .inr (.inr (some 147)), .inl (nI lv)], H)) (C := [mu_is H (some 129) 9]) rfl (show mu_is H (some 129) 9 from (h.1.1.is rfl)) ?_
            rw [(show mu_r H 129 6 = (U.2.2.2.1 129 6) from (ud_q (U := U) (m := m) (P := 129) (j := 6) e rfl))]
            refine mw_go mu_g336 (k := 2) (f1 := (121, [(4, .inr (.inl lf2)), (7, .inl (nI (64 * w + t))), (2, .inl (nI lv)), (6, .inl (nI (cnz lf 64))), (0, .inr (.inr (some 147))), (1, .inl (nI bo)), (3, .inl (nI w))], [.inl (mu_i H (mu_p (U.2.2.2.1 129 6)) (nI (64 * w + t)).toNatClampNeg), .inr (.inr (some 147)), .inl (nI lv)], H)) (C := [mu_isr H (U.2.2.2.1 129 6) 100, vp_in (nI (64 * w + t)) (mu_n H (mu_p (U.2.2.2.1 129 6)))]) rfl (show (mu_isr H (U.2.2.2.1 129 6) 100) ∧ (vp_in (nI (64 * w + t)) (mu_n H (mu_p (U.2.2.2.1 129 6)))) from ⟨((h.iA e rfl rfl (show U.2.2.2.1 129 6 = (U.2.2.2.1 129 6) from rfl))).r, (h.vA (i := 64 * w + t) e rfl rfl (show U.2.2.2.1 129 6 = (U.2.2.2.1 129 6) from rfl) (show (U.2.2.1 129 6).1 = (U.2.2.1 129 6).1 from rfl) (by omega) (by omega))⟩) ?_
            rw [(show (mu_i H (mu_p (U.2.2.2.1 129 6)) (nI (64 * w + t)).toNatClampNeg) = (nI (rx (64 * w + t))) from ((congrArg (mu_i H (mu_p (U.2.2.2.1 129 6))) (show (nI (64 * w + t)).toNatClampNeg = 64 * w + t from nI_clamp (by omega))).trans (h.gA e rfl rfl (show U.2.2.2.1 129 6 = (U.2.2.2.1 129 6) from rfl))).trans ((congrArg (fun z => z.2 (64 * w + t)) (show U.2.2.1 129 6 = (U.2.2.1 129 6) from rfl)).trans hrt1))]
            refine mw_go mu_g336 (k := 1) (f1 := (122, [(4, .inr (.inl lf2)), (7, .inl (nI (64 * w + t))), (2, .inl (nI lv)), (6, .inl (nI (cnz lf 64))), (0, .inr (.inr (some 147))), (1, .inl (nI bo)), (3, .inl (nI w))], [.inl (1 : Int32), .inl (nI (rx (64 * w + t))), .inr (.inr (some 147)), .inl (nI lv)], H)) (C := []) rfl trivial ?_
            refine mw_cIe (fun _ => rfl) (show mu_is H (some 147) 2 from (h.1.1.is rfl)) (gr_node (d := (d + 1)) (r := rx (64 * w + t)) (c := 1) h e (by omega) hn10) ?_
            rw [show (U.2.2.1 147 10).2 (rx (64 * w + t) * 7 + 1) = nI (ix (rx (64 * w + t))) from hi1]
            refine mw_cIe (fun _ => rfl) trivial (mu_min_ok (d := (d + 1)) (nI lv) (nI (ix (rx (64 * w + t))))) ?_
            rw [show (mu_min (nI lv) (nI (ix (rx (64 * w + t))))) = nI (min lv (ix (rx (64 * w + t)))) from mu_min_n (a := lv) (b := ix (rx (64 * w + t))) (by omega) (by omega)]
            refine mw_go mu_g336 (k := 2) (f1 := (132, [(6, .inl ((nI (cnz lf 64)) + (-1))), (2, .inl (nI (min lv (ix (rx (64 * w + t)))))), (4, .inr (.inl lf2)), (7, .inl (nI (64 * w + t))), (0, .inr (.inr (some 147))), (1, .inl (nI bo)), (3, .inl (nI w))], [], H)) (C := []) rfl trivial ?_
            rw [(show ((nI (cnz lf 64)) + (-1)) = (nI ((cnz lf 64) - 1)) from ((Int32.sub_eq_add_neg _ _).symm.trans (nI_sub (a := cnz lf 64) (b := 1) (by omega))))]
            rw [show (nI ((cnz lf 64) - 1)) = nI (cnz lf2 64) from congrArg nI (by omega)]
            refine mw_go mu_g336 (k := 1) (f1 := (78, [(6, .inl (nI (cnz lf2 64))), (2, .inl (nI (min lv (ix (rx (64 * w + t)))))), (4, .inr (.inl lf2)), (7, .inl (nI (64 * w + t))), (0, .inr (.inr (some 147))), (1, .inl (nI bo)), (3, .inl (nI w))], [], H)) (C := []) rfl trivial ?_
            exact mw_sub (by simp) (ihb (min lv (ix (rx (64 * w + t))), lf2) ⟨(show bo ≤ (min lv (ix (rx (64 * w + t)))) ∧ (min lv (ix (rx (64 * w + t)))) ≤ en from ⟨by omega, by omega⟩), (show ∀ x, x < 64 * w ∨ (x / 64 = w ∧ btz lf2 (x % 64) = false) → BPL U T x = true → (min lv (ix (rx (64 * w + t)))) ≤ ix (rx x) from (fun x hx y => by rcases hx with hx | ⟨hx1, hx2⟩; (have := hmiv x (Or.inl hx) y; omega); (by_cases hxt : x % 64 = t; (rw [show x = 64 * w + t by omega]; omega); (rw [hoff, decide_eq_true hxt, Bool.and_true] at hx2; have := hmiv x (Or.inr ⟨hx1, hx2⟩) y; omega)))), (show LAT U T ix rx (min lv (ix (rx (64 * w + t)))) en from (hav.min hbt)), (show ∀ q, q < 64 → btz lf2 q = true → BPL U T (64 * w + q) = true from (fun q hq y => by rw [hoff, Bool.and_eq_true] at y; exact hlf q hq y.1))⟩ (by show cnz lf2 64 < cnz lf 64; omega))
          · -- 135: not (nI bo) < (nI lv)
            have nh13 : ¬ bo < lv := fun z => h13 (show nI bo < nI lv from (nI_ltI (by omega) (by omega)).mpr z)
            refine mw_go mu_g336 (k := 1) (f1 := (138, [(3, .inl ((nI w) + 1)), (2, .inl (nI lv)), (4, .inr (.inl lf)), (6, .inl (nI (cnz lf 64))), (0, .inr (.inr (some 147))), (1, .inl (nI bo))], [], H)) (C := []) rfl trivial ?_
            rw [(show ((nI w) + 1) = (nI (w + 1)) from (nI_add w 1))]
            refine mw_go mu_g336 (k := 1) (f1 := (26, [(3, .inl (nI (w + 1))), (2, .inl (nI lv)), (4, .inr (.inl lf)), (6, .inl (nI (cnz lf 64))), (0, .inr (.inr (some 147))), (1, .inl (nI bo))], [], H)) (C := []) rfl trivial ?_
            exact mw_sub (by simp) (iha (lv, w + 1) ⟨(show bf ≤ (w + 1) ∧ (w + 1) ≤ bt from (by omega)), (show bo ≤ lv ∧ lv ≤ en from hlv), (show ∀ x, x < 64 * (w + 1) → BPL U T x = true → lv ≤ ix (rx x) from (fun x hx y => by by_cases hlb : bo < lv; (refine hmiv x ?_ y; by_cases hxw : x < 64 * w; (exact Or.inl hxw); (refine Or.inr ⟨by omega, ?_⟩; exact cnz_none (lf := lf) 64 (by omega) (x % 64) (by omega))); (have hx1 := bpl_is.mp y; have := (hpi x hx1.1 hx1.2.2).2.1; omega))), (show LAT U T ix rx lv en from hav)⟩ (by show bt - (w + 1) < bt - w; omega))
        · -- 135: not 0 < (nI (cnz lf 64))
          have nh12 : ¬ 0 < (cnz lf 64) := fun z => h12 (show nI 0 < nI (cnz lf 64) from (nI_ltI (by omega) (by omega)).mpr z)
          refine mw_go mu_g336 (k := 1) (f1 := (138, [(3, .inl ((nI w) + 1)), (2, .inl (nI lv)), (4, .inr (.inl lf)), (6, .inl (nI (cnz lf 64))), (0, .inr (.inr (some 147))), (1, .inl (nI bo))], [], H)) (C := []) rfl trivial ?_
          rw [(show ((nI w) + 1) = (nI (w + 1)) from (nI_add w 1))]
          refine mw_go mu_g336 (k := 1) (f1 := (26, [(3, .inl (nI (w + 1))), (2, .inl (nI lv)), (4, .inr (.inl lf)), (6, .inl (nI (cnz lf 64))), (0, .inr (.inr (some 147))), (1, .inl (nI bo))], [], H)) (C := []) rfl trivial ?_
          exact mw_sub (by simp) (iha (lv, w + 1) ⟨(show bf ≤ (w + 1) ∧ (w + 1) ≤ bt from (by omega)), (show bo ≤ lv ∧ lv ≤ en from hlv), (show ∀ x, x < 64 * (w + 1) → BPL U T x = true → lv ≤ ix (rx x) from (fun x hx y => by by_cases hlb : bo < lv; (refine hmiv x ?_ y; by_cases hxw : x < 64 * w; (exact Or.inl hxw); (refine Or.inr ⟨by omega, ?_⟩; exact cnz_none (lf := lf) 64 (by omega) (x % 64) (by omega))); (have hx1 := bpl_is.mp y; have := (hpi x hx1.1 hx1.2.2).2.1; omega))), (show LAT U T ix rx lv en from hav)⟩ (by show bt - (w + 1) < bt - w; omega))
    · -- 141: not (nI bo) < (nI lo)
      have nh4 : ¬ bo < lo := fun z => h4 (show nI bo < nI lo from (nI_ltI (by omega) (by omega)).mpr z)
      refine mw_go mu_g336 (k := 1) (f1 := (142, [(2, .inl (nI lo)), (3, .inl (nI w)), (0, .inr (.inr (some 147))), (1, .inl (nI bo))], [.inl (nI lo)], H)) (C := []) rfl trivial ?_
      refine mw_of (fun _ => mu_ret rfl trivial ⟨_, H, rfl, rfl, lo, rfl, hlo.2, hlo.1, fun x hx1 hx2 hx3 => ?_, ?_⟩)
      · have y : BPL U T x = true := bpl_is.mpr ⟨hx1, hx2, hx3⟩
        by_cases hlb : bo < lo
        · refine hmin x ?_ y
          have hxx : ¬ ¬ (bf ≤ x / 64 ∧ x / 64 < bt) := fun z => bpl_no hz (by omega) z y
          omega
        · have := (hpi x hx1 hx3).2.1
          omega
      · rcases hat with y | ⟨x, y1, y2⟩
        · exact Or.inl y
        · exact Or.inr ⟨x, (bpl_is.mp y1).1, (bpl_is.mp y1).2.1, (bpl_is.mp y1).2.2, y2⟩
  · -- 141: not (nI w) < (nI bt)
    have nh3 : ¬ w < bt := fun z => h3 (show nI w < nI bt from (nI_ltI (by omega) (by omega)).mpr z)
    refine mw_go mu_g336 (k := 1) (f1 := (142, [(2, .inl (nI lo)), (3, .inl (nI w)), (0, .inr (.inr (some 147))), (1, .inl (nI bo))], [.inl (nI lo)], H)) (C := []) rfl trivial ?_
    refine mw_of (fun _ => mu_ret rfl trivial ⟨_, H, rfl, rfl, lo, rfl, hlo.2, hlo.1, fun x hx1 hx2 hx3 => ?_, ?_⟩)
    · have y : BPL U T x = true := bpl_is.mpr ⟨hx1, hx2, hx3⟩
      by_cases hlb : bo < lo
      · refine hmin x ?_ y
        have hxx : ¬ ¬ (bf ≤ x / 64 ∧ x / 64 < bt) := fun z => bpl_no hz (by omega) z y
        omega
      · have := (hpi x hx1 hx3).2.1
        omega
    · rcases hat with y | ⟨x, y1, y2⟩
      · exact Or.inl y
      · exact Or.inr ⟨x, (bpl_is.mp y1).1, (bpl_is.mp y1).2.1, (bpl_is.mp y1).2.2, y2⟩
end Lowest
