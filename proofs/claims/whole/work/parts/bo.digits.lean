/-! Space.digitOf, Machine.weigh, Machine.pose, Machine.digitAt -/
section Digits
variable {H : mu_H} {m d P k s n A W l t : Nat} {C : Nat → Nat} {U V : Ud} {f : Nat → Nat} {v w : Int32}
def wgh (s : Ts) (k : Nat) (w : Int32) : Ts := if (s 22).2 k 1 = w then s else ax 22 (ax 22 s (nI k) 1 w) (nI k) 3 (-1)
theorem sm_lt (h : ∀ k, k < P → 1 ≤ f k) (hk : k < P) : sm f 0 k + f k ≤ sm f 0 P := by
  have h1 := sm_le_add (f := f) (a := 0) (k + 1) (P - (k + 1))
  rw [show k + 1 + (P - (k + 1)) = P by omega] at h1
  have h2 : sm f 0 (k + 1) = sm f 0 k + f k := by show sm f 0 k + f (0 + k) = _; rw [Nat.zero_add]
  omega
/-- PathProver$Space.digitOf(II)I -/
abbrev mu_m263 : ev_M := (6, (some .int), [], ev_b263)
theorem mu_g263 : mu_good mu_m263 := mu_goodk ev_k263
/-- PathProver$Machine.weigh(II)V -/
abbrev mu_m229 : ev_M := (3, none, [], ev_b229)
theorem mu_g229 : mu_good mu_m229 := mu_goodk ev_k229
theorem mc_weigh (h : um m H) (e : ud m H = U) (hk : k < 28) : mu_TV (mu_D (d + 2)) 229 [.inr (.inr (some 100)), .inl (nI k), .inl w] H (fun H1 => um m H1 ∧ ur m C H H1 ∧ ud m H1 = upT U (wgh U.1 k w)) := by
  refine mu_meth (M := mu_m229) rfl rfl ?_
  refine mw_ht (mu_fn_of (show [0, 1, 2].Nodup by decide)) ?_
  refine mw_go mu_g229 (k := 2) (f1 := (4, [(0, .inr (.inr (some 100))), (1, .inl (nI k)), (2, .inl w)], [.inr (.inr (mu_r H 100 2))], H)) (C := [mu_is H (some 100) 5]) rfl (show mu_is H (some 100) 5 from (h.1.1.is rfl)) ?_
  rw [(h.1.1.r (p := 100) (j := 2) (q := 103) rfl)]
  refine mw_go mu_g229 (k := 2) (f1 := (6, [(0, .inr (.inr (some 100))), (1, .inl (nI k)), (2, .inl w)], [.inl (1 : Int32), .inl (nI k), .inr (.inr (some 103))], H)) (C := []) rfl trivial ?_
  refine mw_cIe (fun _ => rfl) (show mu_is H (some 103) 10 from (h.1.1.is rfl)) (h.getr (d := d) e (j := 22) (by decide) rfl (nI k) (c := 1) (by decide)) ?_
  rw [show (tget (U.1 22) (nI k) 1) = ((U.1 22).2 k 1) from (congrArg (fun z => tget z (nI k) 1) (show U.1 22 = (U.1 22) from rfl)).trans (tget_nI (by omega))]
  refine mw_go mu_g229 (k := 1) (f1 := (10, [(0, .inr (.inr (some 100))), (1, .inl (nI k)), (2, .inl w)], [.inl w, .inl ((U.1 22).2 k 1)], H)) (C := []) rfl trivial ?_
  refine mw_if (P := ((U.1 22).2 k 1) = w) (a := 33) (b := 13) (fun _ => rfl) trivial (fun h2 => ?_) (fun h2 => ?_)
  · -- 33: ((U.1 22).2 k 1) = w
    exact mw_of (fun _ => mu_ret rfl trivial ⟨H, rfl, h, (ur.refl m C H), (by rw [e]; unfold wgh; rw [if_pos h2]; rfl)⟩)
  · -- 13: not ((U.1 22).2 k 1) = w
    refine mw_go mu_g229 (k := 2) (f1 := (17, [(0, .inr (.inr (some 100))), (1, .inl (nI k)), (2, .inl w)], [.inr (.inr (mu_r H 100 2))], H)) (C := [mu_is H (some 100) 5]) rfl (show mu_is H (some 100) 5 from (h.1.1.is rfl)) ?_
    rw [(h.1.1.r (p := 100) (j := 2) (q := 103) rfl)]
    refine mw_go mu_g229 (k := 3) (f1 := (20, [(0, .inr (.inr (some 100))), (1, .inl (nI k)), (2, .inl w)], [.inl w, .inl (1 : Int32), .inl (nI k), .inr (.inr (some 103))], H)) (C := []) rfl trivial ?_
    refine mw_cV (fun _ => rfl) (show mu_is H (some 103) 10 from (h.1.1.is rfl)) (h.setr (C := C) (d := d) e (j := 22) (Or.inr ⟨by decide, by decide⟩) rfl (nI k) w (c := 1) (by decide)) (fun Q3 q3 => ?_)
    obtain ⟨u3, r3, d3⟩ := q3
    have ht3 : ur m C H Q3 := (ur.refl m C H).trans r3
    refine mw_go mu_g229 (k := 2) (f1 := (27, [(0, .inr (.inr (some 100))), (1, .inl (nI k)), (2, .inl w)], [.inr (.inr (mu_r Q3 100 2))], Q3)) (C := [mu_is Q3 (some 100) 5]) rfl (show mu_is Q3 (some 100) 5 from (u3.1.1.is rfl)) ?_
    rw [(u3.1.1.r (p := 100) (j := 2) (q := 103) rfl)]
    refine mw_go mu_g229 (k := 3) (f1 := (30, [(0, .inr (.inr (some 100))), (1, .inl (nI k)), (2, .inl w)], [.inl (-1 : Int32), .inl (3 : Int32), .inl (nI k), .inr (.inr (some 103))], Q3)) (C := []) rfl trivial ?_
    refine mw_cV (fun _ => rfl) (show mu_is Q3 (some 103) 10 from (u3.1.1.is rfl)) (u3.setr (C := C) (d := d) d3 (j := 22) (Or.inr ⟨by decide, by decide⟩) rfl (nI k) (-1 : Int32) (c := 3) (by decide)) (fun Q4 q4 => ?_)
    obtain ⟨u4, r4, d4⟩ := q4
    have ht4 : ur m C H Q4 := ht3.trans r4
    exact mw_of (fun _ => mu_ret rfl trivial ⟨Q4, rfl, u4, ht4, (by rw [d4]; unfold wgh; rw [if_neg h2]; rfl)⟩)
/-- PathProver$Machine.pose(II)V -/
abbrev mu_m233 : ev_M := (3, none, [], ev_b233)
theorem mu_g233 : mu_good mu_m233 := mu_goodk ev_k233
theorem mc_pose (h : um m H) (e : ud m H = U) (hS : spx m U P f) (hk : k % 14 < P) (hk28 : k < 28) (hn : n < f (k % 14)) : mu_TV (mu_D (d + 2)) 233 [.inr (.inr (some 100)), .inl (nI k), .inl (nI n)] H (fun H1 => um m H1 ∧ ur m C H H1 ∧ ud m H1 = upT U (ax 22 U.1 (nI k) 2 ((U.2.2.1 99 8).2 (sm f 0 (k % 14) + n)))) := by
  obtain ⟨⟨s4, s10, s11, s12⟩, hk5, ⟨g8, g8b, g18, g18b⟩, ⟨gP, gpd, gsm⟩, hsp, hmo⟩ := hS
  have hf := fun k hk => Nat.le_trans (show 1 ≤ 2 by decide) (hk5 k hk).2.2.2
  have hfk := sm_lt hf hk
  refine mu_meth (M := mu_m233) rfl rfl ?_
  refine mw_ht (mu_fn_of (show [0, 1, 2].Nodup by decide)) ?_
  refine mw_go mu_g233 (k := 2) (f1 := (4, [(0, .inr (.inr (some 100))), (1, .inl (nI k)), (2, .inl (nI n))], [.inr (.inr (mu_r H 100 2))], H)) (C := [mu_is H (some 100) 5]) rfl (show mu_is H (some 100) 5 from (h.1.1.is rfl)) ?_
  rw [(h.1.1.r (p := 100) (j := 2) (q := 103) rfl)]
  refine mw_go mu_g233 (k := 4) (f1 := (10, [(0, .inr (.inr (some 100))), (1, .inl (nI k)), (2, .inl (nI n))], [.inr (.inr (mu_r H 100 0)), .inl (2 : Int32), .inl (nI k), .inr (.inr (some 103))], H)) (C := [mu_is H (some 100) 5]) rfl (show mu_is H (some 100) 5 from (h.1.1.is rfl)) ?_
  rw [(show mu_r H 100 0 = (some 99) from (ud_q (U := U) (m := m) (P := 100) (j := 0) e rfl).trans hsp)]
  refine mw_go mu_g233 (k := 1) (f1 := (13, [(0, .inr (.inr (some 100))), (1, .inl (nI k)), (2, .inl (nI n))], [.inr (.inr (mu_r H 99 8)), .inl (2 : Int32), .inl (nI k), .inr (.inr (some 103))], H)) (C := [mu_is H (some 99) 13]) rfl (show mu_is H (some 99) 13 from (h.1.1.is rfl)) ?_
  rw [(show mu_r H 99 8 = (U.2.2.2.1 99 8) from (ud_q (U := U) (m := m) (P := 99) (j := 8) e rfl))]
  refine mw_go mu_g233 (k := 2) (f1 := (17, [(0, .inr (.inr (some 100))), (1, .inl (nI k)), (2, .inl (nI n))], [.inr (.inr (mu_r H 100 0)), .inr (.inr (U.2.2.2.1 99 8)), .inl (2 : Int32), .inl (nI k), .inr (.inr (some 103))], H)) (C := [mu_is H (some 100) 5]) rfl (show mu_is H (some 100) 5 from (h.1.1.is rfl)) ?_
  rw [(show mu_r H 100 0 = (some 99) from (ud_q (U := U) (m := m) (P := 100) (j := 0) e rfl).trans hsp)]
  refine mw_go mu_g233 (k := 1) (f1 := (20, [(0, .inr (.inr (some 100))), (1, .inl (nI k)), (2, .inl (nI n))], [.inr (.inr (mu_r H 99 7)), .inr (.inr (U.2.2.2.1 99 8)), .inl (2 : Int32), .inl (nI k), .inr (.inr (some 103))], H)) (C := [mu_is H (some 99) 13]) rfl (show mu_is H (some 99) 13 from (h.1.1.is rfl)) ?_
  rw [(h.1.1.r (p := 99) (j := 7) (q := 122) rfl)]
  refine mw_go mu_g233 (k := 3) (f1 := (24, [(0, .inr (.inr (some 100))), (1, .inl (nI k)), (2, .inl (nI n))], [.inl ((nI k) - (nI k) / (14 : Int32) * (14 : Int32)), .inr (.inr (some 122)), .inr (.inr (U.2.2.2.1 99 8)), .inl (2 : Int32), .inl (nI k), .inr (.inr (some 103))], H)) (C := [¬ (14 : Int32) = 0]) rfl (show ¬ (14 : Int32) = 0 from (by decide)) ?_
  rw [(show ((nI k) - (nI k) / (14 : Int32) * (14 : Int32)) = (nI (k % 14)) from (nI_mod (a := k) (b := 14) (by omega) (by omega)))]
  refine mw_go mu_g233 (k := 1) (f1 := (25, [(0, .inr (.inr (some 100))), (1, .inl (nI k)), (2, .inl (nI n))], [.inl (mu_i H 122 (nI (k % 14)).toNatClampNeg), .inr (.inr (U.2.2.2.1 99 8)), .inl (2 : Int32), .inl (nI k), .inr (.inr (some 103))], H)) (C := [mu_isr H (some 122) 100, vp_in (nI (k % 14)) (mu_n H 122)]) rfl (show (mu_isr H (some 122) 100) ∧ (vp_in (nI (k % 14)) (mu_n H 122)) from ⟨((h.iA e rfl rfl ((ud_q (m := m) (P := 99) (j := 7) e rfl).symm.trans (h.1.1.r (p := 99) (j := 7) (q := 122) rfl)))).r, (by rw [show mu_n H 122 = 14 from (h.1.1.a (p := 122) (x := (100, 14)) rfl).2]; exact vp_in_nI (n := k % 14) (by omega) (by decide))⟩) ?_
  rw [(show (mu_i H 122 (nI (k % 14)).toNatClampNeg) = (nI (sm f 0 (k % 14))) from ((congrArg (mu_i H 122) (show (nI (k % 14)).toNatClampNeg = k % 14 from nI_clamp (by omega))).trans (h.gA e rfl rfl ((ud_q (m := m) (P := 99) (j := 7) e rfl).symm.trans (h.1.1.r (p := 99) (j := 7) (q := 122) rfl)))).trans ((congrArg (fun z => z.2 (k % 14)) (show U.2.2.1 99 7 = (U.2.2.1 99 7) from rfl)).trans (hk5 (k % 14) (by omega)).2.1))]
  refine mw_go mu_g233 (k := 2) (f1 := (27, [(0, .inr (.inr (some 100))), (1, .inl (nI k)), (2, .inl (nI n))], [.inl ((nI (sm f 0 (k % 14))) + (nI n)), .inr (.inr (U.2.2.2.1 99 8)), .inl (2 : Int32), .inl (nI k), .inr (.inr (some 103))], H)) (C := []) rfl trivial ?_
  rw [(show ((nI (sm f 0 (k % 14))) + (nI n)) = (nI ((sm f 0 (k % 14)) + n)) from (nI_add (sm f 0 (k % 14)) n))]
  refine mw_go mu_g233 (k := 1) (f1 := (28, [(0, .inr (.inr (some 100))), (1, .inl (nI k)), (2, .inl (nI n))], [.inl (mu_i H (mu_p (U.2.2.2.1 99 8)) (nI ((sm f 0 (k % 14)) + n)).toNatClampNeg), .inl (2 : Int32), .inl (nI k), .inr (.inr (some 103))], H)) (C := [mu_isr H (U.2.2.2.1 99 8) 100, vp_in (nI ((sm f 0 (k % 14)) + n)) (mu_n H (mu_p (U.2.2.2.1 99 8)))]) rfl (show (mu_isr H (U.2.2.2.1 99 8) 100) ∧ (vp_in (nI ((sm f 0 (k % 14)) + n)) (mu_n H (mu_p (U.2.2.2.1 99 8)))) from ⟨((h.iA e rfl rfl (show U.2.2.2.1 99 8 = (U.2.2.2.1 99 8) from rfl))).r, (h.vA (i := (sm f 0 (k % 14)) + n) e rfl rfl (show U.2.2.2.1 99 8 = (U.2.2.2.1 99 8) from rfl) (show (U.2.2.1 99 8).1 = (U.2.2.1 99 8).1 from rfl) (by omega) (by omega))⟩) ?_
  rw [(show (mu_i H (mu_p (U.2.2.2.1 99 8)) (nI ((sm f 0 (k % 14)) + n)).toNatClampNeg) = ((U.2.2.1 99 8).2 ((sm f 0 (k % 14)) + n)) from ((congrArg (mu_i H (mu_p (U.2.2.2.1 99 8))) (show (nI ((sm f 0 (k % 14)) + n)).toNatClampNeg = (sm f 0 (k % 14)) + n from nI_clamp (by omega))).trans (h.gA e rfl rfl (show U.2.2.2.1 99 8 = (U.2.2.2.1 99 8) from rfl))).trans ((congrArg (fun z => z.2 ((sm f 0 (k % 14)) + n)) (show U.2.2.1 99 8 = (U.2.2.1 99 8) from rfl)).trans rfl))]
  refine mw_cV (fun _ => rfl) (show mu_is H (some 103) 10 from (h.1.1.is rfl)) (h.setr (C := C) (d := d) e (j := 22) (Or.inr ⟨by decide, by decide⟩) rfl (nI k) ((U.2.2.1 99 8).2 ((sm f 0 (k % 14)) + n)) (c := 2) (by decide)) (fun Q1 q1 => ?_)
  obtain ⟨u1, r1, d1⟩ := q1
  have ht1 : ur m C H Q1 := (ur.refl m C H).trans r1
  exact mw_of (fun _ => mu_ret rfl trivial ⟨Q1, rfl, u1, ht1, d1⟩)
end Digits
