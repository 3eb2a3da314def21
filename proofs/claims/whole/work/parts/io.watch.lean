/-! PROVER: a path that is shown is watched -/
section Watch
variable {H : mu_H} {U V : Ud} {m d a0 cn lp t1 : Nat} {C : Nat → Nat} {sv : Int32}
/-- PathProver$Prover.watchOn()V -/
abbrev mu_m345 : ev_M := (3, none, [], ev_b345)
theorem mu_g345 : mu_good mu_m345 := mu_goodk ev_k345
theorem pr_watch1 (h : um m H) (e : ud m H = U) (hat : U.2.1 158 16 = nI a0) (hcn : U.2.1 158 11 = nI cn) (hcb : cn ≤ 2000) (hsv : U.2.1 158 13 = sv) (ha : a0 + 1 < cn) (hsh : (U.2.2.1 158 9).2 (a0 + 1) = nI t1) (ht1 : t1 < 16384) (hbit : bts (U.2.2.2.2.1 146) t1 = true) (h6 : t1 < (U.2.2.1 129 6).1) (h6b : (U.2.2.1 129 6).1 ≤ 16777216) : mu_TV (mu_D (d + 2)) 345 [.inr (.inr (some 158))] H (fun H1 => um m H1 ∧ ur m C H H1 ∧ ud m H1 = (upI (upI (upI (upI U 158 13 sv) 158 16 (nI (a0 + 1))) 147 14 (6 : Int32)) 147 15 ((U.2.2.1 129 6).2 t1))) := by
  refine mu_meth (M := mu_m345) rfl rfl ?_
  refine mw_ht (mu_fn_of (show [0].Nodup by decide)) ?_
  refine mw_go mu_g345 (k := 2) (f1 := (4, [(0, .inr (.inr (some 158)))], [.inl (mu_i H 158 16)], H)) (C := [mu_is H (some 158) 8]) rfl (show mu_is H (some 158) 8 from (h.1.1.is rfl)) ?_
  rw [(show mu_i H 158 16 = (nI a0) from (ud_i (U := U) (m := m) (P := 158) (j := 16) e rfl).trans hat)]
  refine mw_go mu_g345 (k := 2) (f1 := (6, [(0, .inr (.inr (some 158)))], [.inl ((nI a0) + (1 : Int32))], H)) (C := []) rfl trivial ?_
  rw [(show ((nI a0) + (1 : Int32)) = (nI (a0 + 1)) from (nI_add a0 1))]
  refine mw_go mu_g345 (k := 2) (f1 := (10, [(0, .inr (.inr (some 158)))], [.inl (mu_i H 158 11), .inl (nI (a0 + 1))], H)) (C := [mu_is H (some 158) 8]) rfl (show mu_is H (some 158) 8 from (h.1.1.is rfl)) ?_
  rw [(show mu_i H 158 11 = (nI cn) from (ud_i (U := U) (m := m) (P := 158) (j := 11) e rfl).trans hcn)]
  refine mw_if (P := (nI (a0 + 1)) < (nI cn)) (a := 13) (b := 27) (fun _ => rfl) trivial (fun h1 => ?_) (fun h1 => absurd ((nI_ltI (by omega) (by omega)).mpr (by omega)) h1)
  refine mw_go mu_g345 (k := 2) (f1 := (17, [(0, .inr (.inr (some 158)))], [.inr (.inr (mu_r H 158 9))], H)) (C := [mu_is H (some 158) 8]) rfl (show mu_is H (some 158) 8 from (h.1.1.is rfl)) ?_
  rw [(h.1.1.r (p := 158) (j := 9) (q := 166) rfl)]
  refine mw_go mu_g345 (k := 2) (f1 := (21, [(0, .inr (.inr (some 158)))], [.inl (mu_i H 158 16), .inr (.inr (some 166))], H)) (C := [mu_is H (some 158) 8]) rfl (show mu_is H (some 158) 8 from (h.1.1.is rfl)) ?_
  rw [(show mu_i H 158 16 = (nI a0) from (ud_i (U := U) (m := m) (P := 158) (j := 16) e rfl).trans hat)]
  refine mw_go mu_g345 (k := 2) (f1 := (23, [(0, .inr (.inr (some 158)))], [.inl ((nI a0) + (1 : Int32)), .inr (.inr (some 166))], H)) (C := []) rfl trivial ?_
  rw [(show ((nI a0) + (1 : Int32)) = (nI (a0 + 1)) from (nI_add a0 1))]
  refine mw_go mu_g345 (k := 1) (f1 := (24, [(0, .inr (.inr (some 158)))], [.inl (mu_i H 166 (nI (a0 + 1)).toNatClampNeg)], H)) (C := [mu_isr H (some 166) 100, vp_in (nI (a0 + 1)) (mu_n H 166)]) rfl (show (mu_isr H (some 166) 100) ∧ (vp_in (nI (a0 + 1)) (mu_n H 166)) from ⟨((h.iA e rfl rfl ((ud_q (m := m) (P := 158) (j := 9) e rfl).symm.trans (h.1.1.r (p := 158) (j := 9) (q := 166) rfl)))).r, (by rw [show mu_n H 166 = 2000 from (h.1.1.a (p := 166) (x := (100, 2000)) rfl).2]; exact vp_in_nI (n := a0 + 1) (by omega) (by decide))⟩) ?_
  rw [(show (mu_i H 166 (nI (a0 + 1)).toNatClampNeg) = (nI t1) from ((congrArg (mu_i H 166) (show (nI (a0 + 1)).toNatClampNeg = a0 + 1 from nI_clamp (by omega))).trans (h.gA e rfl rfl ((ud_q (m := m) (P := 158) (j := 9) e rfl).symm.trans (h.1.1.r (p := 158) (j := 9) (q := 166) rfl)))).trans ((congrArg (fun z => z.2 (a0 + 1)) (show U.2.2.1 158 9 = (U.2.2.1 158 9) from rfl)).trans hsh))]
  refine mw_go mu_g345 (k := 3) (f1 := (49, [(1, .inl (nI t1)), (0, .inr (.inr (some 158)))], [.inl (nI t1)], H)) (C := []) rfl trivial ?_
  refine mw_if (P := (nI t1) < 0) (a := 73) (b := 52) (fun _ => rfl) trivial (fun h2 => absurd h2 (nI_pos (by omega))) (fun h2 => ?_)
  refine mw_go mu_g345 (k := 2) (f1 := (56, [(1, .inl (nI t1)), (0, .inr (.inr (some 158)))], [.inr (.inr (mu_r H 158 1))], H)) (C := [mu_is H (some 158) 8]) rfl (show mu_is H (some 158) 8 from (h.1.1.is rfl)) ?_
  rw [(h.1.1.r (p := 158) (j := 1) (q := 147) rfl)]
  refine mw_go mu_g345 (k := 1) (f1 := (59, [(1, .inl (nI t1)), (0, .inr (.inr (some 158)))], [.inr (.inr (mu_r H 147 1))], H)) (C := [mu_is H (some 147) 2]) rfl (show mu_is H (some 147) 2 from (h.1.1.is rfl)) ?_
  rw [(h.1.1.r (p := 147) (j := 1) (q := 129) rfl)]
  refine mw_go mu_g345 (k := 1) (f1 := (62, [(1, .inl (nI t1)), (0, .inr (.inr (some 158)))], [.inr (.inr (mu_r H 129 18))], H)) (C := [mu_is H (some 129) 9]) rfl (show mu_is H (some 129) 9 from (h.1.1.is rfl)) ?_
  rw [(h.1.1.r (p := 129) (j := 18) (q := 146) rfl)]
  refine mw_go mu_g345 (k := 1) (f1 := (63, [(1, .inl (nI t1)), (0, .inr (.inr (some 158)))], [.inl (nI t1), .inr (.inr (some 146))], H)) (C := []) rfl trivial ?_
  refine mw_cIe (fun _ => rfl) trivial ((pv_has_146 (d := d) (k := t1) h e (by omega)).imp (fun x H1 q => ⟨q.1.trans (if_pos hbit), q.2⟩)) ?_
  refine mw_if (P := (1 : Int32) = 0) (a := 69) (b := 73) (fun _ => rfl) trivial (fun h4 => absurd h4 (by decide)) (fun h4 => ?_)
  refine mw_go mu_g345 (k := 5) (f1 := (80, [(2, .inl (0 : Int32)), (1, .inl (nI t1)), (0, .inr (.inr (some 158)))], [.inl (mu_i H 158 13), .inr (.inr (some 158))], H)) (C := [mu_is H (some 158) 8]) rfl (show mu_is H (some 158) 8 from (h.1.1.is rfl)) ?_
  rw [(show mu_i H 158 13 = sv from (ud_i (U := U) (m := m) (P := 158) (j := 13) e rfl).trans hsv)]
  refine mw_go mu_g345 (k := 1) (f1 := (81, [(2, .inl (0 : Int32)), (1, .inl (nI t1)), (0, .inr (.inr (some 158)))], [.inl (0 : Int32), .inl sv, .inr (.inr (some 158))], H)) (C := []) rfl trivial ?_
  refine mw_if (P := (0 : Int32) = 0) (a := 88) (b := 84) (fun _ => rfl) trivial (fun h5 => ?_) (fun h5 => absurd rfl h5)
  refine mw_go mu_g345 (k := 2) (f1 := (90, [(2, .inl (0 : Int32)), (1, .inl (nI t1)), (0, .inr (.inr (some 158)))], [.inl (sv + (0 : Int32)), .inr (.inr (some 158))], H)) (C := []) rfl trivial ?_
  rw [show (sv + (0 : Int32)) = sv from Int32.add_zero sv]
  refine mw_go mu_g345 (k := 1) (f1 := (93, [(2, .inl (0 : Int32)), (1, .inl (nI t1)), (0, .inr (.inr (some 158)))], [], (mu_si H 158 13 sv))) (C := [mu_is H (some 158) 8]) rfl (show mu_is H (some 158) 8 from (h.1.1.is rfl)) ?_
  obtain ⟨u6, r6, d6⟩ : um m (mu_si H 158 13 sv) ∧ ur m C H (mu_si H 158 13 sv) ∧ ud m (mu_si H 158 13 sv) = (upI U 158 13 sv) := h.sI (C := C) e rfl
  generalize (mu_si H 158 13 sv) = Q6 at u6 r6 d6 ⊢
  have ht6 : ur m C H Q6 := (ur.refl m C H).trans r6
  refine mw_go mu_g345 (k := 3) (f1 := (98, [(2, .inl (0 : Int32)), (1, .inl (nI t1)), (0, .inr (.inr (some 158)))], [.inl (mu_i Q6 158 16), .inr (.inr (some 158))], Q6)) (C := [mu_is Q6 (some 158) 8]) rfl (show mu_is Q6 (some 158) 8 from (u6.1.1.is rfl)) ?_
  rw [(show mu_i Q6 158 16 = (nI a0) from (ud_i (U := (upI U 158 13 sv)) (m := m) (P := 158) (j := 16) d6 rfl).trans hat)]
  refine mw_go mu_g345 (k := 2) (f1 := (100, [(2, .inl (0 : Int32)), (1, .inl (nI t1)), (0, .inr (.inr (some 158)))], [.inl ((nI a0) + (1 : Int32)), .inr (.inr (some 158))], Q6)) (C := []) rfl trivial ?_
  rw [(show ((nI a0) + (1 : Int32)) = (nI (a0 + 1)) from (nI_add a0 1))]
  refine mw_go mu_g345 (k := 1) (f1 := (103, [(2, .inl (0 : Int32)), (1, .inl (nI t1)), (0, .inr (.inr (some 158)))], [], (mu_si Q6 158 16 (nI (a0 + 1))))) (C := [mu_is Q6 (some 158) 8]) rfl (show mu_is Q6 (some 158) 8 from (u6.1.1.is rfl)) ?_
  obtain ⟨u7, r7, d7⟩ : um m (mu_si Q6 158 16 (nI (a0 + 1))) ∧ ur m C Q6 (mu_si Q6 158 16 (nI (a0 + 1))) ∧ ud m (mu_si Q6 158 16 (nI (a0 + 1))) = (upI (upI U 158 13 sv) 158 16 (nI (a0 + 1))) := u6.sI (C := C) d6 rfl
  generalize (mu_si Q6 158 16 (nI (a0 + 1))) = Q7 at u7 r7 d7 ⊢
  have ht7 : ur m C H Q7 := ht6.trans r7
  refine mw_go mu_g345 (k := 1) (f1 := (104, [(2, .inl (0 : Int32)), (1, .inl (nI t1)), (0, .inr (.inr (some 158)))], [.inl (0 : Int32)], Q7)) (C := []) rfl trivial ?_
  refine mw_if (P := (0 : Int32) = 0) (a := 107) (b := 118) (fun _ => rfl) trivial (fun h8 => ?_) (fun h8 => absurd rfl h8)
  refine mw_go mu_g345 (k := 2) (f1 := (111, [(2, .inl (0 : Int32)), (1, .inl (nI t1)), (0, .inr (.inr (some 158)))], [.inl (mu_i Q7 158 16)], Q7)) (C := [mu_is Q7 (some 158) 8]) rfl (show mu_is Q7 (some 158) 8 from (u7.1.1.is rfl)) ?_
  rw [(show mu_i Q7 158 16 = (nI (a0 + 1)) from (ud_i (U := (upI (upI U 158 13 sv) 158 16 (nI (a0 + 1)))) (m := m) (P := 158) (j := 16) d7 rfl))]
  refine mw_go mu_g345 (k := 2) (f1 := (115, [(2, .inl (0 : Int32)), (1, .inl (nI t1)), (0, .inr (.inr (some 158)))], [.inl (mu_i Q7 158 11), .inl (nI (a0 + 1))], Q7)) (C := [mu_is Q7 (some 158) 8]) rfl (show mu_is Q7 (some 158) 8 from (u7.1.1.is rfl)) ?_
  rw [(show mu_i Q7 158 11 = (nI cn) from (ud_i (U := (upI (upI U 158 13 sv) 158 16 (nI (a0 + 1)))) (m := m) (P := 158) (j := 11) d7 rfl).trans hcn)]
  refine mw_if (P := (nI (a0 + 1)) < (nI cn)) (a := 126) (b := 118) (fun _ => rfl) trivial (fun h9 => ?_) (fun h9 => absurd ((nI_ltI (by omega) (by omega)).mpr (by omega)) h9)
  refine mw_go mu_g345 (k := 2) (f1 := (130, [(2, .inl (0 : Int32)), (1, .inl (nI t1)), (0, .inr (.inr (some 158)))], [.inr (.inr (mu_r Q7 158 1))], Q7)) (C := [mu_is Q7 (some 158) 8]) rfl (show mu_is Q7 (some 158) 8 from (u7.1.1.is rfl)) ?_
  rw [(u7.1.1.r (p := 158) (j := 1) (q := 147) rfl)]
  refine mw_go mu_g345 (k := 2) (f1 := (134, [(2, .inl (0 : Int32)), (1, .inl (nI t1)), (0, .inr (.inr (some 158)))], [.inr (.inr (mu_r Q7 158 9)), .inr (.inr (some 147))], Q7)) (C := [mu_is Q7 (some 158) 8]) rfl (show mu_is Q7 (some 158) 8 from (u7.1.1.is rfl)) ?_
  rw [(u7.1.1.r (p := 158) (j := 9) (q := 166) rfl)]
  refine mw_go mu_g345 (k := 2) (f1 := (138, [(2, .inl (0 : Int32)), (1, .inl (nI t1)), (0, .inr (.inr (some 158)))], [.inl (mu_i Q7 158 16), .inr (.inr (some 166)), .inr (.inr (some 147))], Q7)) (C := [mu_is Q7 (some 158) 8]) rfl (show mu_is Q7 (some 158) 8 from (u7.1.1.is rfl)) ?_
  rw [(show mu_i Q7 158 16 = (nI (a0 + 1)) from (ud_i (U := (upI (upI U 158 13 sv) 158 16 (nI (a0 + 1)))) (m := m) (P := 158) (j := 16) d7 rfl))]
  refine mw_go mu_g345 (k := 1) (f1 := (139, [(2, .inl (0 : Int32)), (1, .inl (nI t1)), (0, .inr (.inr (some 158)))], [.inl (mu_i Q7 166 (nI (a0 + 1)).toNatClampNeg), .inr (.inr (some 147))], Q7)) (C := [mu_isr Q7 (some 166) 100, vp_in (nI (a0 + 1)) (mu_n Q7 166)]) rfl (show (mu_isr Q7 (some 166) 100) ∧ (vp_in (nI (a0 + 1)) (mu_n Q7 166)) from ⟨((u7.iA d7 rfl rfl ((ud_q (m := m) (P := 158) (j := 9) d7 rfl).symm.trans (u7.1.1.r (p := 158) (j := 9) (q := 166) rfl)))).r, (by rw [show mu_n Q7 166 = 2000 from (u7.1.1.a (p := 166) (x := (100, 2000)) rfl).2]; exact vp_in_nI (n := a0 + 1) (by omega) (by decide))⟩) ?_
  rw [(show (mu_i Q7 166 (nI (a0 + 1)).toNatClampNeg) = (nI t1) from ((congrArg (mu_i Q7 166) (show (nI (a0 + 1)).toNatClampNeg = a0 + 1 from nI_clamp (by omega))).trans (u7.gA d7 rfl rfl ((ud_q (m := m) (P := 158) (j := 9) d7 rfl).symm.trans (u7.1.1.r (p := 158) (j := 9) (q := 166) rfl)))).trans ((congrArg (fun z => z.2 (a0 + 1)) (show (upI (upI U 158 13 sv) 158 16 (nI (a0 + 1))).2.2.1 158 9 = (U.2.2.1 158 9) from rfl)).trans hsh))]
  refine mw_cV (fun _ => rfl) (show mu_is Q7 (some 147) 2 from (u7.1.1.is rfl)) (gr_fetch (d := d) (C := C) (s := t1) u7 d7 h6 h6b) (fun Q10 q10 => ?_)
  obtain ⟨u10, r10, d10⟩ := q10
  have ht10 : ur m C H Q10 := ht7.trans r10
  exact mw_of (fun _ => mu_ret rfl trivial ⟨Q10, rfl, u10, ht10, d10⟩)
theorem pr_watch2 (h : um m H) (e : ud m H = U) (hat : U.2.1 158 16 = nI a0) (hcn : U.2.1 158 11 = nI cn) (hcb : cn ≤ 2000) (hsv : U.2.1 158 13 = sv) (ha : a0 + 1 = cn) (hlp : U.2.1 158 12 = nI lp) (hlc : lp < cn) (hsh : (U.2.2.1 158 9).2 lp = nI t1) (ht1 : t1 < 16384) (hbit : bts (U.2.2.2.2.1 146) t1 = true) : mu_TV (mu_D (d + 2)) 345 [.inr (.inr (some 158))] H (fun H1 => um m H1 ∧ ur m C H H1 ∧ ud m H1 = (upI (upI (upI U 158 13 sv) 158 16 (nI (a0 + 1))) 158 14 (0 : Int32))) := by
  refine mu_meth (M := mu_m345) rfl rfl ?_
  refine mw_ht (mu_fn_of (show [0].Nodup by decide)) ?_
  refine mw_go mu_g345 (k := 2) (f1 := (4, [(0, .inr (.inr (some 158)))], [.inl (mu_i H 158 16)], H)) (C := [mu_is H (some 158) 8]) rfl (show mu_is H (some 158) 8 from (h.1.1.is rfl)) ?_
  rw [(show mu_i H 158 16 = (nI a0) from (ud_i (U := U) (m := m) (P := 158) (j := 16) e rfl).trans hat)]
  refine mw_go mu_g345 (k := 2) (f1 := (6, [(0, .inr (.inr (some 158)))], [.inl ((nI a0) + (1 : Int32))], H)) (C := []) rfl trivial ?_
  rw [(show ((nI a0) + (1 : Int32)) = (nI (a0 + 1)) from (nI_add a0 1))]
  refine mw_go mu_g345 (k := 2) (f1 := (10, [(0, .inr (.inr (some 158)))], [.inl (mu_i H 158 11), .inl (nI (a0 + 1))], H)) (C := [mu_is H (some 158) 8]) rfl (show mu_is H (some 158) 8 from (h.1.1.is rfl)) ?_
  rw [(show mu_i H 158 11 = (nI cn) from (ud_i (U := U) (m := m) (P := 158) (j := 11) e rfl).trans hcn)]
  refine mw_if (P := (nI (a0 + 1)) < (nI cn)) (a := 13) (b := 27) (fun _ => rfl) trivial (fun h1 => absurd h1 (fun z => absurd ((nI_ltI (by omega) (by omega)).mp z) (by omega))) (fun h1 => ?_)
  refine mw_go mu_g345 (k := 2) (f1 := (31, [(0, .inr (.inr (some 158)))], [.inl (mu_i H 158 12)], H)) (C := [mu_is H (some 158) 8]) rfl (show mu_is H (some 158) 8 from (h.1.1.is rfl)) ?_
  rw [(show mu_i H 158 12 = (nI lp) from (ud_i (U := U) (m := m) (P := 158) (j := 12) e rfl).trans hlp)]
  refine mw_if (P := (nI lp) < 0) (a := 46) (b := 34) (fun _ => rfl) trivial (fun h2 => absurd h2 (nI_pos (by omega))) (fun h2 => ?_)
  refine mw_go mu_g345 (k := 2) (f1 := (38, [(0, .inr (.inr (some 158)))], [.inr (.inr (mu_r H 158 9))], H)) (C := [mu_is H (some 158) 8]) rfl (show mu_is H (some 158) 8 from (h.1.1.is rfl)) ?_
  rw [(h.1.1.r (p := 158) (j := 9) (q := 166) rfl)]
  refine mw_go mu_g345 (k := 2) (f1 := (42, [(0, .inr (.inr (some 158)))], [.inl (mu_i H 158 12), .inr (.inr (some 166))], H)) (C := [mu_is H (some 158) 8]) rfl (show mu_is H (some 158) 8 from (h.1.1.is rfl)) ?_
  rw [(show mu_i H 158 12 = (nI lp) from (ud_i (U := U) (m := m) (P := 158) (j := 12) e rfl).trans hlp)]
  refine mw_go mu_g345 (k := 1) (f1 := (43, [(0, .inr (.inr (some 158)))], [.inl (mu_i H 166 (nI lp).toNatClampNeg)], H)) (C := [mu_isr H (some 166) 100, vp_in (nI lp) (mu_n H 166)]) rfl (show (mu_isr H (some 166) 100) ∧ (vp_in (nI lp) (mu_n H 166)) from ⟨((h.iA e rfl rfl ((ud_q (m := m) (P := 158) (j := 9) e rfl).symm.trans (h.1.1.r (p := 158) (j := 9) (q := 166) rfl)))).r, (by rw [show mu_n H 166 = 2000 from (h.1.1.a (p := 166) (x := (100, 2000)) rfl).2]; exact vp_in_nI (n := lp) (by omega) (by decide))⟩) ?_
  rw [(show (mu_i H 166 (nI lp).toNatClampNeg) = (nI t1) from ((congrArg (mu_i H 166) (show (nI lp).toNatClampNeg = lp from nI_clamp (by omega))).trans (h.gA e rfl rfl ((ud_q (m := m) (P := 158) (j := 9) e rfl).symm.trans (h.1.1.r (p := 158) (j := 9) (q := 166) rfl)))).trans ((congrArg (fun z => z.2 lp) (show U.2.2.1 158 9 = (U.2.2.1 158 9) from rfl)).trans hsh))]
  refine mw_go mu_g345 (k := 3) (f1 := (49, [(1, .inl (nI t1)), (0, .inr (.inr (some 158)))], [.inl (nI t1)], H)) (C := []) rfl trivial ?_
  refine mw_if (P := (nI t1) < 0) (a := 73) (b := 52) (fun _ => rfl) trivial (fun h3 => absurd h3 (nI_pos (by omega))) (fun h3 => ?_)
  refine mw_go mu_g345 (k := 2) (f1 := (56, [(1, .inl (nI t1)), (0, .inr (.inr (some 158)))], [.inr (.inr (mu_r H 158 1))], H)) (C := [mu_is H (some 158) 8]) rfl (show mu_is H (some 158) 8 from (h.1.1.is rfl)) ?_
  rw [(h.1.1.r (p := 158) (j := 1) (q := 147) rfl)]
  refine mw_go mu_g345 (k := 1) (f1 := (59, [(1, .inl (nI t1)), (0, .inr (.inr (some 158)))], [.inr (.inr (mu_r H 147 1))], H)) (C := [mu_is H (some 147) 2]) rfl (show mu_is H (some 147) 2 from (h.1.1.is rfl)) ?_
  rw [(h.1.1.r (p := 147) (j := 1) (q := 129) rfl)]
  refine mw_go mu_g345 (k := 1) (f1 := (62, [(1, .inl (nI t1)), (0, .inr (.inr (some 158)))], [.inr (.inr (mu_r H 129 18))], H)) (C := [mu_is H (some 129) 9]) rfl (show mu_is H (some 129) 9 from (h.1.1.is rfl)) ?_
  rw [(h.1.1.r (p := 129) (j := 18) (q := 146) rfl)]
  refine mw_go mu_g345 (k := 1) (f1 := (63, [(1, .inl (nI t1)), (0, .inr (.inr (some 158)))], [.inl (nI t1), .inr (.inr (some 146))], H)) (C := []) rfl trivial ?_
  refine mw_cIe (fun _ => rfl) trivial ((pv_has_146 (d := d) (k := t1) h e (by omega)).imp (fun x H1 q => ⟨q.1.trans (if_pos hbit), q.2⟩)) ?_
  refine mw_if (P := (1 : Int32) = 0) (a := 69) (b := 73) (fun _ => rfl) trivial (fun h5 => absurd h5 (by decide)) (fun h5 => ?_)
  refine mw_go mu_g345 (k := 5) (f1 := (80, [(2, .inl (0 : Int32)), (1, .inl (nI t1)), (0, .inr (.inr (some 158)))], [.inl (mu_i H 158 13), .inr (.inr (some 158))], H)) (C := [mu_is H (some 158) 8]) rfl (show mu_is H (some 158) 8 from (h.1.1.is rfl)) ?_
  rw [(show mu_i H 158 13 = sv from (ud_i (U := U) (m := m) (P := 158) (j := 13) e rfl).trans hsv)]
  refine mw_go mu_g345 (k := 1) (f1 := (81, [(2, .inl (0 : Int32)), (1, .inl (nI t1)), (0, .inr (.inr (some 158)))], [.inl (0 : Int32), .inl sv, .inr (.inr (some 158))], H)) (C := []) rfl trivial ?_
  refine mw_if (P := (0 : Int32) = 0) (a := 88) (b := 84) (fun _ => rfl) trivial (fun h6 => ?_) (fun h6 => absurd rfl h6)
  refine mw_go mu_g345 (k := 2) (f1 := (90, [(2, .inl (0 : Int32)), (1, .inl (nI t1)), (0, .inr (.inr (some 158)))], [.inl (sv + (0 : Int32)), .inr (.inr (some 158))], H)) (C := []) rfl trivial ?_
  rw [show (sv + (0 : Int32)) = sv from Int32.add_zero sv]
  refine mw_go mu_g345 (k := 1) (f1 := (93, [(2, .inl (0 : Int32)), (1, .inl (nI t1)), (0, .inr (.inr (some 158)))], [], (mu_si H 158 13 sv))) (C := [mu_is H (some 158) 8]) rfl (show mu_is H (some 158) 8 from (h.1.1.is rfl)) ?_
  obtain ⟨u7, r7, d7⟩ : um m (mu_si H 158 13 sv) ∧ ur m C H (mu_si H 158 13 sv) ∧ ud m (mu_si H 158 13 sv) = (upI U 158 13 sv) := h.sI (C := C) e rfl
  generalize (mu_si H 158 13 sv) = Q7 at u7 r7 d7 ⊢
  have ht7 : ur m C H Q7 := (ur.refl m C H).trans r7
  refine mw_go mu_g345 (k := 3) (f1 := (98, [(2, .inl (0 : Int32)), (1, .inl (nI t1)), (0, .inr (.inr (some 158)))], [.inl (mu_i Q7 158 16), .inr (.inr (some 158))], Q7)) (C := [mu_is Q7 (some 158) 8]) rfl (show mu_is Q7 (some 158) 8 from (u7.1.1.is rfl)) ?_
  rw [(show mu_i Q7 158 16 = (nI a0) from (ud_i (U := (upI U 158 13 sv)) (m := m) (P := 158) (j := 16) d7 rfl).trans hat)]
  refine mw_go mu_g345 (k := 2) (f1 := (100, [(2, .inl (0 : Int32)), (1, .inl (nI t1)), (0, .inr (.inr (some 158)))], [.inl ((nI a0) + (1 : Int32)), .inr (.inr (some 158))], Q7)) (C := []) rfl trivial ?_
  rw [(show ((nI a0) + (1 : Int32)) = (nI (a0 + 1)) from (nI_add a0 1))]
  refine mw_go mu_g345 (k := 1) (f1 := (103, [(2, .inl (0 : Int32)), (1, .inl (nI t1)), (0, .inr (.inr (some 158)))], [], (mu_si Q7 158 16 (nI (a0 + 1))))) (C := [mu_is Q7 (some 158) 8]) rfl (show mu_is Q7 (some 158) 8 from (u7.1.1.is rfl)) ?_
  obtain ⟨u8, r8, d8⟩ : um m (mu_si Q7 158 16 (nI (a0 + 1))) ∧ ur m C Q7 (mu_si Q7 158 16 (nI (a0 + 1))) ∧ ud m (mu_si Q7 158 16 (nI (a0 + 1))) = (upI (upI U 158 13 sv) 158 16 (nI (a0 + 1))) := u7.sI (C := C) d7 rfl
  generalize (mu_si Q7 158 16 (nI (a0 + 1))) = Q8 at u8 r8 d8 ⊢
  have ht8 : ur m C H Q8 := ht7.trans r8
  refine mw_go mu_g345 (k := 1) (f1 := (104, [(2, .inl (0 : Int32)), (1, .inl (nI t1)), (0, .inr (.inr (some 158)))], [.inl (0 : Int32)], Q8)) (C := []) rfl trivial ?_
  refine mw_if (P := (0 : Int32) = 0) (a := 107) (b := 118) (fun _ => rfl) trivial (fun h9 => ?_) (fun h9 => absurd rfl h9)
  refine mw_go mu_g345 (k := 2) (f1 := (111, [(2, .inl (0 : Int32)), (1, .inl (nI t1)), (0, .inr (.inr (some 158)))], [.inl (mu_i Q8 158 16)], Q8)) (C := [mu_is Q8 (some 158) 8]) rfl (show mu_is Q8 (some 158) 8 from (u8.1.1.is rfl)) ?_
  rw [(show mu_i Q8 158 16 = (nI (a0 + 1)) from (ud_i (U := (upI (upI U 158 13 sv) 158 16 (nI (a0 + 1)))) (m := m) (P := 158) (j := 16) d8 rfl))]
  refine mw_go mu_g345 (k := 2) (f1 := (115, [(2, .inl (0 : Int32)), (1, .inl (nI t1)), (0, .inr (.inr (some 158)))], [.inl (mu_i Q8 158 11), .inl (nI (a0 + 1))], Q8)) (C := [mu_is Q8 (some 158) 8]) rfl (show mu_is Q8 (some 158) 8 from (u8.1.1.is rfl)) ?_
  rw [(show mu_i Q8 158 11 = (nI cn) from (ud_i (U := (upI (upI U 158 13 sv) 158 16 (nI (a0 + 1)))) (m := m) (P := 158) (j := 11) d8 rfl).trans hcn)]
  refine mw_if (P := (nI (a0 + 1)) < (nI cn)) (a := 126) (b := 118) (fun _ => rfl) trivial (fun h10 => absurd h10 (fun z => absurd ((nI_ltI (by omega) (by omega)).mp z) (by omega))) (fun h10 => ?_)
  refine mw_go mu_g345 (k := 3) (f1 := (123, [(2, .inl (0 : Int32)), (1, .inl (nI t1)), (0, .inr (.inr (some 158)))], [], (mu_si Q8 158 14 (0 : Int32)))) (C := [mu_is Q8 (some 158) 8]) rfl (show mu_is Q8 (some 158) 8 from (u8.1.1.is rfl)) ?_
  obtain ⟨u11, r11, d11⟩ : um m (mu_si Q8 158 14 (0 : Int32)) ∧ ur m C Q8 (mu_si Q8 158 14 (0 : Int32)) ∧ ud m (mu_si Q8 158 14 (0 : Int32)) = (upI (upI (upI U 158 13 sv) 158 16 (nI (a0 + 1))) 158 14 (0 : Int32)) := u8.sI (C := C) d8 rfl
  generalize (mu_si Q8 158 14 (0 : Int32)) = Q11 at u11 r11 d11 ⊢
  have ht11 : ur m C H Q11 := ht8.trans r11
  refine mw_go mu_g345 (k := 1) (f1 := (142, [(2, .inl (0 : Int32)), (1, .inl (nI t1)), (0, .inr (.inr (some 158)))], [], Q11)) (C := []) rfl trivial ?_
  exact mw_of (fun _ => mu_ret rfl trivial ⟨Q11, rfl, u11, ht11, d11⟩)
theorem pr_watch3 (h : um m H) (e : ud m H = U) (hat : U.2.1 158 16 = nI a0) (hcn : U.2.1 158 11 = nI cn) (hcb : cn ≤ 2000) (hsv : U.2.1 158 13 = sv) (ha : a0 + 1 = cn) (hlp : U.2.1 158 12 = -1) : mu_TV (mu_D (d + 2)) 345 [.inr (.inr (some 158))] H (fun H1 => um m H1 ∧ ur m C H H1 ∧ ud m H1 = (upI (upI (upI U 158 13 sv) 158 16 (nI (a0 + 1))) 158 14 (0 : Int32))) := by
  refine mu_meth (M := mu_m345) rfl rfl ?_
  refine mw_ht (mu_fn_of (show [0].Nodup by decide)) ?_
  refine mw_go mu_g345 (k := 2) (f1 := (4, [(0, .inr (.inr (some 158)))], [.inl (mu_i H 158 16)], H)) (C := [mu_is H (some 158) 8]) rfl (show mu_is H (some 158) 8 from (h.1.1.is rfl)) ?_
  rw [(show mu_i H 158 16 = (nI a0) from (ud_i (U := U) (m := m) (P := 158) (j := 16) e rfl).trans hat)]
  refine mw_go mu_g345 (k := 2) (f1 := (6, [(0, .inr (.inr (some 158)))], [.inl ((nI a0) + (1 : Int32))], H)) (C := []) rfl trivial ?_
  rw [(show ((nI a0) + (1 : Int32)) = (nI (a0 + 1)) from (nI_add a0 1))]
  refine mw_go mu_g345 (k := 2) (f1 := (10, [(0, .inr (.inr (some 158)))], [.inl (mu_i H 158 11), .inl (nI (a0 + 1))], H)) (C := [mu_is H (some 158) 8]) rfl (show mu_is H (some 158) 8 from (h.1.1.is rfl)) ?_
  rw [(show mu_i H 158 11 = (nI cn) from (ud_i (U := U) (m := m) (P := 158) (j := 11) e rfl).trans hcn)]
  refine mw_if (P := (nI (a0 + 1)) < (nI cn)) (a := 13) (b := 27) (fun _ => rfl) trivial (fun h1 => absurd h1 (fun z => absurd ((nI_ltI (by omega) (by omega)).mp z) (by omega))) (fun h1 => ?_)
  refine mw_go mu_g345 (k := 2) (f1 := (31, [(0, .inr (.inr (some 158)))], [.inl (mu_i H 158 12)], H)) (C := [mu_is H (some 158) 8]) rfl (show mu_is H (some 158) 8 from (h.1.1.is rfl)) ?_
  rw [(show mu_i H 158 12 = (-1 : Int32) from (ud_i (U := U) (m := m) (P := 158) (j := 12) e rfl).trans hlp)]
  refine mw_if (P := (-1 : Int32) < 0) (a := 46) (b := 34) (fun _ => rfl) trivial (fun h2 => ?_) (fun h2 => absurd (by decide) h2)
  refine mw_go mu_g345 (k := 3) (f1 := (49, [(1, .inl (-1 : Int32)), (0, .inr (.inr (some 158)))], [.inl (-1 : Int32)], H)) (C := []) rfl trivial ?_
  refine mw_if (P := (-1 : Int32) < 0) (a := 73) (b := 52) (fun _ => rfl) trivial (fun h3 => ?_) (fun h3 => absurd (by decide) h3)
  refine mw_go mu_g345 (k := 5) (f1 := (80, [(2, .inl (0 : Int32)), (1, .inl (-1 : Int32)), (0, .inr (.inr (some 158)))], [.inl (mu_i H 158 13), .inr (.inr (some 158))], H)) (C := [mu_is H (some 158) 8]) rfl (show mu_is H (some 158) 8 from (h.1.1.is rfl)) ?_
  rw [(show mu_i H 158 13 = sv from (ud_i (U := U) (m := m) (P := 158) (j := 13) e rfl).trans hsv)]
  refine mw_go mu_g345 (k := 1) (f1 := (81, [(2, .inl (0 : Int32)), (1, .inl (-1 : Int32)), (0, .inr (.inr (some 158)))], [.inl (0 : Int32), .inl sv, .inr (.inr (some 158))], H)) (C := []) rfl trivial ?_
  refine mw_if (P := (0 : Int32) = 0) (a := 88) (b := 84) (fun _ => rfl) trivial (fun h4 => ?_) (fun h4 => absurd rfl h4)
  refine mw_go mu_g345 (k := 2) (f1 := (90, [(2, .inl (0 : Int32)), (1, .inl (-1 : Int32)), (0, .inr (.inr (some 158)))], [.inl (sv + (0 : Int32)), .inr (.inr (some 158))], H)) (C := []) rfl trivial ?_
  rw [show (sv + (0 : Int32)) = sv from Int32.add_zero sv]
  refine mw_go mu_g345 (k := 1) (f1 := (93, [(2, .inl (0 : Int32)), (1, .inl (-1 : Int32)), (0, .inr (.inr (some 158)))], [], (mu_si H 158 13 sv))) (C := [mu_is H (some 158) 8]) rfl (show mu_is H (some 158) 8 from (h.1.1.is rfl)) ?_
  obtain ⟨u5, r5, d5⟩ : um m (mu_si H 158 13 sv) ∧ ur m C H (mu_si H 158 13 sv) ∧ ud m (mu_si H 158 13 sv) = (upI U 158 13 sv) := h.sI (C := C) e rfl
  generalize (mu_si H 158 13 sv) = Q5 at u5 r5 d5 ⊢
  have ht5 : ur m C H Q5 := (ur.refl m C H).trans r5
  refine mw_go mu_g345 (k := 3) (f1 := (98, [(2, .inl (0 : Int32)), (1, .inl (-1 : Int32)), (0, .inr (.inr (some 158)))], [.inl (mu_i Q5 158 16), .inr (.inr (some 158))], Q5)) (C := [mu_is Q5 (some 158) 8]) rfl (show mu_is Q5 (some 158) 8 from (u5.1.1.is rfl)) ?_
  rw [(show mu_i Q5 158 16 = (nI a0) from (ud_i (U := (upI U 158 13 sv)) (m := m) (P := 158) (j := 16) d5 rfl).trans hat)]
  refine mw_go mu_g345 (k := 2) (f1 := (100, [(2, .inl (0 : Int32)), (1, .inl (-1 : Int32)), (0, .inr (.inr (some 158)))], [.inl ((nI a0) + (1 : Int32)), .inr (.inr (some 158))], Q5)) (C := []) rfl trivial ?_
  rw [(show ((nI a0) + (1 : Int32)) = (nI (a0 + 1)) from (nI_add a0 1))]
  refine mw_go mu_g345 (k := 1) (f1 := (103, [(2, .inl (0 : Int32)), (1, .inl (-1 : Int32)), (0, .inr (.inr (some 158)))], [], (mu_si Q5 158 16 (nI (a0 + 1))))) (C := [mu_is Q5 (some 158) 8]) rfl (show mu_is Q5 (some 158) 8 from (u5.1.1.is rfl)) ?_
  obtain ⟨u6, r6, d6⟩ : um m (mu_si Q5 158 16 (nI (a0 + 1))) ∧ ur m C Q5 (mu_si Q5 158 16 (nI (a0 + 1))) ∧ ud m (mu_si Q5 158 16 (nI (a0 + 1))) = (upI (upI U 158 13 sv) 158 16 (nI (a0 + 1))) := u5.sI (C := C) d5 rfl
  generalize (mu_si Q5 158 16 (nI (a0 + 1))) = Q6 at u6 r6 d6 ⊢
  have ht6 : ur m C H Q6 := ht5.trans r6
  refine mw_go mu_g345 (k := 1) (f1 := (104, [(2, .inl (0 : Int32)), (1, .inl (-1 : Int32)), (0, .inr (.inr (some 158)))], [.inl (0 : Int32)], Q6)) (C := []) rfl trivial ?_
  refine mw_if (P := (0 : Int32) = 0) (a := 107) (b := 118) (fun _ => rfl) trivial (fun h7 => ?_) (fun h7 => absurd rfl h7)
  refine mw_go mu_g345 (k := 2) (f1 := (111, [(2, .inl (0 : Int32)), (1, .inl (-1 : Int32)), (0, .inr (.inr (some 158)))], [.inl (mu_i Q6 158 16)], Q6)) (C := [mu_is Q6 (some 158) 8]) rfl (show mu_is Q6 (some 158) 8 from (u6.1.1.is rfl)) ?_
  rw [(show mu_i Q6 158 16 = (nI (a0 + 1)) from (ud_i (U := (upI (upI U 158 13 sv) 158 16 (nI (a0 + 1)))) (m := m) (P := 158) (j := 16) d6 rfl))]
  refine mw_go mu_g345 (k := 2) (f1 := (115, [(2, .inl (0 : Int32)), (1, .inl (-1 : Int32)), (0, .inr (.inr (some 158)))], [.inl (mu_i Q6 158 11), .inl (nI (a0 + 1))], Q6)) (C := [mu_is Q6 (some 158) 8]) rfl (show mu_is Q6 (some 158) 8 from (u6.1.1.is rfl)) ?_
  rw [(show mu_i Q6 158 11 = (nI cn) from (ud_i (U := (upI (upI U 158 13 sv) 158 16 (nI (a0 + 1)))) (m := m) (P := 158) (j := 11) d6 rfl).trans hcn)]
  refine mw_if (P := (nI (a0 + 1)) < (nI cn)) (a := 126) (b := 118) (fun _ => rfl) trivial (fun h8 => absurd h8 (fun z => absurd ((nI_ltI (by omega) (by omega)).mp z) (by omega))) (fun h8 => ?_)
  refine mw_go mu_g345 (k := 3) (f1 := (123, [(2, .inl (0 : Int32)), (1, .inl (-1 : Int32)), (0, .inr (.inr (some 158)))], [], (mu_si Q6 158 14 (0 : Int32)))) (C := [mu_is Q6 (some 158) 8]) rfl (show mu_is Q6 (some 158) 8 from (u6.1.1.is rfl)) ?_
  obtain ⟨u9, r9, d9⟩ : um m (mu_si Q6 158 14 (0 : Int32)) ∧ ur m C Q6 (mu_si Q6 158 14 (0 : Int32)) ∧ ud m (mu_si Q6 158 14 (0 : Int32)) = (upI (upI (upI U 158 13 sv) 158 16 (nI (a0 + 1))) 158 14 (0 : Int32)) := u6.sI (C := C) d6 rfl
  generalize (mu_si Q6 158 14 (0 : Int32)) = Q9 at u9 r9 d9 ⊢
  have ht9 : ur m C H Q9 := ht6.trans r9
  refine mw_go mu_g345 (k := 1) (f1 := (142, [(2, .inl (0 : Int32)), (1, .inl (-1 : Int32)), (0, .inr (.inr (some 158)))], [], Q9)) (C := []) rfl trivial ?_
  exact mw_of (fun _ => mu_ret rfl trivial ⟨Q9, rfl, u9, ht9, d9⟩)
end Watch
