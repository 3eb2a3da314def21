/-! PROVER: what is sought to show a SPEC -/
/-- from here a SPEC can be shown -/
def STS (U : Ud) (sp o s : Nat) : Prop := bts (U.2.2.2.2.1 125) s = true ∧ ¬ (bts (lgf U 163 (sp % 64)) s = true ↔ (13 ≤ o ∧ o ≤ 15))
section Show
variable {H : mu_H} {U : Ud} {m d a n j i0 sp o lst T L gq q0 tc bg s0 at0 sc : Nat} {C : Nat → Nat} {Y : Ts} {w : Nat → Nat}
/-- PathProver$Prover.seekGoal(I)V -/
abbrev mu_m366 : ev_M := (5, none, [], ev_b366)
theorem mu_g366 : mu_good mu_m366 := mu_goodk ev_k366
theorem pr_goalU (h : um m H) (e : ud m H = U) (hmo : U.2.2.2.1 99 0 = some m) (hsp : sp < 2147483648) (h171 : (U.1 17).2 sp 1 = nI (lst + 1)) (hlb : lst < 2147483646) (hou : (U.1 0).2 lst 0 = nI o) (ho34 : o ≤ 34) (h170 : (U.1 17).2 sp 0 = nI a) (h172 : (U.1 17).2 sp 2 = nI i0) (hj0 : U.1 0 = Y 0) (hC : Cc Y) (hv : ∀ q, q < n → plen (oc Y (a + q)) (oa Y (a + q)) ≤ tpz Y a q) (hb : a + n ≤ (Y 0).1) (hb2 : (Y 0).1 ≤ 16777216) (htn : 1 ≤ tpz Y a n) (hj1 : j < n) (hj2 : tpz Y a j + 1 = tpz Y a n) (hj3 : ∀ q, j < q → q ≤ n → tpz Y a n ≤ tpz Y a q) (hla : lst = a + n) (ho28 : o = 28) : mu_TV (mu_D (d + 5)) 366 [.inr (.inr (some 158)), .inl (nI sp)] H (fun H1 => um m H1 ∧ ur m C H H1 ∧ ud m H1 = sekU U (nI (a + j)) (nI lst) (nI i0) 0) := by
  refine mu_meth (M := mu_m366) rfl rfl ?_
  refine mw_ht (mu_fn_of (show [0, 1].Nodup by decide)) ?_
  refine mw_go mu_g366 (k := 2) (f1 := (4, [(0, .inr (.inr (some 158))), (1, .inl (nI sp))], [.inr (.inr (mu_r H 158 0))], H)) (C := [mu_is H (some 158) 8]) rfl (show mu_is H (some 158) 8 from (h.1.1.is rfl)) ?_
  rw [(h.1.1.r (p := 158) (j := 0) (q := 99) rfl)]
  refine mw_go mu_g366 (k := 1) (f1 := (7, [(0, .inr (.inr (some 158))), (1, .inl (nI sp))], [.inr (.inr (mu_r H 99 0))], H)) (C := [mu_is H (some 99) 13]) rfl (show mu_is H (some 99) 13 from (h.1.1.is rfl)) ?_
  rw [(show mu_r H 99 0 = (some m) from (ud_q (U := U) (m := m) (P := 99) (j := 0) e rfl).trans hmo)]
  refine mw_go mu_g366 (k := 3) (f1 := (12, [(2, .inr (.inr (some m))), (0, .inr (.inr (some 158))), (1, .inl (nI sp))], [.inr (.inr (mu_r H m 17))], H)) (C := [mu_is H (some m) 6]) rfl (show mu_is H (some m) 6 from (show mu_is H (some m) 6 from gi_im h.1.1 h.2)) ?_
  rw [(show mu_r H m 17 = some (m + 35) from (gi_mr h.1.1 h.2 (j := 17) (by decide)).trans (congrArg some (by omega)))]
  refine mw_go mu_g366 (k := 2) (f1 := (14, [(2, .inr (.inr (some m))), (0, .inr (.inr (some 158))), (1, .inl (nI sp))], [.inl (1 : Int32), .inl (nI sp), .inr (.inr (some (m + 35)))], H)) (C := []) rfl trivial ?_
  refine mw_cIe (fun _ => rfl) (show mu_is H (some (m + 35)) 10 from ((h.1.1.w (md_w17 h.2)).1)) (h.getr (d := (d + 3)) e (j := 17) (by decide) rfl (nI sp) (c := 1) (by decide)) ?_
  rw [show (tget (U.1 17) (nI sp) 1) = (nI (lst + 1)) from ((congrArg (fun z => tget z (nI sp) 1) (show U.1 17 = (U.1 17) from rfl)).trans (tget_nI (by first | omega | decide))).trans h171]
  refine mw_go mu_g366 (k := 2) (f1 := (19, [(2, .inr (.inr (some m))), (0, .inr (.inr (some 158))), (1, .inl (nI sp))], [.inl ((nI (lst + 1)) - (1 : Int32))], H)) (C := []) rfl trivial ?_
  rw [(show ((nI (lst + 1)) - (1 : Int32)) = (nI ((lst + 1) - 1)) from (nI_sub (a := lst + 1) (b := 1) (by omega)))]
  rw [show (nI ((lst + 1) - 1)) = nI lst from rfl]
  refine mw_go mu_g366 (k := 3) (f1 := (22, [(3, .inl (nI lst)), (2, .inr (.inr (some m))), (0, .inr (.inr (some 158))), (1, .inl (nI sp))], [.inl (nI sp), .inr (.inr (some 158))], H)) (C := []) rfl trivial ?_
  refine mw_cIe (fun _ => rfl) (show mu_is H (some 158) 8 from (h.1.1.is rfl)) (pr_outer (d := (d + 2)) (i := sp) (to := lst + 1) h e hmo hsp h171 (by omega) (by omega)) ?_
  rw [show ((U.1 0).2 (lst + 1 - 1) 0) = nI o from hou]
  refine mw_go mu_g366 (k := 1) (f1 := (27, [(3, .inl (nI lst)), (2, .inr (.inr (some m))), (0, .inr (.inr (some 158))), (1, .inl (nI sp))], [.inl (28 : Int32), .inl (nI o)], H)) (C := []) rfl trivial ?_
  refine mw_if (P := (nI o) = (28 : Int32)) (a := 30) (b := 40) (fun _ => rfl) trivial (fun h3 => ?_) (fun h3 => absurd (show nI o = (28 : Int32) from by rw [ho28]; rfl) h3)
  refine mw_go mu_g366 (k := 4) (f1 := (34, [(3, .inl (nI lst)), (2, .inr (.inr (some m))), (0, .inr (.inr (some 158))), (1, .inl (nI sp))], [.inl ((nI lst) - (1 : Int32)), .inr (.inr (some m))], H)) (C := []) rfl trivial ?_
  rw [(show ((nI lst) - (1 : Int32)) = (nI (lst - 1)) from (nI_sub (a := lst) (b := 1) (by omega)))]
  rw [show (nI (lst - 1)) = nI (a + n - 1) from by rw [hla]]
  refine mw_cIe (fun _ => rfl) (show mu_is H (some m) 6 from (show mu_is H (some m) 6 from gi_im h.1.1 h.2)) (um_start (d := (d + 2)) (Y := Y) (a := a) (n := n) (j := j) h e hj0 hC hv hb hb2 htn hj1 hj2 hj3) ?_
  refine mw_go mu_g366 (k := 7) (f1 := (59, [(4, .inl (nI (a + j))), (3, .inl (nI lst)), (2, .inr (.inr (some m))), (0, .inr (.inr (some 158))), (1, .inl (nI sp))], [.inr (.inr (mu_r H m 17)), .inl (nI lst), .inl (nI (a + j)), .inr (.inr (some 158))], H)) (C := [mu_is H (some m) 6]) rfl (show mu_is H (some m) 6 from (show mu_is H (some m) 6 from gi_im h.1.1 h.2)) ?_
  rw [(show mu_r H m 17 = some (m + 35) from (gi_mr h.1.1 h.2 (j := 17) (by decide)).trans (congrArg some (by omega)))]
  refine mw_go mu_g366 (k := 2) (f1 := (61, [(4, .inl (nI (a + j))), (3, .inl (nI lst)), (2, .inr (.inr (some m))), (0, .inr (.inr (some 158))), (1, .inl (nI sp))], [.inl (2 : Int32), .inl (nI sp), .inr (.inr (some (m + 35))), .inl (nI lst), .inl (nI (a + j)), .inr (.inr (some 158))], H)) (C := []) rfl trivial ?_
  refine mw_cIe (fun _ => rfl) (show mu_is H (some (m + 35)) 10 from ((h.1.1.w (md_w17 h.2)).1)) (h.getr (d := (d + 3)) e (j := 17) (by decide) rfl (nI sp) (c := 2) (by decide)) ?_
  rw [show (tget (U.1 17) (nI sp) 2) = (nI i0) from ((congrArg (fun z => tget z (nI sp) 2) (show U.1 17 = (U.1 17) from rfl)).trans (tget_nI (by first | omega | decide))).trans h172]
  refine mw_go mu_g366 (k := 1) (f1 := (65, [(4, .inl (nI (a + j))), (3, .inl (nI lst)), (2, .inr (.inr (some m))), (0, .inr (.inr (some 158))), (1, .inl (nI sp))], [.inl (0 : Int32), .inl (nI i0), .inl (nI lst), .inl (nI (a + j)), .inr (.inr (some 158))], H)) (C := []) rfl trivial ?_
  refine mw_cV (fun _ => rfl) (show mu_is H (some 158) 8 from (h.1.1.is rfl)) (pr_seek (d := (d + 2)) (C := C) (x0 := (nI (a + j))) (x1 := (nI lst)) (x2 := (nI i0)) (x3 := (0 : Int32)) h e) (fun Q6 q6 => ?_)
  obtain ⟨u6, r6, d6⟩ := q6
  have ht6 : ur m C H Q6 := (ur.refl m C H).trans r6
  exact mw_of (fun _ => mu_ret rfl trivial ⟨Q6, rfl, u6, ht6, d6⟩)
theorem pr_goal (h : um m H) (e : ud m H = U) (hmo : U.2.2.2.1 99 0 = some m) (hsp : sp < 2147483648) (h171 : (U.1 17).2 sp 1 = nI (lst + 1)) (hlb : lst < 2147483646) (hou : (U.1 0).2 lst 0 = nI o) (ho34 : o ≤ 34) (h170 : (U.1 17).2 sp 0 = nI a) (h172 : (U.1 17).2 sp 2 = nI i0) (ho28 : ¬ o = 28) : mu_TV (mu_D (d + 5)) 366 [.inr (.inr (some 158)), .inl (nI sp)] H (fun H1 => um m H1 ∧ ur m C H H1 ∧ ud m H1 = sekU U (nI a) (nI lst) (nI i0) 0) := by
  refine mu_meth (M := mu_m366) rfl rfl ?_
  refine mw_ht (mu_fn_of (show [0, 1].Nodup by decide)) ?_
  refine mw_go mu_g366 (k := 2) (f1 := (4, [(0, .inr (.inr (some 158))), (1, .inl (nI sp))], [.inr (.inr (mu_r H 158 0))], H)) (C := [mu_is H (some 158) 8]) rfl (show mu_is H (some 158) 8 from (h.1.1.is rfl)) ?_
  rw [(h.1.1.r (p := 158) (j := 0) (q := 99) rfl)]
  refine mw_go mu_g366 (k := 1) (f1 := (7, [(0, .inr (.inr (some 158))), (1, .inl (nI sp))], [.inr (.inr (mu_r H 99 0))], H)) (C := [mu_is H (some 99) 13]) rfl (show mu_is H (some 99) 13 from (h.1.1.is rfl)) ?_
  rw [(show mu_r H 99 0 = (some m) from (ud_q (U := U) (m := m) (P := 99) (j := 0) e rfl).trans hmo)]
  refine mw_go mu_g366 (k := 3) (f1 := (12, [(2, .inr (.inr (some m))), (0, .inr (.inr (some 158))), (1, .inl (nI sp))], [.inr (.inr (mu_r H m 17))], H)) (C := [mu_is H (some m) 6]) rfl (show mu_is H (some m) 6 from (show mu_is H (some m) 6 from gi_im h.1.1 h.2)) ?_
  rw [(show mu_r H m 17 = some (m + 35) from (gi_mr h.1.1 h.2 (j := 17) (by decide)).trans (congrArg some (by omega)))]
  refine mw_go mu_g366 (k := 2) (f1 := (14, [(2, .inr (.inr (some m))), (0, .inr (.inr (some 158))), (1, .inl (nI sp))], [.inl (1 : Int32), .inl (nI sp), .inr (.inr (some (m + 35)))], H)) (C := []) rfl trivial ?_
  refine mw_cIe (fun _ => rfl) (show mu_is H (some (m + 35)) 10 from ((h.1.1.w (md_w17 h.2)).1)) (h.getr (d := (d + 3)) e (j := 17) (by decide) rfl (nI sp) (c := 1) (by decide)) ?_
  rw [show (tget (U.1 17) (nI sp) 1) = (nI (lst + 1)) from ((congrArg (fun z => tget z (nI sp) 1) (show U.1 17 = (U.1 17) from rfl)).trans (tget_nI (by first | omega | decide))).trans h171]
  refine mw_go mu_g366 (k := 2) (f1 := (19, [(2, .inr (.inr (some m))), (0, .inr (.inr (some 158))), (1, .inl (nI sp))], [.inl ((nI (lst + 1)) - (1 : Int32))], H)) (C := []) rfl trivial ?_
  rw [(show ((nI (lst + 1)) - (1 : Int32)) = (nI ((lst + 1) - 1)) from (nI_sub (a := lst + 1) (b := 1) (by omega)))]
  rw [show (nI ((lst + 1) - 1)) = nI lst from rfl]
  refine mw_go mu_g366 (k := 3) (f1 := (22, [(3, .inl (nI lst)), (2, .inr (.inr (some m))), (0, .inr (.inr (some 158))), (1, .inl (nI sp))], [.inl (nI sp), .inr (.inr (some 158))], H)) (C := []) rfl trivial ?_
  refine mw_cIe (fun _ => rfl) (show mu_is H (some 158) 8 from (h.1.1.is rfl)) (pr_outer (d := (d + 2)) (i := sp) (to := lst + 1) h e hmo hsp h171 (by omega) (by omega)) ?_
  rw [show ((U.1 0).2 (lst + 1 - 1) 0) = nI o from hou]
  refine mw_go mu_g366 (k := 1) (f1 := (27, [(3, .inl (nI lst)), (2, .inr (.inr (some m))), (0, .inr (.inr (some 158))), (1, .inl (nI sp))], [.inl (28 : Int32), .inl (nI o)], H)) (C := []) rfl trivial ?_
  refine mw_if (P := (nI o) = (28 : Int32)) (a := 30) (b := 40) (fun _ => rfl) trivial (fun h3 => absurd h3 (fun z => ho28 ((nI_eq (by omega) (by omega)).mp (show nI o = nI 28 from z)))) (fun h3 => ?_)
  refine mw_go mu_g366 (k := 2) (f1 := (44, [(3, .inl (nI lst)), (2, .inr (.inr (some m))), (0, .inr (.inr (some 158))), (1, .inl (nI sp))], [.inr (.inr (mu_r H m 17))], H)) (C := [mu_is H (some m) 6]) rfl (show mu_is H (some m) 6 from (show mu_is H (some m) 6 from gi_im h.1.1 h.2)) ?_
  rw [(show mu_r H m 17 = some (m + 35) from (gi_mr h.1.1 h.2 (j := 17) (by decide)).trans (congrArg some (by omega)))]
  refine mw_go mu_g366 (k := 2) (f1 := (46, [(3, .inl (nI lst)), (2, .inr (.inr (some m))), (0, .inr (.inr (some 158))), (1, .inl (nI sp))], [.inl (0 : Int32), .inl (nI sp), .inr (.inr (some (m + 35)))], H)) (C := []) rfl trivial ?_
  refine mw_cIe (fun _ => rfl) (show mu_is H (some (m + 35)) 10 from ((h.1.1.w (md_w17 h.2)).1)) (h.getr (d := (d + 3)) e (j := 17) (by decide) rfl (nI sp) (c := 0) (by decide)) ?_
  rw [show (tget (U.1 17) (nI sp) 0) = (nI a) from ((congrArg (fun z => tget z (nI sp) 0) (show U.1 17 = (U.1 17) from rfl)).trans (tget_nI (by first | omega | decide))).trans h170]
  refine mw_go mu_g366 (k := 6) (f1 := (59, [(4, .inl (nI a)), (3, .inl (nI lst)), (2, .inr (.inr (some m))), (0, .inr (.inr (some 158))), (1, .inl (nI sp))], [.inr (.inr (mu_r H m 17)), .inl (nI lst), .inl (nI a), .inr (.inr (some 158))], H)) (C := [mu_is H (some m) 6]) rfl (show mu_is H (some m) 6 from (show mu_is H (some m) 6 from gi_im h.1.1 h.2)) ?_
  rw [(show mu_r H m 17 = some (m + 35) from (gi_mr h.1.1 h.2 (j := 17) (by decide)).trans (congrArg some (by omega)))]
  refine mw_go mu_g366 (k := 2) (f1 := (61, [(4, .inl (nI a)), (3, .inl (nI lst)), (2, .inr (.inr (some m))), (0, .inr (.inr (some 158))), (1, .inl (nI sp))], [.inl (2 : Int32), .inl (nI sp), .inr (.inr (some (m + 35))), .inl (nI lst), .inl (nI a), .inr (.inr (some 158))], H)) (C := []) rfl trivial ?_
  refine mw_cIe (fun _ => rfl) (show mu_is H (some (m + 35)) 10 from ((h.1.1.w (md_w17 h.2)).1)) (h.getr (d := (d + 3)) e (j := 17) (by decide) rfl (nI sp) (c := 2) (by decide)) ?_
  rw [show (tget (U.1 17) (nI sp) 2) = (nI i0) from ((congrArg (fun z => tget z (nI sp) 2) (show U.1 17 = (U.1 17) from rfl)).trans (tget_nI (by first | omega | decide))).trans h172]
  refine mw_go mu_g366 (k := 1) (f1 := (65, [(4, .inl (nI a)), (3, .inl (nI lst)), (2, .inr (.inr (some m))), (0, .inr (.inr (some 158))), (1, .inl (nI sp))], [.inl (0 : Int32), .inl (nI i0), .inl (nI lst), .inl (nI a), .inr (.inr (some 158))], H)) (C := []) rfl trivial ?_
  refine mw_cV (fun _ => rfl) (show mu_is H (some 158) 8 from (h.1.1.is rfl)) (pr_seek (d := (d + 2)) (C := C) (x0 := (nI a)) (x1 := (nI lst)) (x2 := (nI i0)) (x3 := (0 : Int32)) h e) (fun Q6 q6 => ?_)
  obtain ⟨u6, r6, d6⟩ := q6
  have ht6 : ur m C H Q6 := (ur.refl m C H).trans r6
  exact mw_of (fun _ => mu_ret rfl trivial ⟨Q6, rfl, u6, ht6, d6⟩)
/-- PathProver$Prover.seekWay(I)V -/
abbrev mu_m367 : ev_M := (4, none, [], ev_b367)
theorem mu_g367 : mu_good mu_m367 := mu_goodk ev_k367
theorem pr_wayU (h : um m H) (e : ud m H = U) (hmo : U.2.2.2.1 99 0 = some m) (hsp : sp < 2147483648) (h171 : (U.1 17).2 sp 1 = nI (lst + 1)) (hlb : lst < 2147483646) (hou : (U.1 0).2 lst 0 = nI o) (ho34 : o ≤ 34) (h170 : (U.1 17).2 sp 0 = nI a) (h172 : (U.1 17).2 sp 2 = nI i0) (hj0 : U.1 0 = Y 0) (hC : Cc Y) (hv : ∀ q, q < n → plen (oc Y (a + q)) (oa Y (a + q)) ≤ tpz Y a q) (hb : a + n ≤ (Y 0).1) (hb2 : (Y 0).1 ≤ 16777216) (htn : 1 ≤ tpz Y a n) (hj1 : j < n) (hj2 : tpz Y a j + 1 = tpz Y a n) (hj3 : ∀ q, j < q → q ≤ n → tpz Y a n ≤ tpz Y a q) (hla : lst = a + n) (ho28 : o = 28) : mu_TV (mu_D (d + 5)) 367 [.inr (.inr (some 158)), .inl (nI sp)] H (fun H1 => um m H1 ∧ ur m C H H1 ∧ ud m H1 = sekU U (nI a) (nI (a + j)) (nI i0) 1) := by
  refine mu_meth (M := mu_m367) rfl rfl ?_
  refine mw_ht (mu_fn_of (show [0, 1].Nodup by decide)) ?_
  refine mw_go mu_g367 (k := 2) (f1 := (4, [(0, .inr (.inr (some 158))), (1, .inl (nI sp))], [.inr (.inr (mu_r H 158 0))], H)) (C := [mu_is H (some 158) 8]) rfl (show mu_is H (some 158) 8 from (h.1.1.is rfl)) ?_
  rw [(h.1.1.r (p := 158) (j := 0) (q := 99) rfl)]
  refine mw_go mu_g367 (k := 1) (f1 := (7, [(0, .inr (.inr (some 158))), (1, .inl (nI sp))], [.inr (.inr (mu_r H 99 0))], H)) (C := [mu_is H (some 99) 13]) rfl (show mu_is H (some 99) 13 from (h.1.1.is rfl)) ?_
  rw [(show mu_r H 99 0 = (some m) from (ud_q (U := U) (m := m) (P := 99) (j := 0) e rfl).trans hmo)]
  refine mw_go mu_g367 (k := 3) (f1 := (12, [(2, .inr (.inr (some m))), (0, .inr (.inr (some 158))), (1, .inl (nI sp))], [.inr (.inr (mu_r H m 17))], H)) (C := [mu_is H (some m) 6]) rfl (show mu_is H (some m) 6 from (show mu_is H (some m) 6 from gi_im h.1.1 h.2)) ?_
  rw [(show mu_r H m 17 = some (m + 35) from (gi_mr h.1.1 h.2 (j := 17) (by decide)).trans (congrArg some (by omega)))]
  refine mw_go mu_g367 (k := 2) (f1 := (14, [(2, .inr (.inr (some m))), (0, .inr (.inr (some 158))), (1, .inl (nI sp))], [.inl (1 : Int32), .inl (nI sp), .inr (.inr (some (m + 35)))], H)) (C := []) rfl trivial ?_
  refine mw_cIe (fun _ => rfl) (show mu_is H (some (m + 35)) 10 from ((h.1.1.w (md_w17 h.2)).1)) (h.getr (d := (d + 3)) e (j := 17) (by decide) rfl (nI sp) (c := 1) (by decide)) ?_
  rw [show (tget (U.1 17) (nI sp) 1) = (nI (lst + 1)) from ((congrArg (fun z => tget z (nI sp) 1) (show U.1 17 = (U.1 17) from rfl)).trans (tget_nI (by first | omega | decide))).trans h171]
  refine mw_go mu_g367 (k := 2) (f1 := (19, [(2, .inr (.inr (some m))), (0, .inr (.inr (some 158))), (1, .inl (nI sp))], [.inl ((nI (lst + 1)) - (1 : Int32))], H)) (C := []) rfl trivial ?_
  rw [(show ((nI (lst + 1)) - (1 : Int32)) = (nI ((lst + 1) - 1)) from (nI_sub (a := lst + 1) (b := 1) (by omega)))]
  rw [show (nI ((lst + 1) - 1)) = nI lst from rfl]
  refine mw_go mu_g367 (k := 3) (f1 := (22, [(3, .inl (nI lst)), (2, .inr (.inr (some m))), (0, .inr (.inr (some 158))), (1, .inl (nI sp))], [.inl (nI sp), .inr (.inr (some 158))], H)) (C := []) rfl trivial ?_
  refine mw_cIe (fun _ => rfl) (show mu_is H (some 158) 8 from (h.1.1.is rfl)) (pr_outer (d := (d + 2)) (i := sp) (to := lst + 1) h e hmo hsp h171 (by omega) (by omega)) ?_
  rw [show ((U.1 0).2 (lst + 1 - 1) 0) = nI o from hou]
  refine mw_go mu_g367 (k := 1) (f1 := (27, [(3, .inl (nI lst)), (2, .inr (.inr (some m))), (0, .inr (.inr (some 158))), (1, .inl (nI sp))], [.inl (28 : Int32), .inl (nI o)], H)) (C := []) rfl trivial ?_
  refine mw_if (P := (nI o) = (28 : Int32)) (a := 30) (b := 63) (fun _ => rfl) trivial (fun h3 => ?_) (fun h3 => absurd (show nI o = (28 : Int32) from by rw [ho28]; rfl) h3)
  refine mw_go mu_g367 (k := 3) (f1 := (35, [(3, .inl (nI lst)), (2, .inr (.inr (some m))), (0, .inr (.inr (some 158))), (1, .inl (nI sp))], [.inr (.inr (mu_r H m 17)), .inr (.inr (some 158))], H)) (C := [mu_is H (some m) 6]) rfl (show mu_is H (some m) 6 from (show mu_is H (some m) 6 from gi_im h.1.1 h.2)) ?_
  rw [(show mu_r H m 17 = some (m + 35) from (gi_mr h.1.1 h.2 (j := 17) (by decide)).trans (congrArg some (by omega)))]
  refine mw_go mu_g367 (k := 2) (f1 := (37, [(3, .inl (nI lst)), (2, .inr (.inr (some m))), (0, .inr (.inr (some 158))), (1, .inl (nI sp))], [.inl (0 : Int32), .inl (nI sp), .inr (.inr (some (m + 35))), .inr (.inr (some 158))], H)) (C := []) rfl trivial ?_
  refine mw_cIe (fun _ => rfl) (show mu_is H (some (m + 35)) 10 from ((h.1.1.w (md_w17 h.2)).1)) (h.getr (d := (d + 3)) e (j := 17) (by decide) rfl (nI sp) (c := 0) (by decide)) ?_
  rw [show (tget (U.1 17) (nI sp) 0) = (nI a) from ((congrArg (fun z => tget z (nI sp) 0) (show U.1 17 = (U.1 17) from rfl)).trans (tget_nI (by first | omega | decide))).trans h170]
  refine mw_go mu_g367 (k := 4) (f1 := (44, [(3, .inl (nI lst)), (2, .inr (.inr (some m))), (0, .inr (.inr (some 158))), (1, .inl (nI sp))], [.inl ((nI lst) - (1 : Int32)), .inr (.inr (some m)), .inl (nI a), .inr (.inr (some 158))], H)) (C := []) rfl trivial ?_
  rw [(show ((nI lst) - (1 : Int32)) = (nI (lst - 1)) from (nI_sub (a := lst) (b := 1) (by omega)))]
  rw [show (nI (lst - 1)) = nI (a + n - 1) from by rw [hla]]
  refine mw_cIe (fun _ => rfl) (show mu_is H (some m) 6 from (show mu_is H (some m) 6 from gi_im h.1.1 h.2)) (um_start (d := (d + 2)) (Y := Y) (a := a) (n := n) (j := j) h e hj0 hC hv hb hb2 htn hj1 hj2 hj3) ?_
  refine mw_go mu_g367 (k := 2) (f1 := (51, [(3, .inl (nI lst)), (2, .inr (.inr (some m))), (0, .inr (.inr (some 158))), (1, .inl (nI sp))], [.inr (.inr (mu_r H m 17)), .inl (nI (a + j)), .inl (nI a), .inr (.inr (some 158))], H)) (C := [mu_is H (some m) 6]) rfl (show mu_is H (some m) 6 from (show mu_is H (some m) 6 from gi_im h.1.1 h.2)) ?_
  rw [(show mu_r H m 17 = some (m + 35) from (gi_mr h.1.1 h.2 (j := 17) (by decide)).trans (congrArg some (by omega)))]
  refine mw_go mu_g367 (k := 2) (f1 := (53, [(3, .inl (nI lst)), (2, .inr (.inr (some m))), (0, .inr (.inr (some 158))), (1, .inl (nI sp))], [.inl (2 : Int32), .inl (nI sp), .inr (.inr (some (m + 35))), .inl (nI (a + j)), .inl (nI a), .inr (.inr (some 158))], H)) (C := []) rfl trivial ?_
  refine mw_cIe (fun _ => rfl) (show mu_is H (some (m + 35)) 10 from ((h.1.1.w (md_w17 h.2)).1)) (h.getr (d := (d + 3)) e (j := 17) (by decide) rfl (nI sp) (c := 2) (by decide)) ?_
  rw [show (tget (U.1 17) (nI sp) 2) = (nI i0) from ((congrArg (fun z => tget z (nI sp) 2) (show U.1 17 = (U.1 17) from rfl)).trans (tget_nI (by first | omega | decide))).trans h172]
  refine mw_go mu_g367 (k := 1) (f1 := (57, [(3, .inl (nI lst)), (2, .inr (.inr (some m))), (0, .inr (.inr (some 158))), (1, .inl (nI sp))], [.inl (1 : Int32), .inl (nI i0), .inl (nI (a + j)), .inl (nI a), .inr (.inr (some 158))], H)) (C := []) rfl trivial ?_
  refine mw_cV (fun _ => rfl) (show mu_is H (some 158) 8 from (h.1.1.is rfl)) (pr_seek (d := (d + 2)) (C := C) (x0 := (nI a)) (x1 := (nI (a + j))) (x2 := (nI i0)) (x3 := (1 : Int32)) h e) (fun Q7 q7 => ?_)
  obtain ⟨u7, r7, d7⟩ := q7
  have ht7 : ur m C H Q7 := (ur.refl m C H).trans r7
  refine mw_go mu_g367 (k := 1) (f1 := (73, [(3, .inl (nI lst)), (2, .inr (.inr (some m))), (0, .inr (.inr (some 158))), (1, .inl (nI sp))], [], Q7)) (C := []) rfl trivial ?_
  exact mw_of (fun _ => mu_ret rfl trivial ⟨Q7, rfl, u7, ht7, d7⟩)
theorem pr_wayn (h : um m H) (e : ud m H = U) (hmo : U.2.2.2.1 99 0 = some m) (hsp : sp < 2147483648) (h171 : (U.1 17).2 sp 1 = nI (lst + 1)) (hlb : lst < 2147483646) (hou : (U.1 0).2 lst 0 = nI o) (ho34 : o ≤ 34) (ho28 : ¬ o = 28) (hnone : U.2.2.2.2.2 161 1 = none) : mu_TV (mu_D (d + 5)) 367 [.inr (.inr (some 158)), .inl (nI sp)] H (fun H1 => um m H1 ∧ ur m C H H1 ∧ ∃ q, ud m H1 = upI (upR (upC (upI U 158 4 1) 161 1 256) 161 1 (some q)) 158 4 (nI (1 + 1))) := by
  refine mu_meth (M := mu_m367) rfl rfl ?_
  refine mw_ht (mu_fn_of (show [0, 1].Nodup by decide)) ?_
  refine mw_go mu_g367 (k := 2) (f1 := (4, [(0, .inr (.inr (some 158))), (1, .inl (nI sp))], [.inr (.inr (mu_r H 158 0))], H)) (C := [mu_is H (some 158) 8]) rfl (show mu_is H (some 158) 8 from (h.1.1.is rfl)) ?_
  rw [(h.1.1.r (p := 158) (j := 0) (q := 99) rfl)]
  refine mw_go mu_g367 (k := 1) (f1 := (7, [(0, .inr (.inr (some 158))), (1, .inl (nI sp))], [.inr (.inr (mu_r H 99 0))], H)) (C := [mu_is H (some 99) 13]) rfl (show mu_is H (some 99) 13 from (h.1.1.is rfl)) ?_
  rw [(show mu_r H 99 0 = (some m) from (ud_q (U := U) (m := m) (P := 99) (j := 0) e rfl).trans hmo)]
  refine mw_go mu_g367 (k := 3) (f1 := (12, [(2, .inr (.inr (some m))), (0, .inr (.inr (some 158))), (1, .inl (nI sp))], [.inr (.inr (mu_r H m 17))], H)) (C := [mu_is H (some m) 6]) rfl (show mu_is H (some m) 6 from (show mu_is H (some m) 6 from gi_im h.1.1 h.2)) ?_
  rw [(show mu_r H m 17 = some (m + 35) from (gi_mr h.1.1 h.2 (j := 17) (by decide)).trans (congrArg some (by omega)))]
  refine mw_go mu_g367 (k := 2) (f1 := (14, [(2, .inr (.inr (some m))), (0, .inr (.inr (some 158))), (1, .inl (nI sp))], [.inl (1 : Int32), .inl (nI sp), .inr (.inr (some (m + 35)))], H)) (C := []) rfl trivial ?_
  refine mw_cIe (fun _ => rfl) (show mu_is H (some (m + 35)) 10 from ((h.1.1.w (md_w17 h.2)).1)) (h.getr (d := (d + 3)) e (j := 17) (by decide) rfl (nI sp) (c := 1) (by decide)) ?_
  rw [show (tget (U.1 17) (nI sp) 1) = (nI (lst + 1)) from ((congrArg (fun z => tget z (nI sp) 1) (show U.1 17 = (U.1 17) from rfl)).trans (tget_nI (by first | omega | decide))).trans h171]
  refine mw_go mu_g367 (k := 2) (f1 := (19, [(2, .inr (.inr (some m))), (0, .inr (.inr (some 158))), (1, .inl (nI sp))], [.inl ((nI (lst + 1)) - (1 : Int32))], H)) (C := []) rfl trivial ?_
  rw [(show ((nI (lst + 1)) - (1 : Int32)) = (nI ((lst + 1) - 1)) from (nI_sub (a := lst + 1) (b := 1) (by omega)))]
  rw [show (nI ((lst + 1) - 1)) = nI lst from rfl]
  refine mw_go mu_g367 (k := 3) (f1 := (22, [(3, .inl (nI lst)), (2, .inr (.inr (some m))), (0, .inr (.inr (some 158))), (1, .inl (nI sp))], [.inl (nI sp), .inr (.inr (some 158))], H)) (C := []) rfl trivial ?_
  refine mw_cIe (fun _ => rfl) (show mu_is H (some 158) 8 from (h.1.1.is rfl)) (pr_outer (d := (d + 2)) (i := sp) (to := lst + 1) h e hmo hsp h171 (by omega) (by omega)) ?_
  rw [show ((U.1 0).2 (lst + 1 - 1) 0) = nI o from hou]
  refine mw_go mu_g367 (k := 1) (f1 := (27, [(3, .inl (nI lst)), (2, .inr (.inr (some m))), (0, .inr (.inr (some 158))), (1, .inl (nI sp))], [.inl (28 : Int32), .inl (nI o)], H)) (C := []) rfl trivial ?_
  refine mw_if (P := (nI o) = (28 : Int32)) (a := 30) (b := 63) (fun _ => rfl) trivial (fun h3 => absurd h3 (fun z => ho28 ((nI_eq (by omega) (by omega)).mp (show nI o = nI 28 from z)))) (fun h3 => ?_)
  refine mw_go mu_g367 (k := 3) (f1 := (68, [(3, .inl (nI lst)), (2, .inr (.inr (some m))), (0, .inr (.inr (some 158))), (1, .inl (nI sp))], [], (mu_si H 158 4 (1 : Int32)))) (C := [mu_is H (some 158) 8]) rfl (show mu_is H (some 158) 8 from (h.1.1.is rfl)) ?_
  obtain ⟨u4, r4, d4⟩ : um m (mu_si H 158 4 (1 : Int32)) ∧ ur m C H (mu_si H 158 4 (1 : Int32)) ∧ ud m (mu_si H 158 4 (1 : Int32)) = (upI U 158 4 (1 : Int32)) := h.sI (C := C) e rfl
  generalize (mu_si H 158 4 (1 : Int32)) = Q4 at u4 r4 d4 ⊢
  have ht4 : ur m C H Q4 := (ur.refl m C H).trans r4
  refine mw_go mu_g367 (k := 1) (f1 := (69, [(3, .inl (nI lst)), (2, .inr (.inr (some m))), (0, .inr (.inr (some 158))), (1, .inl (nI sp))], [.inr (.inr (some 158))], Q4)) (C := []) rfl trivial ?_
  refine mw_cI (fun _ => rfl) (show mu_is Q4 (some 158) 8 from (u4.1.1.is rfl)) (pr_newSetn (d := (d + 2)) (C := C) (sc := 1) u4 d4 (show (upI U 158 4 (1 : Int32)).2.1 158 4 = nI 1 from rfl) (by decide) hnone) (fun x5 Q5 q5 => ?_)
  obtain ⟨rfl, u5, r5, q1, d5⟩ := q5
  have ht5 : ur m C H Q5 := ht4.trans r5
  refine mw_go mu_g367 (k := 1) (f1 := (73, [(3, .inl (nI lst)), (2, .inr (.inr (some m))), (0, .inr (.inr (some 158))), (1, .inl (nI sp))], [], Q5)) (C := []) rfl trivial ?_
  exact mw_of (fun _ => mu_ret rfl trivial ⟨Q5, rfl, u5, ht5, q1, d5⟩)
theorem pr_ways (h : um m H) (e : ud m H = U) (hmo : U.2.2.2.1 99 0 = some m) (hsp : sp < 2147483648) (h171 : (U.1 17).2 sp 1 = nI (lst + 1)) (hlb : lst < 2147483646) (hou : (U.1 0).2 lst 0 = nI o) (ho34 : o ≤ 34) (ho28 : ¬ o = 28) (hset : LSN U 161 1 q0 256) : mu_TV (mu_D (d + 5)) 367 [.inr (.inr (some 158)), .inl (nI sp)] H (fun H1 => um m H1 ∧ ur m C H H1 ∧ ud m H1 = upI (upI U 158 4 1) 158 4 (nI (1 + 1))) := by
  refine mu_meth (M := mu_m367) rfl rfl ?_
  refine mw_ht (mu_fn_of (show [0, 1].Nodup by decide)) ?_
  refine mw_go mu_g367 (k := 2) (f1 := (4, [(0, .inr (.inr (some 158))), (1, .inl (nI sp))], [.inr (.inr (mu_r H 158 0))], H)) (C := [mu_is H (some 158) 8]) rfl (show mu_is H (some 158) 8 from (h.1.1.is rfl)) ?_
  rw [(h.1.1.r (p := 158) (j := 0) (q := 99) rfl)]
  refine mw_go mu_g367 (k := 1) (f1 := (7, [(0, .inr (.inr (some 158))), (1, .inl (nI sp))], [.inr (.inr (mu_r H 99 0))], H)) (C := [mu_is H (some 99) 13]) rfl (show mu_is H (some 99) 13 from (h.1.1.is rfl)) ?_
  rw [(show mu_r H 99 0 = (some m) from (ud_q (U := U) (m := m) (P := 99) (j := 0) e rfl).trans hmo)]
  refine mw_go mu_g367 (k := 3) (f1 := (12, [(2, .inr (.inr (some m))), (0, .inr (.inr (some 158))), (1, .inl (nI sp))], [.inr (.inr (mu_r H m 17))], H)) (C := [mu_is H (some m) 6]) rfl (show mu_is H (some m) 6 from (show mu_is H (some m) 6 from gi_im h.1.1 h.2)) ?_
  rw [(show mu_r H m 17 = some (m + 35) from (gi_mr h.1.1 h.2 (j := 17) (by decide)).trans (congrArg some (by omega)))]
  refine mw_go mu_g367 (k := 2) (f1 := (14, [(2, .inr (.inr (some m))), (0, .inr (.inr (some 158))), (1, .inl (nI sp))], [.inl (1 : Int32), .inl (nI sp), .inr (.inr (some (m + 35)))], H)) (C := []) rfl trivial ?_
  refine mw_cIe (fun _ => rfl) (show mu_is H (some (m + 35)) 10 from ((h.1.1.w (md_w17 h.2)).1)) (h.getr (d := (d + 3)) e (j := 17) (by decide) rfl (nI sp) (c := 1) (by decide)) ?_
  rw [show (tget (U.1 17) (nI sp) 1) = (nI (lst + 1)) from ((congrArg (fun z => tget z (nI sp) 1) (show U.1 17 = (U.1 17) from rfl)).trans (tget_nI (by first | omega | decide))).trans h171]
  refine mw_go mu_g367 (k := 2) (f1 := (19, [(2, .inr (.inr (some m))), (0, .inr (.inr (some 158))), (1, .inl (nI sp))], [.inl ((nI (lst + 1)) - (1 : Int32))], H)) (C := []) rfl trivial ?_
  rw [(show ((nI (lst + 1)) - (1 : Int32)) = (nI ((lst + 1) - 1)) from (nI_sub (a := lst + 1) (b := 1) (by omega)))]
  rw [show (nI ((lst + 1) - 1)) = nI lst from rfl]
  refine mw_go mu_g367 (k := 3) (f1 := (22, [(3, .inl (nI lst)), (2, .inr (.inr (some m))), (0, .inr (.inr (some 158))), (1, .inl (nI sp))], [.inl (nI sp), .inr (.inr (some 158))], H)) (C := []) rfl trivial ?_
  refine mw_cIe (fun _ => rfl) (show mu_is H (some 158) 8 from (h.1.1.is rfl)) (pr_outer (d := (d + 2)) (i := sp) (to := lst + 1) h e hmo hsp h171 (by omega) (by omega)) ?_
  rw [show ((U.1 0).2 (lst + 1 - 1) 0) = nI o from hou]
  refine mw_go mu_g367 (k := 1) (f1 := (27, [(3, .inl (nI lst)), (2, .inr (.inr (some m))), (0, .inr (.inr (some 158))), (1, .inl (nI sp))], [.inl (28 : Int32), .inl (nI o)], H)) (C := []) rfl trivial ?_
  refine mw_if (P := (nI o) = (28 : Int32)) (a := 30) (b := 63) (fun _ => rfl) trivial (fun h3 => absurd h3 (fun z => ho28 ((nI_eq (by omega) (by omega)).mp (show nI o = nI 28 from z)))) (fun h3 => ?_)
  refine mw_go mu_g367 (k := 3) (f1 := (68, [(3, .inl (nI lst)), (2, .inr (.inr (some m))), (0, .inr (.inr (some 158))), (1, .inl (nI sp))], [], (mu_si H 158 4 (1 : Int32)))) (C := [mu_is H (some 158) 8]) rfl (show mu_is H (some 158) 8 from (h.1.1.is rfl)) ?_
  obtain ⟨u4, r4, d4⟩ : um m (mu_si H 158 4 (1 : Int32)) ∧ ur m C H (mu_si H 158 4 (1 : Int32)) ∧ ud m (mu_si H 158 4 (1 : Int32)) = (upI U 158 4 (1 : Int32)) := h.sI (C := C) e rfl
  generalize (mu_si H 158 4 (1 : Int32)) = Q4 at u4 r4 d4 ⊢
  have ht4 : ur m C H Q4 := (ur.refl m C H).trans r4
  refine mw_go mu_g367 (k := 1) (f1 := (69, [(3, .inl (nI lst)), (2, .inr (.inr (some m))), (0, .inr (.inr (some 158))), (1, .inl (nI sp))], [.inr (.inr (some 158))], Q4)) (C := []) rfl trivial ?_
  refine mw_cI (fun _ => rfl) (show mu_is Q4 (some 158) 8 from (u4.1.1.is rfl)) (pr_newSets (d := (d + 2)) (C := C) (sc := 1) u4 d4 (show (upI U 158 4 (1 : Int32)).2.1 158 4 = nI 1 from rfl) (by decide) (hset.keep (fun b c hb => by rcases hb with rfl | rfl <;> rfl) rfl)) (fun x5 Q5 q5 => ?_)
  obtain ⟨rfl, u5, r5, d5⟩ := q5
  have ht5 : ur m C H Q5 := ht4.trans r5
  refine mw_go mu_g367 (k := 1) (f1 := (73, [(3, .inl (nI lst)), (2, .inr (.inr (some m))), (0, .inr (.inr (some 158))), (1, .inl (nI sp))], [], Q5)) (C := []) rfl trivial ?_
  exact mw_of (fun _ => mu_ret rfl trivial ⟨Q5, rfl, u5, ht5, d5⟩)
/-- PathProver$Prover.startToShow(I)I -/
abbrev mu_m365 : ev_M := (4, (some .int), [], ev_b365)
theorem mu_g365 : mu_good mu_m365 := mu_goodk ev_k365
theorem pr_start (h : um m H) (e : ud m H = U) (hmo : U.2.2.2.1 99 0 = some m) (hsp : sp < 2147483648) (h171 : (U.1 17).2 sp 1 = nI (lst + 1)) (hlb : lst < 2147483646) (hou : (U.1 0).2 lst 0 = nI o) (ho34 : o ≤ 34) (htm : tmd o) (ho29 : ¬ o = 29) (hT : U.2.1 99 11 = nI T) (hTb : T ≤ 16384) (hk0 : LSN U 163 (sp % 64) gq L) (hLb : L ≤ 256) (hTL : T ≤ 64 * L) : mu_TI (mu_D (d + 5)) 365 [.inr (.inr (some 158)), .inl (nI sp)] H (fun x H1 => ((∃ s, s < T ∧ STS U sp o s ∧ (∀ s2, s2 < s → ¬ STS U sp o s2) ∧ x = nI s) ∨ (x = -1 ∧ ∀ s, s < T → ¬ STS U sp o s)) ∧ H1 = H) := by
  refine mu_meth (M := mu_m365) rfl rfl ?_
  refine mw_ht (mu_fn_of (show [0, 1].Nodup by decide)) ?_
  refine mw_go mu_g365 (k := 2) (f1 := (2, [(0, .inr (.inr (some 158))), (1, .inl (nI sp))], [.inl (nI sp), .inr (.inr (some 158))], H)) (C := []) rfl trivial ?_
  refine mw_cIe (fun _ => rfl) (show mu_is H (some 158) 8 from (h.1.1.is rfl)) (pr_outer (d := (d + 2)) (i := sp) (to := lst + 1) h e hmo hsp h171 (by omega) (by omega)) ?_
  rw [show ((U.1 0).2 (lst + 1 - 1) 0) = nI o from hou]
  refine mw_go mu_g365 (k := 2) (f1 := (7, [(2, .inl (nI o)), (0, .inr (.inr (some 158))), (1, .inl (nI sp))], [.inl (nI o)], H)) (C := []) rfl trivial ?_
  refine mw_cIe (fun _ => rfl) trivial ((pv_timed2 (d := (d + 3)) (H := H) (o := o) ho34).imp (fun x H1 q => show x = (1 : Int32) ∧ H1 = H from ⟨(q.1.resolve_left (fun y => y.2 htm)).1, q.2⟩)) ?_
  refine mw_if (P := (1 : Int32) = 0) (a := 19) (b := 13) (fun _ => rfl) trivial (fun h5 => absurd h5 (by decide)) (fun h5 => ?_)
  refine mw_go mu_g365 (k := 2) (f1 := (16, [(2, .inl (nI o)), (0, .inr (.inr (some 158))), (1, .inl (nI sp))], [.inl (29 : Int32), .inl (nI o)], H)) (C := []) rfl trivial ?_
  refine mw_if (P := (nI o) = (29 : Int32)) (a := 19) (b := 21) (fun _ => rfl) trivial (fun h6 => absurd h6 (fun z => ho29 ((nI_eq (by omega) (by omega)).mp (show nI o = nI 29 from z)))) (fun h6 => ?_)
  refine mw_go mu_g365 (k := 2) (f1 := (23, [(3, .inl (0 : Int32)), (2, .inl (nI o)), (0, .inr (.inr (some 158))), (1, .inl (nI sp))], [], H)) (C := []) rfl trivial ?_
  show mu_W _ _ (23, [(3, .inl (nI 0)), (2, .inl (nI o)), (0, .inr (.inr (some 158))), (1, .inl (nI sp))], [], H) _
  refine mw_sub (L' := [(3, .inl (nI 0)), (0, .inr (.inr (some 158))), (1, .inl (nI sp)), (2, .inl (nI o))]) (by simp) ?_
  refine mw_down (α := Nat) (fun zs => (23, [(3, .inl (nI zs)), (0, .inr (.inr (some 158))), (1, .inl (nI sp)), (2, .inl (nI o))], [], H)) (fun zs => T - zs) (fun zs => (zs ≤ T) ∧ (∀ s, s < zs → ¬ STS U sp o s)) (fun zs hza iha => ?_) 0 ⟨(show 0 ≤ T from (Nat.zero_le _)), (show ∀ s, s < 0 → ¬ STS U sp o s from (fun s hs => absurd hs (Nat.not_lt_zero s)))⟩
  obtain ⟨x, rfl⟩ : ∃ y, y = zs := ⟨zs, rfl⟩
  obtain ⟨hxT, hno⟩ := hza
  have hxT : x ≤ T := hxT
  have hno : ∀ s, s < x → ¬ STS U sp o s := hno
  show mu_W _ _ (23, [(3, .inl (nI x)), (0, .inr (.inr (some 158))), (1, .inl (nI sp)), (2, .inl (nI o))], [], H) _
  refine mw_go mu_g365 (k := 3) (f1 := (28, [(3, .inl (nI x)), (0, .inr (.inr (some 158))), (1, .inl (nI sp)), (2, .inl (nI o))], [.inr (.inr (mu_r H 158 0)), .inl (nI x)], H)) (C := [mu_is H (some 158) 8]) rfl (show mu_is H (some 158) 8 from (h.1.1.is rfl)) ?_
  rw [(h.1.1.r (p := 158) (j := 0) (q := 99) rfl)]
  refine mw_go mu_g365 (k := 1) (f1 := (31, [(3, .inl (nI x)), (0, .inr (.inr (some 158))), (1, .inl (nI sp)), (2, .inl (nI o))], [.inl (mu_i H 99 11), .inl (nI x)], H)) (C := [mu_is H (some 99) 13]) rfl (show mu_is H (some 99) 13 from (h.1.1.is rfl)) ?_
  rw [(show mu_i H 99 11 = (nI T) from (ud_i (U := U) (m := m) (P := 99) (j := 11) e rfl).trans hT)]
  refine mw_if (P := (nI x) < (nI T)) (a := 34) (b := 76) (fun _ => rfl) trivial (fun h7 => ?_) (fun h7 => ?_)
  · -- 34: (nI x) < (nI T)
    have nh7 : x < T := (nI_ltI (by omega) (by omega)).mp (show nI x < nI T from h7)
    refine mw_go mu_g365 (k := 2) (f1 := (38, [(3, .inl (nI x)), (0, .inr (.inr (some 158))), (1, .inl (nI sp)), (2, .inl (nI o))], [.inr (.inr (mu_r H 158 0))], H)) (C := [mu_is H (some 158) 8]) rfl (show mu_is H (some 158) 8 from (h.1.1.is rfl)) ?_
    rw [(h.1.1.r (p := 158) (j := 0) (q := 99) rfl)]
    refine mw_go mu_g365 (k := 1) (f1 := (41, [(3, .inl (nI x)), (0, .inr (.inr (some 158))), (1, .inl (nI sp)), (2, .inl (nI o))], [.inr (.inr (mu_r H 99 15))], H)) (C := [mu_is H (some 99) 13]) rfl (show mu_is H (some 99) 13 from (h.1.1.is rfl)) ?_
    rw [(h.1.1.r (p := 99) (j := 15) (q := 125) rfl)]
    refine mw_go mu_g365 (k := 1) (f1 := (42, [(3, .inl (nI x)), (0, .inr (.inr (some 158))), (1, .inl (nI sp)), (2, .inl (nI o))], [.inl (nI x), .inr (.inr (some 125))], H)) (C := []) rfl trivial ?_
    refine mw_cI (fun _ => rfl) trivial ((pv_has_125 (d := (d + 3)) (k := x) h e (by omega)).imp (fun _ _ z => has_alt (b := bts (U.2.2.2.2.1 125) x) z)) (fun x8 H8 q8 => ?_)
    rcases q8 with ⟨rfl, hb8, rfl⟩ | ⟨rfl, hb8, rfl⟩
    · -- (1 : Int32)
      refine mw_if (P := (1 : Int32) = 0) (a := 70) (b := 48) (fun _ => rfl) trivial (fun h9 => absurd h9 (by decide)) (fun h9 => ?_)
      refine mw_go mu_g365 (k := 2) (f1 := (52, [(3, .inl (nI x)), (0, .inr (.inr (some 158))), (1, .inl (nI sp)), (2, .inl (nI o))], [.inr (.inr (mu_r H 158 6))], H)) (C := [mu_is H (some 158) 8]) rfl (show mu_is H (some 158) 8 from (h.1.1.is rfl)) ?_
      rw [(h.1.1.r (p := 158) (j := 6) (q := 163) rfl)]
      refine mw_go mu_g365 (k := 3) (f1 := (56, [(3, .inl (nI x)), (0, .inr (.inr (some 158))), (1, .inl (nI sp)), (2, .inl (nI o))], [.inl ((nI sp) - (nI sp) / (64 : Int32) * (64 : Int32)), .inr (.inr (some 163))], H)) (C := [¬ (64 : Int32) = 0]) rfl (show ¬ (64 : Int32) = 0 from (by decide)) ?_
      rw [(show ((nI sp) - (nI sp) / (64 : Int32) * (64 : Int32)) = (nI (sp % 64)) from (nI_mod (a := sp) (b := 64) (by omega) (by omega)))]
      have ka10 : mu_r H 163 (sp % 64) = some gq := (dR_pool e (Or.inr rfl) (plp163 (show sp % 64 < 64 by omega))).trans (LSN.ref (show LSN U 163 (sp % 64) gq _ from hk0) (Or.inr rfl))
      refine mw_go mu_g365 (k := 1) (f1 := (57, [(3, .inl (nI x)), (0, .inr (.inr (some 158))), (1, .inl (nI sp)), (2, .inl (nI o))], [.inr (.inr (mu_r H 163 (nI (sp % 64)).toNatClampNeg))], H)) (C := [mu_is H (some 163) (mu_k H 163), 103 ≤ mu_k H 163 ∧ mu_k H 163 ≤ 110 ∧ mu_k H 163 ≠ 108, vp_in (nI (sp % 64)) (mu_n H 163)]) rfl (show (mu_is H (some 163) (mu_k H 163)) ∧ (103 ≤ mu_k H 163 ∧ mu_k H 163 ≤ 110 ∧ mu_k H 163 ≠ 108) ∧ (vp_in (nI (sp % 64)) (mu_n H 163)) from ⟨(by have z := (h.1.1.a (p := 163) (x := (104, 64)) rfl).1; rw [show mu_k H 163 = 104 from z.2.2]; exact z), (by have z := (h.1.1.a (p := 163) (x := (104, 64)) rfl).1; rw [show mu_k H 163 = 104 from z.2.2]; decide), (by rw [show mu_n H 163 = 64 from (h.1.1.a (p := 163) (x := (104, 64)) rfl).2]; exact vp_in_nI (n := sp % 64) (by omega) (by decide))⟩) ?_
      rw [show (mu_r H 163 (nI (sp % 64)).toNatClampNeg) = (some gq) from (congrArg (mu_r H 163) (show (nI (sp % 64)).toNatClampNeg = sp % 64 from nI_clamp (by omega))).trans ka10]
      refine mw_go mu_g365 (k := 1) (f1 := (58, [(3, .inl (nI x)), (0, .inr (.inr (some 158))), (1, .inl (nI sp)), (2, .inl (nI o))], [.inl (nI x), .inr (.inr (some gq))], H)) (C := []) rfl trivial ?_
      refine mw_cI (fun _ => rfl) trivial ((pv_hasL (d := (d + 3)) (k := x) h e hk0 hLb (by omega)).imp (fun _ _ z => has_alt (b := bts (lgf U 163 (sp % 64)) x) z)) (fun x11 H11 q11 => ?_)
      rcases q11 with ⟨rfl, hb11, rfl⟩ | ⟨rfl, hb11, rfl⟩
      · -- (1 : Int32)
        refine mw_go mu_g365 (k := 1) (f1 := (62, [(3, .inl (nI x)), (0, .inr (.inr (some 158))), (1, .inl (nI sp)), (2, .inl (nI o))], [.inl (nI o), .inl (1 : Int32)], H)) (C := []) rfl trivial ?_
        refine mw_cI (fun _ => rfl) trivial (pr_shf (d := (d + 3)) (H := H) (o := o) ho34) (fun x13 H13 q13 => ?_)
        rcases q13 with ⟨rfl, hsf, rfl⟩ | ⟨rfl, hsf, rfl⟩
        · -- (1 : Int32)
          have hnx : ¬ STS U sp o x := fun y => y.2 ⟨fun _ => hsf, fun _ => hb11⟩
          refine mw_if (P := (1 : Int32) = (1 : Int32)) (a := 70) (b := 68) (fun _ => rfl) trivial (fun h14 => ?_) (fun h14 => absurd (by decide) h14)
          refine mw_go mu_g365 (k := 1) (f1 := (73, [(3, .inl ((nI x) + 1)), (0, .inr (.inr (some 158))), (1, .inl (nI sp)), (2, .inl (nI o))], [], H)) (C := []) rfl trivial ?_
          rw [(show ((nI x) + 1) = (nI (x + 1)) from (nI_add x 1))]
          refine mw_go mu_g365 (k := 1) (f1 := (23, [(3, .inl (nI (x + 1))), (0, .inr (.inr (some 158))), (1, .inl (nI sp)), (2, .inl (nI o))], [], H)) (C := []) rfl trivial ?_
          exact mw_sub (by simp) (iha (x + 1) ⟨(show (x + 1) ≤ T from (by omega)), (show ∀ s, s < (x + 1) → ¬ STS U sp o s from (fun s hs => by by_cases y : s = x; (rw [y]; exact hnx); (exact hno s (by omega))))⟩ (by show T - (x + 1) < T - x; omega))
        · -- (0 : Int32)
          have hyx : STS U sp o x := ⟨hb8, fun y => hsf (y.mp hb11)⟩
          refine mw_if (P := (1 : Int32) = (0 : Int32)) (a := 70) (b := 68) (fun _ => rfl) trivial (fun h15 => absurd h15 (by decide)) (fun h15 => ?_)
          refine mw_go mu_g365 (k := 1) (f1 := (69, [(3, .inl (nI x)), (0, .inr (.inr (some 158))), (1, .inl (nI sp)), (2, .inl (nI o))], [.inl (nI x)], H)) (C := []) rfl trivial ?_
          exact mw_of (fun _ => mu_ret rfl trivial ⟨(nI x), H, rfl, Or.inl ⟨x, by omega, hyx, hno, rfl⟩, rfl⟩)
      · -- (0 : Int32)
        refine mw_go mu_g365 (k := 1) (f1 := (62, [(3, .inl (nI x)), (0, .inr (.inr (some 158))), (1, .inl (nI sp)), (2, .inl (nI o))], [.inl (nI o), .inl (0 : Int32)], H)) (C := []) rfl trivial ?_
        refine mw_cI (fun _ => rfl) trivial (pr_shf (d := (d + 3)) (H := H) (o := o) ho34) (fun x17 H17 q17 => ?_)
        rcases q17 with ⟨rfl, hsf, rfl⟩ | ⟨rfl, hsf, rfl⟩
        · -- (1 : Int32)
          have hyx : STS U sp o x := ⟨hb8, fun y => by have z := y.mpr hsf; rw [hb11] at z; cases z⟩
          refine mw_if (P := (0 : Int32) = (1 : Int32)) (a := 70) (b := 68) (fun _ => rfl) trivial (fun h18 => absurd h18 (by decide)) (fun h18 => ?_)
          refine mw_go mu_g365 (k := 1) (f1 := (69, [(3, .inl (nI x)), (0, .inr (.inr (some 158))), (1, .inl (nI sp)), (2, .inl (nI o))], [.inl (nI x)], H)) (C := []) rfl trivial ?_
          exact mw_of (fun _ => mu_ret rfl trivial ⟨(nI x), H, rfl, Or.inl ⟨x, by omega, hyx, hno, rfl⟩, rfl⟩)
        · -- (0 : Int32)
          have hnx : ¬ STS U sp o x := fun y => y.2 ⟨fun z => (by rw [hb11] at z; cases z), fun z => absurd z hsf⟩
          refine mw_if (P := (0 : Int32) = (0 : Int32)) (a := 70) (b := 68) (fun _ => rfl) trivial (fun h19 => ?_) (fun h19 => absurd (by decide) h19)
          refine mw_go mu_g365 (k := 1) (f1 := (73, [(3, .inl ((nI x) + 1)), (0, .inr (.inr (some 158))), (1, .inl (nI sp)), (2, .inl (nI o))], [], H)) (C := []) rfl trivial ?_
          rw [(show ((nI x) + 1) = (nI (x + 1)) from (nI_add x 1))]
          refine mw_go mu_g365 (k := 1) (f1 := (23, [(3, .inl (nI (x + 1))), (0, .inr (.inr (some 158))), (1, .inl (nI sp)), (2, .inl (nI o))], [], H)) (C := []) rfl trivial ?_
          exact mw_sub (by simp) (iha (x + 1) ⟨(show (x + 1) ≤ T from (by omega)), (show ∀ s, s < (x + 1) → ¬ STS U sp o s from (fun s hs => by by_cases y : s = x; (rw [y]; exact hnx); (exact hno s (by omega))))⟩ (by show T - (x + 1) < T - x; omega))
    · -- (0 : Int32)
      have hnx : ¬ STS U sp o x := fun y => by have z := y.1; rw [hb8] at z; cases z
      refine mw_if (P := (0 : Int32) = 0) (a := 70) (b := 48) (fun _ => rfl) trivial (fun h20 => ?_) (fun h20 => absurd (by decide) h20)
      refine mw_go mu_g365 (k := 1) (f1 := (73, [(3, .inl ((nI x) + 1)), (0, .inr (.inr (some 158))), (1, .inl (nI sp)), (2, .inl (nI o))], [], H)) (C := []) rfl trivial ?_
      rw [(show ((nI x) + 1) = (nI (x + 1)) from (nI_add x 1))]
      refine mw_go mu_g365 (k := 1) (f1 := (23, [(3, .inl (nI (x + 1))), (0, .inr (.inr (some 158))), (1, .inl (nI sp)), (2, .inl (nI o))], [], H)) (C := []) rfl trivial ?_
      exact mw_sub (by simp) (iha (x + 1) ⟨(show (x + 1) ≤ T from (by omega)), (show ∀ s, s < (x + 1) → ¬ STS U sp o s from (fun s hs => by by_cases y : s = x; (rw [y]; exact hnx); (exact hno s (by omega))))⟩ (by show T - (x + 1) < T - x; omega))
  · -- 76: not (nI x) < (nI T)
    have nh7 : ¬ x < T := fun z => h7 (show nI x < nI T from (nI_ltI (by omega) (by omega)).mpr z)
    refine mw_go mu_g365 (k := 1) (f1 := (77, [(3, .inl (nI x)), (0, .inr (.inr (some 158))), (1, .inl (nI sp)), (2, .inl (nI o))], [.inl (-1 : Int32)], H)) (C := []) rfl trivial ?_
    exact mw_of (fun _ => mu_ret rfl trivial ⟨(-1 : Int32), H, rfl, Or.inr ⟨rfl, fun s hs => hno s (by omega)⟩, rfl⟩)
end Show
