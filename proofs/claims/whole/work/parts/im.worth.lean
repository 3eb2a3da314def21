/-! MODEL: sorts and worths as data; what value tells -/
def wor (s : Ts) (v k : Nat) : Int32 := if (s 3).2 v 1 = 0 then nI k else if (s 3).2 v 1 = 1 then (s 3).2 v 2 + nI k else tget (s 4) ((s 3).2 v 2 + nI k) 0
section Worth
variable {H : mu_H} {U V : Ud} {m d v k w s vr pl P n r fb : Nat} {C : Nat → Nat} {f : Nat → Nat}
theorem um_worth (h : um m H) (e : ud m H = U) (hv : v < 2147483648) : mu_TI (mu_D (d + 2)) 127 [.inr (.inr (some m)), .inl (nI v), .inl (nI k)] H (fun x H1 => x = wor U.1 v k ∧ H1 = H) := by
  refine mu_meth (M := mu_m127) rfl rfl ?_
  refine mw_ht (mu_fn_of (show [0, 1, 2].Nodup by decide)) ?_
  refine mw_go mu_g127 (k := 2) (f1 := (4, [(0, .inr (.inr (some m))), (1, .inl (nI v)), (2, .inl (nI k))], [.inr (.inr (mu_r H m 3))], H)) (C := [mu_is H (some m) 6]) rfl (show mu_is H (some m) 6 from (show mu_is H (some m) 6 from gi_im h.1.1 h.2)) ?_
  rw [(show mu_r H m 3 = some (m + 7) from (gi_mr h.1.1 h.2 (j := 3) (by decide)).trans (congrArg some (by omega)))]
  refine mw_go mu_g127 (k := 2) (f1 := (6, [(0, .inr (.inr (some m))), (1, .inl (nI v)), (2, .inl (nI k))], [.inl (1 : Int32), .inl (nI v), .inr (.inr (some (m + 7)))], H)) (C := []) rfl trivial ?_
  refine mw_cIe (fun _ => rfl) (show mu_is H (some (m + 7)) 10 from ((h.1.1.w (md_w3 h.2)).1)) (h.getr (d := d) e (j := 3) (by decide) rfl (nI v) (c := 1) (by decide)) ?_
  rw [show (tget (U.1 3) (nI v) 1) = ((U.1 3).2 v 1) from (congrArg (fun z => tget z (nI v) 1) (show U.1 3 = (U.1 3) from rfl)).trans (tget_nI (by first | omega | decide))]
  refine mw_go mu_g127 (k := 2) (f1 := (11, [(3, .inl ((U.1 3).2 v 1)), (0, .inr (.inr (some m))), (1, .inl (nI v)), (2, .inl (nI k))], [.inl ((U.1 3).2 v 1)], H)) (C := []) rfl trivial ?_
  refine mw_if (P := ((U.1 3).2 v 1) = 0) (a := 14) (b := 16) (fun _ => rfl) trivial (fun h2 => ?_) (fun h2 => ?_)
  · -- 14: ((U.1 3).2 v 1) = 0
    refine mw_go mu_g127 (k := 1) (f1 := (15, [(3, .inl ((U.1 3).2 v 1)), (0, .inr (.inr (some m))), (1, .inl (nI v)), (2, .inl (nI k))], [.inl (nI k)], H)) (C := []) rfl trivial ?_
    exact mw_of (fun _ => mu_ret rfl trivial ⟨_, _, rfl, (by unfold wor; rw [if_pos h2]), rfl⟩)
  · -- 16: not ((U.1 3).2 v 1) = 0
    refine mw_go mu_g127 (k := 2) (f1 := (20, [(3, .inl ((U.1 3).2 v 1)), (0, .inr (.inr (some m))), (1, .inl (nI v)), (2, .inl (nI k))], [.inr (.inr (mu_r H m 3))], H)) (C := [mu_is H (some m) 6]) rfl (show mu_is H (some m) 6 from (show mu_is H (some m) 6 from gi_im h.1.1 h.2)) ?_
    rw [(show mu_r H m 3 = some (m + 7) from (gi_mr h.1.1 h.2 (j := 3) (by decide)).trans (congrArg some (by omega)))]
    refine mw_go mu_g127 (k := 2) (f1 := (22, [(3, .inl ((U.1 3).2 v 1)), (0, .inr (.inr (some m))), (1, .inl (nI v)), (2, .inl (nI k))], [.inl (2 : Int32), .inl (nI v), .inr (.inr (some (m + 7)))], H)) (C := []) rfl trivial ?_
    refine mw_cIe (fun _ => rfl) (show mu_is H (some (m + 7)) 10 from ((h.1.1.w (md_w3 h.2)).1)) (h.getr (d := d) e (j := 3) (by decide) rfl (nI v) (c := 2) (by decide)) ?_
    rw [show (tget (U.1 3) (nI v) 2) = ((U.1 3).2 v 2) from (congrArg (fun z => tget z (nI v) 2) (show U.1 3 = (U.1 3) from rfl)).trans (tget_nI (by first | omega | decide))]
    refine mw_go mu_g127 (k := 3) (f1 := (29, [(4, .inl ((U.1 3).2 v 2)), (3, .inl ((U.1 3).2 v 1)), (0, .inr (.inr (some m))), (1, .inl (nI v)), (2, .inl (nI k))], [.inl (1 : Int32), .inl ((U.1 3).2 v 1)], H)) (C := []) rfl trivial ?_
    refine mw_if (P := ((U.1 3).2 v 1) = (1 : Int32)) (a := 32) (b := 39) (fun _ => rfl) trivial (fun h4 => ?_) (fun h4 => ?_)
    · -- 32: ((U.1 3).2 v 1) = (1 : Int32)
      refine mw_go mu_g127 (k := 4) (f1 := (51, [(4, .inl ((U.1 3).2 v 2)), (3, .inl ((U.1 3).2 v 1)), (0, .inr (.inr (some m))), (1, .inl (nI v)), (2, .inl (nI k))], [.inl (((U.1 3).2 v 2) + (nI k))], H)) (C := []) rfl trivial ?_
      exact mw_of (fun _ => mu_ret rfl trivial ⟨_, _, rfl, (by unfold wor; rw [if_neg h2, if_pos h4]), rfl⟩)
    · -- 39: not ((U.1 3).2 v 1) = (1 : Int32)
      refine mw_go mu_g127 (k := 2) (f1 := (43, [(4, .inl ((U.1 3).2 v 2)), (3, .inl ((U.1 3).2 v 1)), (0, .inr (.inr (some m))), (1, .inl (nI v)), (2, .inl (nI k))], [.inr (.inr (mu_r H m 4))], H)) (C := [mu_is H (some m) 6]) rfl (show mu_is H (some m) 6 from (show mu_is H (some m) 6 from gi_im h.1.1 h.2)) ?_
      rw [(show mu_r H m 4 = some (m + 9) from (gi_mr h.1.1 h.2 (j := 4) (by decide)).trans (congrArg some (by omega)))]
      refine mw_go mu_g127 (k := 4) (f1 := (48, [(4, .inl ((U.1 3).2 v 2)), (3, .inl ((U.1 3).2 v 1)), (0, .inr (.inr (some m))), (1, .inl (nI v)), (2, .inl (nI k))], [.inl (0 : Int32), .inl (((U.1 3).2 v 2) + (nI k)), .inr (.inr (some (m + 9)))], H)) (C := []) rfl trivial ?_
      refine mw_cIe (fun _ => rfl) (show mu_is H (some (m + 9)) 10 from ((h.1.1.w (md_w4 h.2)).1)) (h.getr (d := d) e (j := 4) (by decide) rfl (((U.1 3).2 v 2) + (nI k)) (c := 0) (by decide)) ?_
      rw [show (tget (U.1 4) (((U.1 3).2 v 2) + (nI k)) 0) = (tget (U.1 4) (((U.1 3).2 v 2) + (nI k)) 0) from congrArg (fun z => tget z (((U.1 3).2 v 2) + (nI k)) 0) (show U.1 4 = (U.1 4) from rfl)]
      exact mw_of (fun _ => mu_ret rfl trivial ⟨_, _, rfl, (by unfold wor; rw [if_neg h2, if_neg h4]), rfl⟩)
theorem um_sort (h : um m H) (e : ud m H = U) (hv : v < 2147483648) : mu_TI (mu_D (d + 2)) 126 [.inr (.inr (some m)), .inl (nI v)] H (fun x H1 => x = vso U.1 v ∧ H1 = H) := by
  refine mu_meth (M := mu_m126) rfl rfl ?_
  refine mw_ht (mu_fn_of (show [0, 1].Nodup by decide)) ?_
  refine mw_go mu_g126 (k := 2) (f1 := (4, [(0, .inr (.inr (some m))), (1, .inl (nI v))], [.inr (.inr (mu_r H m 3))], H)) (C := [mu_is H (some m) 6]) rfl (show mu_is H (some m) 6 from (show mu_is H (some m) 6 from gi_im h.1.1 h.2)) ?_
  rw [(show mu_r H m 3 = some (m + 7) from (gi_mr h.1.1 h.2 (j := 3) (by decide)).trans (congrArg some (by omega)))]
  refine mw_go mu_g126 (k := 2) (f1 := (6, [(0, .inr (.inr (some m))), (1, .inl (nI v))], [.inl (1 : Int32), .inl (nI v), .inr (.inr (some (m + 7)))], H)) (C := []) rfl trivial ?_
  refine mw_cIe (fun _ => rfl) (show mu_is H (some (m + 7)) 10 from ((h.1.1.w (md_w3 h.2)).1)) (h.getr (d := d) e (j := 3) (by decide) rfl (nI v) (c := 1) (by decide)) ?_
  rw [show (tget (U.1 3) (nI v) 1) = ((U.1 3).2 v 1) from (congrArg (fun z => tget z (nI v) 1) (show U.1 3 = (U.1 3) from rfl)).trans (tget_nI (by first | omega | decide))]
  refine mw_go mu_g126 (k := 2) (f1 := (11, [(2, .inl ((U.1 3).2 v 1)), (0, .inr (.inr (some m))), (1, .inl (nI v))], [.inl ((U.1 3).2 v 1)], H)) (C := []) rfl trivial ?_
  refine mw_if (P := ((U.1 3).2 v 1) = 0) (a := 14) (b := 16) (fun _ => rfl) trivial (fun h2 => ?_) (fun h2 => ?_)
  · -- 14: ((U.1 3).2 v 1) = 0
    refine mw_go mu_g126 (k := 1) (f1 := (15, [(2, .inl ((U.1 3).2 v 1)), (0, .inr (.inr (some m))), (1, .inl (nI v))], [.inl (1 : Int32)], H)) (C := []) rfl trivial ?_
    exact mw_of (fun _ => mu_ret rfl trivial ⟨_, _, rfl, (by unfold vso; rw [if_pos h2]), rfl⟩)
  · -- 16: not ((U.1 3).2 v 1) = 0
    refine mw_go mu_g126 (k := 2) (f1 := (18, [(2, .inl ((U.1 3).2 v 1)), (0, .inr (.inr (some m))), (1, .inl (nI v))], [.inl (2 : Int32), .inl ((U.1 3).2 v 1)], H)) (C := []) rfl trivial ?_
    refine mw_if (P := ((U.1 3).2 v 1) = (2 : Int32)) (a := 21) (b := 45) (fun _ => rfl) trivial (fun h3 => ?_) (fun h3 => ?_)
    · -- 21: ((U.1 3).2 v 1) = (2 : Int32)
      refine mw_go mu_g126 (k := 2) (f1 := (25, [(2, .inl ((U.1 3).2 v 1)), (0, .inr (.inr (some m))), (1, .inl (nI v))], [.inr (.inr (mu_r H m 4))], H)) (C := [mu_is H (some m) 6]) rfl (show mu_is H (some m) 6 from (show mu_is H (some m) 6 from gi_im h.1.1 h.2)) ?_
      rw [(show mu_r H m 4 = some (m + 9) from (gi_mr h.1.1 h.2 (j := 4) (by decide)).trans (congrArg some (by omega)))]
      refine mw_go mu_g126 (k := 2) (f1 := (29, [(2, .inl ((U.1 3).2 v 1)), (0, .inr (.inr (some m))), (1, .inl (nI v))], [.inr (.inr (mu_r H m 3)), .inr (.inr (some (m + 9)))], H)) (C := [mu_is H (some m) 6]) rfl (show mu_is H (some m) 6 from (show mu_is H (some m) 6 from gi_im h.1.1 h.2)) ?_
      rw [(show mu_r H m 3 = some (m + 7) from (gi_mr h.1.1 h.2 (j := 3) (by decide)).trans (congrArg some (by omega)))]
      refine mw_go mu_g126 (k := 2) (f1 := (31, [(2, .inl ((U.1 3).2 v 1)), (0, .inr (.inr (some m))), (1, .inl (nI v))], [.inl (2 : Int32), .inl (nI v), .inr (.inr (some (m + 7))), .inr (.inr (some (m + 9)))], H)) (C := []) rfl trivial ?_
      refine mw_cIe (fun _ => rfl) (show mu_is H (some (m + 7)) 10 from ((h.1.1.w (md_w3 h.2)).1)) (h.getr (d := d) e (j := 3) (by decide) rfl (nI v) (c := 2) (by decide)) ?_
      rw [show (tget (U.1 3) (nI v) 2) = ((U.1 3).2 v 2) from (congrArg (fun z => tget z (nI v) 2) (show U.1 3 = (U.1 3) from rfl)).trans (tget_nI (by first | omega | decide))]
      refine mw_go mu_g126 (k := 1) (f1 := (35, [(2, .inl ((U.1 3).2 v 1)), (0, .inr (.inr (some m))), (1, .inl (nI v))], [.inl (1 : Int32), .inl ((U.1 3).2 v 2), .inr (.inr (some (m + 9)))], H)) (C := []) rfl trivial ?_
      refine mw_cIe (fun _ => rfl) (show mu_is H (some (m + 9)) 10 from ((h.1.1.w (md_w4 h.2)).1)) (h.getr (d := d) e (j := 4) (by decide) rfl ((U.1 3).2 v 2) (c := 1) (by decide)) ?_
      rw [show (tget (U.1 4) ((U.1 3).2 v 2) 1) = (tget (U.1 4) ((U.1 3).2 v 2) 1) from congrArg (fun z => tget z ((U.1 3).2 v 2) 1) (show U.1 4 = (U.1 4) from rfl)]
      refine mw_if (P := (tget (U.1 4) ((U.1 3).2 v 2) 1) = 0) (a := 45) (b := 41) (fun _ => rfl) trivial (fun h6 => ?_) (fun h6 => ?_)
      · -- 45: (tget (U.1 4) ((U.1 3).2 v 2) 1) = 0
        refine mw_go mu_g126 (k := 1) (f1 := (46, [(2, .inl ((U.1 3).2 v 1)), (0, .inr (.inr (some m))), (1, .inl (nI v))], [.inl (2 : Int32)], H)) (C := []) rfl trivial ?_
        exact mw_of (fun _ => mu_ret rfl trivial ⟨_, _, rfl, (by unfold vso; rw [if_neg h2]; rw [if_neg (fun z => z.2 h6)]), rfl⟩)
      · -- 41: not (tget (U.1 4) ((U.1 3).2 v 2) 1) = 0
        refine mw_go mu_g126 (k := 2) (f1 := (46, [(2, .inl ((U.1 3).2 v 1)), (0, .inr (.inr (some m))), (1, .inl (nI v))], [.inl (3 : Int32)], H)) (C := []) rfl trivial ?_
        exact mw_of (fun _ => mu_ret rfl trivial ⟨_, _, rfl, (by unfold vso; rw [if_neg h2]; rw [if_pos ⟨h3, h6⟩]), rfl⟩)
    · -- 45: not ((U.1 3).2 v 1) = (2 : Int32)
      refine mw_go mu_g126 (k := 1) (f1 := (46, [(2, .inl ((U.1 3).2 v 1)), (0, .inr (.inr (some m))), (1, .inl (nI v))], [.inl (2 : Int32)], H)) (C := []) rfl trivial ?_
      exact mw_of (fun _ => mu_ret rfl trivial ⟨_, _, rfl, (by unfold vso; rw [if_neg h2]; rw [if_neg (fun z => h3 z.1)]), rfl⟩)
/-- PathProver$Prover.worthOf(II)I -/
abbrev mu_m359 : ev_M := (7, (some .int), [], ev_b359)
theorem mu_g359 : mu_good mu_m359 := mu_goodk ev_k359
theorem pr_worthOf0 (h : um m H) (e : ud m H = U) (hmo : U.2.2.2.1 99 0 = some m) (hw : w < 2147483648) (hw0 : (U.1 15).2 w 0 = nI vr) (hvr : vr < 2147483648) (hw2 : (U.1 15).2 w 2 = -1) : mu_TI (mu_D (d + 3)) 359 [.inr (.inr (some 158)), .inl (nI w), .inl (nI s)] H (fun x H1 => x = (if vso U.1 vr = 3 then nI 0 else wor U.1 vr 0) ∧ H1 = H) := by
  refine mu_meth (M := mu_m359) rfl rfl ?_
  refine mw_ht (mu_fn_of (show [0, 1, 2].Nodup by decide)) ?_
  refine mw_go mu_g359 (k := 2) (f1 := (4, [(0, .inr (.inr (some 158))), (1, .inl (nI w)), (2, .inl (nI s))], [.inr (.inr (mu_r H 158 0))], H)) (C := [mu_is H (some 158) 8]) rfl (show mu_is H (some 158) 8 from (h.1.1.is rfl)) ?_
  rw [(h.1.1.r (p := 158) (j := 0) (q := 99) rfl)]
  refine mw_go mu_g359 (k := 1) (f1 := (7, [(0, .inr (.inr (some 158))), (1, .inl (nI w)), (2, .inl (nI s))], [.inr (.inr (mu_r H 99 0))], H)) (C := [mu_is H (some 99) 13]) rfl (show mu_is H (some 99) 13 from (h.1.1.is rfl)) ?_
  rw [(show mu_r H 99 0 = (some m) from (ud_q (U := U) (m := m) (P := 99) (j := 0) e rfl).trans hmo)]
  refine mw_go mu_g359 (k := 3) (f1 := (12, [(3, .inr (.inr (some m))), (0, .inr (.inr (some 158))), (1, .inl (nI w)), (2, .inl (nI s))], [.inr (.inr (mu_r H m 15))], H)) (C := [mu_is H (some m) 6]) rfl (show mu_is H (some m) 6 from (show mu_is H (some m) 6 from gi_im h.1.1 h.2)) ?_
  rw [(show mu_r H m 15 = some (m + 31) from (gi_mr h.1.1 h.2 (j := 15) (by decide)).trans (congrArg some (by omega)))]
  refine mw_go mu_g359 (k := 2) (f1 := (14, [(3, .inr (.inr (some m))), (0, .inr (.inr (some 158))), (1, .inl (nI w)), (2, .inl (nI s))], [.inl (2 : Int32), .inl (nI w), .inr (.inr (some (m + 31)))], H)) (C := []) rfl trivial ?_
  refine mw_cIe (fun _ => rfl) (show mu_is H (some (m + 31)) 10 from ((h.1.1.w (md_w15 h.2)).1)) (h.getr (d := (d + 1)) e (j := 15) (by decide) rfl (nI w) (c := 2) (by decide)) ?_
  rw [show (tget (U.1 15) (nI w) 2) = (-1 : Int32) from ((congrArg (fun z => tget z (nI w) 2) (show U.1 15 = (U.1 15) from rfl)).trans (tget_nI (by first | omega | decide))).trans hw2]
  refine mw_go mu_g359 (k := 2) (f1 := (21, [(4, .inl (-1 : Int32)), (3, .inr (.inr (some m))), (0, .inr (.inr (some 158))), (1, .inl (nI w)), (2, .inl (nI s))], [.inl (-1 : Int32)], H)) (C := []) rfl trivial ?_
  refine mw_if (P := (-1 : Int32) < 0) (a := 24) (b := 28) (fun _ => rfl) trivial (fun h2 => ?_) (fun h2 => absurd (by decide) h2)
  refine mw_go mu_g359 (k := 5) (f1 := (44, [(5, .inl (0 : Int32)), (4, .inl (-1 : Int32)), (3, .inr (.inr (some m))), (0, .inr (.inr (some 158))), (1, .inl (nI w)), (2, .inl (nI s))], [.inr (.inr (mu_r H m 15))], H)) (C := [mu_is H (some m) 6]) rfl (show mu_is H (some m) 6 from (show mu_is H (some m) 6 from gi_im h.1.1 h.2)) ?_
  rw [(show mu_r H m 15 = some (m + 31) from (gi_mr h.1.1 h.2 (j := 15) (by decide)).trans (congrArg some (by omega)))]
  refine mw_go mu_g359 (k := 2) (f1 := (46, [(5, .inl (0 : Int32)), (4, .inl (-1 : Int32)), (3, .inr (.inr (some m))), (0, .inr (.inr (some 158))), (1, .inl (nI w)), (2, .inl (nI s))], [.inl (0 : Int32), .inl (nI w), .inr (.inr (some (m + 31)))], H)) (C := []) rfl trivial ?_
  refine mw_cIe (fun _ => rfl) (show mu_is H (some (m + 31)) 10 from ((h.1.1.w (md_w15 h.2)).1)) (h.getr (d := (d + 1)) e (j := 15) (by decide) rfl (nI w) (c := 0) (by decide)) ?_
  rw [show (tget (U.1 15) (nI w) 0) = (nI vr) from ((congrArg (fun z => tget z (nI w) 0) (show U.1 15 = (U.1 15) from rfl)).trans (tget_nI (by first | omega | decide))).trans hw0]
  refine mw_go mu_g359 (k := 3) (f1 := (54, [(6, .inl (nI vr)), (5, .inl (0 : Int32)), (4, .inl (-1 : Int32)), (3, .inr (.inr (some m))), (0, .inr (.inr (some 158))), (1, .inl (nI w)), (2, .inl (nI s))], [.inl (nI vr), .inr (.inr (some m))], H)) (C := []) rfl trivial ?_
  refine mw_cIe (fun _ => rfl) (show mu_is H (some m) 6 from (show mu_is H (some m) 6 from gi_im h.1.1 h.2)) (um_sort (d := d) (v := vr) h e hvr) ?_
  refine mw_go mu_g359 (k := 1) (f1 := (58, [(6, .inl (nI vr)), (5, .inl (0 : Int32)), (4, .inl (-1 : Int32)), (3, .inr (.inr (some m))), (0, .inr (.inr (some 158))), (1, .inl (nI w)), (2, .inl (nI s))], [.inl (3 : Int32), .inl (vso U.1 vr)], H)) (C := []) rfl trivial ?_
  refine mw_if (P := (vso U.1 vr) = (3 : Int32)) (a := 61) (b := 66) (fun _ => rfl) trivial (fun h5 => ?_) (fun h5 => ?_)
  · -- 61: (vso U.1 vr) = (3 : Int32)
    refine mw_go mu_g359 (k := 2) (f1 := (74, [(6, .inl (nI vr)), (5, .inl (0 : Int32)), (4, .inl (-1 : Int32)), (3, .inr (.inr (some m))), (0, .inr (.inr (some 158))), (1, .inl (nI w)), (2, .inl (nI s))], [.inl (0 : Int32)], H)) (C := []) rfl trivial ?_
    exact mw_of (fun _ => mu_ret rfl trivial ⟨_, _, rfl, (by rw [if_pos h5]; rfl), rfl⟩)
  · -- 66: not (vso U.1 vr) = (3 : Int32)
    refine mw_go mu_g359 (k := 3) (f1 := (71, [(6, .inl (nI vr)), (5, .inl (0 : Int32)), (4, .inl (-1 : Int32)), (3, .inr (.inr (some m))), (0, .inr (.inr (some 158))), (1, .inl (nI w)), (2, .inl (nI s))], [.inl (0 : Int32), .inl (nI vr), .inr (.inr (some m))], H)) (C := []) rfl trivial ?_
    rw [show (0 : Int32) = nI 0 from rfl]
    refine mw_cIe (fun _ => rfl) (show mu_is H (some m) 6 from (show mu_is H (some m) 6 from gi_im h.1.1 h.2)) (um_worth (d := d) (v := vr) (k := 0) h e hvr) ?_
    exact mw_of (fun _ => mu_ret rfl trivial ⟨_, _, rfl, (by rw [if_neg h5]), rfl⟩)
theorem pr_worthOf1 (h : um m H) (e : ud m H = U) (hmo : U.2.2.2.1 99 0 = some m) (hw : w < 2147483648) (hw0 : (U.1 15).2 w 0 = nI vr) (hvr : vr < 2147483648) (hw2 : (U.1 15).2 w 2 = nI pl) (hS : spx m U P f) (hpl : pl < P) (hP : P ≤ 14) (hs : s < 2147483648) : mu_TI (mu_D (d + 3)) 359 [.inr (.inr (some 158)), .inl (nI w), .inl (nI s)] H (fun x H1 => x = (if vso U.1 vr = 3 then nI (s / max 1 (pd f (pl + 1) (P - 1 - pl)) % max 1 (f pl)) else wor U.1 vr (s / max 1 (pd f (pl + 1) (P - 1 - pl)) % max 1 (f pl))) ∧ H1 = H) := by
  refine mu_meth (M := mu_m359) rfl rfl ?_
  refine mw_ht (mu_fn_of (show [0, 1, 2].Nodup by decide)) ?_
  refine mw_go mu_g359 (k := 2) (f1 := (4, [(0, .inr (.inr (some 158))), (1, .inl (nI w)), (2, .inl (nI s))], [.inr (.inr (mu_r H 158 0))], H)) (C := [mu_is H (some 158) 8]) rfl (show mu_is H (some 158) 8 from (h.1.1.is rfl)) ?_
  rw [(h.1.1.r (p := 158) (j := 0) (q := 99) rfl)]
  refine mw_go mu_g359 (k := 1) (f1 := (7, [(0, .inr (.inr (some 158))), (1, .inl (nI w)), (2, .inl (nI s))], [.inr (.inr (mu_r H 99 0))], H)) (C := [mu_is H (some 99) 13]) rfl (show mu_is H (some 99) 13 from (h.1.1.is rfl)) ?_
  rw [(show mu_r H 99 0 = (some m) from (ud_q (U := U) (m := m) (P := 99) (j := 0) e rfl).trans hmo)]
  refine mw_go mu_g359 (k := 3) (f1 := (12, [(3, .inr (.inr (some m))), (0, .inr (.inr (some 158))), (1, .inl (nI w)), (2, .inl (nI s))], [.inr (.inr (mu_r H m 15))], H)) (C := [mu_is H (some m) 6]) rfl (show mu_is H (some m) 6 from (show mu_is H (some m) 6 from gi_im h.1.1 h.2)) ?_
  rw [(show mu_r H m 15 = some (m + 31) from (gi_mr h.1.1 h.2 (j := 15) (by decide)).trans (congrArg some (by omega)))]
  refine mw_go mu_g359 (k := 2) (f1 := (14, [(3, .inr (.inr (some m))), (0, .inr (.inr (some 158))), (1, .inl (nI w)), (2, .inl (nI s))], [.inl (2 : Int32), .inl (nI w), .inr (.inr (some (m + 31)))], H)) (C := []) rfl trivial ?_
  refine mw_cIe (fun _ => rfl) (show mu_is H (some (m + 31)) 10 from ((h.1.1.w (md_w15 h.2)).1)) (h.getr (d := (d + 1)) e (j := 15) (by decide) rfl (nI w) (c := 2) (by decide)) ?_
  rw [show (tget (U.1 15) (nI w) 2) = (nI pl) from ((congrArg (fun z => tget z (nI w) 2) (show U.1 15 = (U.1 15) from rfl)).trans (tget_nI (by first | omega | decide))).trans hw2]
  refine mw_go mu_g359 (k := 2) (f1 := (21, [(4, .inl (nI pl)), (3, .inr (.inr (some m))), (0, .inr (.inr (some 158))), (1, .inl (nI w)), (2, .inl (nI s))], [.inl (nI pl)], H)) (C := []) rfl trivial ?_
  refine mw_if (P := (nI pl) < 0) (a := 24) (b := 28) (fun _ => rfl) trivial (fun h2 => absurd h2 (nI_pos (show pl < 2147483648 by omega))) (fun h2 => ?_)
  refine mw_go mu_g359 (k := 2) (f1 := (32, [(4, .inl (nI pl)), (3, .inr (.inr (some m))), (0, .inr (.inr (some 158))), (1, .inl (nI w)), (2, .inl (nI s))], [.inr (.inr (mu_r H 158 0))], H)) (C := [mu_is H (some 158) 8]) rfl (show mu_is H (some 158) 8 from (h.1.1.is rfl)) ?_
  rw [(h.1.1.r (p := 158) (j := 0) (q := 99) rfl)]
  refine mw_go mu_g359 (k := 2) (f1 := (35, [(4, .inl (nI pl)), (3, .inr (.inr (some m))), (0, .inr (.inr (some 158))), (1, .inl (nI w)), (2, .inl (nI s))], [.inl (nI pl), .inl (nI s), .inr (.inr (some 99))], H)) (C := []) rfl trivial ?_
  refine mw_cIe (fun _ => rfl) (show mu_is H (some 99) 13 from (h.1.1.is rfl)) (sp_digit (d := d) (s := s) (k := pl) h e hS hpl hs) ?_
  refine mw_go mu_g359 (k := 3) (f1 := (44, [(5, .inl (nI (s / max 1 (pd f (pl + 1) (P - 1 - pl)) % max 1 (f pl)))), (4, .inl (nI pl)), (3, .inr (.inr (some m))), (0, .inr (.inr (some 158))), (1, .inl (nI w)), (2, .inl (nI s))], [.inr (.inr (mu_r H m 15))], H)) (C := [mu_is H (some m) 6]) rfl (show mu_is H (some m) 6 from (show mu_is H (some m) 6 from gi_im h.1.1 h.2)) ?_
  rw [(show mu_r H m 15 = some (m + 31) from (gi_mr h.1.1 h.2 (j := 15) (by decide)).trans (congrArg some (by omega)))]
  refine mw_go mu_g359 (k := 2) (f1 := (46, [(5, .inl (nI (s / max 1 (pd f (pl + 1) (P - 1 - pl)) % max 1 (f pl)))), (4, .inl (nI pl)), (3, .inr (.inr (some m))), (0, .inr (.inr (some 158))), (1, .inl (nI w)), (2, .inl (nI s))], [.inl (0 : Int32), .inl (nI w), .inr (.inr (some (m + 31)))], H)) (C := []) rfl trivial ?_
  refine mw_cIe (fun _ => rfl) (show mu_is H (some (m + 31)) 10 from ((h.1.1.w (md_w15 h.2)).1)) (h.getr (d := (d + 1)) e (j := 15) (by decide) rfl (nI w) (c := 0) (by decide)) ?_
  rw [show (tget (U.1 15) (nI w) 0) = (nI vr) from ((congrArg (fun z => tget z (nI w) 0) (show U.1 15 = (U.1 15) from rfl)).trans (tget_nI (by first | omega | decide))).trans hw0]
  refine mw_go mu_g359 (k := 3) (f1 := (54, [(6, .inl (nI vr)), (5, .inl (nI (s / max 1 (pd f (pl + 1) (P - 1 - pl)) % max 1 (f pl)))), (4, .inl (nI pl)), (3, .inr (.inr (some m))), (0, .inr (.inr (some 158))), (1, .inl (nI w)), (2, .inl (nI s))], [.inl (nI vr), .inr (.inr (some m))], H)) (C := []) rfl trivial ?_
  refine mw_cIe (fun _ => rfl) (show mu_is H (some m) 6 from (show mu_is H (some m) 6 from gi_im h.1.1 h.2)) (um_sort (d := d) (v := vr) h e hvr) ?_
  refine mw_go mu_g359 (k := 1) (f1 := (58, [(6, .inl (nI vr)), (5, .inl (nI (s / max 1 (pd f (pl + 1) (P - 1 - pl)) % max 1 (f pl)))), (4, .inl (nI pl)), (3, .inr (.inr (some m))), (0, .inr (.inr (some 158))), (1, .inl (nI w)), (2, .inl (nI s))], [.inl (3 : Int32), .inl (vso U.1 vr)], H)) (C := []) rfl trivial ?_
  refine mw_if (P := (vso U.1 vr) = (3 : Int32)) (a := 61) (b := 66) (fun _ => rfl) trivial (fun h6 => ?_) (fun h6 => ?_)
  · -- 61: (vso U.1 vr) = (3 : Int32)
    refine mw_go mu_g359 (k := 2) (f1 := (74, [(6, .inl (nI vr)), (5, .inl (nI (s / max 1 (pd f (pl + 1) (P - 1 - pl)) % max 1 (f pl)))), (4, .inl (nI pl)), (3, .inr (.inr (some m))), (0, .inr (.inr (some 158))), (1, .inl (nI w)), (2, .inl (nI s))], [.inl (nI (s / max 1 (pd f (pl + 1) (P - 1 - pl)) % max 1 (f pl)))], H)) (C := []) rfl trivial ?_
    exact mw_of (fun _ => mu_ret rfl trivial ⟨_, _, rfl, (by rw [if_pos h6]), rfl⟩)
  · -- 66: not (vso U.1 vr) = (3 : Int32)
    refine mw_go mu_g359 (k := 3) (f1 := (71, [(6, .inl (nI vr)), (5, .inl (nI (s / max 1 (pd f (pl + 1) (P - 1 - pl)) % max 1 (f pl)))), (4, .inl (nI pl)), (3, .inr (.inr (some m))), (0, .inr (.inr (some 158))), (1, .inl (nI w)), (2, .inl (nI s))], [.inl (nI (s / max 1 (pd f (pl + 1) (P - 1 - pl)) % max 1 (f pl))), .inl (nI vr), .inr (.inr (some m))], H)) (C := []) rfl trivial ?_
    refine mw_cIe (fun _ => rfl) (show mu_is H (some m) 6 from (show mu_is H (some m) 6 from gi_im h.1.1 h.2)) (um_worth (d := d) (v := vr) (k := (s / max 1 (pd f (pl + 1) (P - 1 - pl)) % max 1 (f pl))) h e hvr) ?_
    exact mw_of (fun _ => mu_ret rfl trivial ⟨_, _, rfl, (by rw [if_neg h6]), rfl⟩)
end Worth
