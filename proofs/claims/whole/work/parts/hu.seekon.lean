/-! PROVER: one turn of seekOn -/
/-- an item is laid in the place of those from b on -/
def SKB (U : Ud) (b : Nat) (x y : Int32) (a1 : Nat) : Ud := upI (upT (upT U (ac 26 U.1 b)) (ap 26 (ac 26 U.1 b) x y 0 0)) 158 16 (nI a1)
section SeekOn
variable {H : mu_H} {U : Ud} {m d o pa pl b sz at0 to0 st0 jl jr sj : Nat} {C : Nat → Nat} {ar : Int32} {Φ : mu_R → Prop} {PV PW : mu_H → Prop}
/-- PathProver$Prover.seekOn()V -/
abbrev mu_m342 : ev_M := (7, none, [], ev_b342)
theorem mu_g342 : mu_good mu_m342 := mu_goodk ev_k342
/-- an operator that asks for sets -/
theorem sk_front (h : um m H) (e : ud m H = U) (hat : U.2.1 158 16 = nI at0) (hto : U.2.1 158 17 = nI to0) (htb : to0 < 2147483646) (hle : at0 ≤ to0) (hop : at0 < to0 → (U.1 0).2 at0 0 = nI o) (hop9 : ¬ at0 < to0 → o = 9) (har : (U.1 0).2 at0 1 = ar) (ho34 : o ≤ 34) (hpl : plen o pa = pl) (hoa : o = 30 ∨ o = 31 ∨ o = 33 ∨ o = 34 → ar = nI pa) (hab : o = 30 ∨ o = 31 ∨ o = 33 ∨ o = 34 → pa ≤ 16777216) (hz : (U.1 26).1 = sz) (hzb : sz < 2147483646) (hbz : b + pl = sz) (hst0 : (pl = 0 → st0 = at0) ∧ (¬ pl = 0 → (U.1 26).2 b 0 = nI st0)) (hhas : at0 < to0 → ¬ tmd o → mu_TI (mu_D (d + 8)) 348 [.inr (.inr (some 158)), .inl (nI b)] H (fun x H1 => x = 1 ∧ H1 = H)) (hj : mu_W (mu_D (d + 8)) mu_m342 (133, [(0, .inr (.inr (some 158))), (1, .inr (.inr (some m))), (2, .inl (nI o)), (3, .inl (nI pl)), (4, .inl (nI b)), (5, .inl (nI st0)), (6, .inl (-1 : Int32))], [], H) Φ) : mu_W (mu_D (d + 8)) mu_m342 (8, [(0, .inr (.inr (some 158))), (1, .inr (.inr (some m)))], [], H) Φ := by
  refine mw_go mu_g342 (k := 2) (f1 := (12, [(0, .inr (.inr (some 158))), (1, .inr (.inr (some m)))], [.inl (mu_i H 158 16)], H)) (C := [mu_is H (some 158) 8]) rfl (show mu_is H (some 158) 8 from (h.1.1.is rfl)) ?_
  rw [(show mu_i H 158 16 = (nI at0) from (ud_i (U := U) (m := m) (P := 158) (j := 16) e rfl).trans hat)]
  refine mw_go mu_g342 (k := 2) (f1 := (16, [(0, .inr (.inr (some 158))), (1, .inr (.inr (some m)))], [.inl (mu_i H 158 17), .inl (nI at0)], H)) (C := [mu_is H (some 158) 8]) rfl (show mu_is H (some 158) 8 from (h.1.1.is rfl)) ?_
  rw [(show mu_i H 158 17 = (nI to0) from (ud_i (U := U) (m := m) (P := 158) (j := 17) e rfl).trans hto)]
  refine mw_if (P := (nI to0) < (nI at0)) (a := 224) (b := 19) (fun _ => rfl) trivial (fun h1 => absurd h1 (show ¬ (nI to0) < (nI at0) from fun z => absurd ((nI_ltI (by omega) (by omega)).mp z) (by omega))) (fun h1 => ?_)
  refine mw_go mu_g342 (k := 2) (f1 := (23, [(0, .inr (.inr (some 158))), (1, .inr (.inr (some m)))], [.inl (mu_i H 158 16)], H)) (C := [mu_is H (some 158) 8]) rfl (show mu_is H (some 158) 8 from (h.1.1.is rfl)) ?_
  rw [(show mu_i H 158 16 = (nI at0) from (ud_i (U := U) (m := m) (P := 158) (j := 16) e rfl).trans hat)]
  refine mw_go mu_g342 (k := 2) (f1 := (27, [(0, .inr (.inr (some 158))), (1, .inr (.inr (some m)))], [.inl (mu_i H 158 17), .inl (nI at0)], H)) (C := [mu_is H (some 158) 8]) rfl (show mu_is H (some 158) 8 from (h.1.1.is rfl)) ?_
  rw [(show mu_i H 158 17 = (nI to0) from (ud_i (U := U) (m := m) (P := 158) (j := 17) e rfl).trans hto)]
  refine mw_if (P := (nI at0) < (nI to0)) (a := 30) (b := 45) (fun _ => rfl) trivial (fun h2 => ?_) (fun h2 => ?_)
  · -- 30: (nI at0) < (nI to0)
    have nh2 : at0 < to0 := (nI_ltI (by omega) (by omega)).mp (show nI at0 < nI to0 from h2)
    refine mw_go mu_g342 (k := 2) (f1 := (34, [(0, .inr (.inr (some 158))), (1, .inr (.inr (some m)))], [.inr (.inr (mu_r H m 0))], H)) (C := [mu_is H (some m) 6]) rfl (show mu_is H (some m) 6 from (show mu_is H (some m) 6 from gi_im h.1.1 h.2)) ?_
    rw [(show mu_r H m 0 = some (m + 1) from (gi_mr h.1.1 h.2 (j := 0) (by decide)).trans (congrArg some (by omega)))]
    refine mw_go mu_g342 (k := 2) (f1 := (38, [(0, .inr (.inr (some 158))), (1, .inr (.inr (some m)))], [.inl (mu_i H 158 16), .inr (.inr (some (m + 1)))], H)) (C := [mu_is H (some 158) 8]) rfl (show mu_is H (some 158) 8 from (h.1.1.is rfl)) ?_
    rw [(show mu_i H 158 16 = (nI at0) from (ud_i (U := U) (m := m) (P := 158) (j := 16) e rfl).trans hat)]
    refine mw_go mu_g342 (k := 1) (f1 := (39, [(0, .inr (.inr (some 158))), (1, .inr (.inr (some m)))], [.inl (0 : Int32), .inl (nI at0), .inr (.inr (some (m + 1)))], H)) (C := []) rfl trivial ?_
    refine mw_cIe (fun _ => rfl) (show mu_is H (some (m + 1)) 10 from ((h.1.1.w (md_w0 h.2)).1)) (h.getr (d := (d + 7)) e (j := 0) (by decide) rfl (nI at0) (c := 0) (by decide)) ?_
    rw [show (tget (U.1 0) (nI at0) 0) = (nI o) from ((congrArg (fun z => tget z (nI at0) 0) (show U.1 0 = (U.1 0) from rfl)).trans (tget_nI (by first | omega | decide))).trans (hop (by omega))]
    refine mw_go mu_g342 (k := 1) (f1 := (47, [(0, .inr (.inr (some 158))), (1, .inr (.inr (some m)))], [.inl (nI o)], H)) (C := []) rfl trivial ?_
    refine mw_go mu_g342 (k := 4) (f1 := (53, [(2, .inl (nI o)), (0, .inr (.inr (some 158))), (1, .inr (.inr (some m)))], [.inr (.inr (mu_r H m 0)), .inl (nI o)], H)) (C := [mu_is H (some m) 6]) rfl (show mu_is H (some m) 6 from (show mu_is H (some m) 6 from gi_im h.1.1 h.2)) ?_
    rw [(show mu_r H m 0 = some (m + 1) from (gi_mr h.1.1 h.2 (j := 0) (by decide)).trans (congrArg some (by omega)))]
    refine mw_go mu_g342 (k := 2) (f1 := (57, [(2, .inl (nI o)), (0, .inr (.inr (some 158))), (1, .inr (.inr (some m)))], [.inl (mu_i H 158 16), .inr (.inr (some (m + 1))), .inl (nI o)], H)) (C := [mu_is H (some 158) 8]) rfl (show mu_is H (some 158) 8 from (h.1.1.is rfl)) ?_
    rw [(show mu_i H 158 16 = (nI at0) from (ud_i (U := U) (m := m) (P := 158) (j := 16) e rfl).trans hat)]
    refine mw_go mu_g342 (k := 1) (f1 := (58, [(2, .inl (nI o)), (0, .inr (.inr (some 158))), (1, .inr (.inr (some m)))], [.inl (1 : Int32), .inl (nI at0), .inr (.inr (some (m + 1))), .inl (nI o)], H)) (C := []) rfl trivial ?_
    refine mw_cIe (fun _ => rfl) (show mu_is H (some (m + 1)) 10 from ((h.1.1.w (md_w0 h.2)).1)) (h.getr (d := (d + 7)) e (j := 0) (by decide) rfl (nI at0) (c := 1) (by decide)) ?_
    rw [show (tget (U.1 0) (nI at0) 1) = ar from ((congrArg (fun z => tget z (nI at0) 1) (show U.1 0 = (U.1 0) from rfl)).trans (tget_nI (by first | omega | decide))).trans har]
    refine mw_cIe (fun _ => rfl) trivial (pv_parts2 (d := (d + 7)) (H := H) (o := o) (a := pa) ho34 hoa hab) ?_
    rw [hpl]
    refine mw_go mu_g342 (k := 4) (f1 := (70, [(3, .inl (nI pl)), (2, .inl (nI o)), (0, .inr (.inr (some 158))), (1, .inr (.inr (some m)))], [.inr (.inr (mu_r H 158 2)), .inl (0 : Int32)], H)) (C := [mu_is H (some 158) 8]) rfl (show mu_is H (some 158) 8 from (h.1.1.is rfl)) ?_
    rw [(h.1.1.r (p := 158) (j := 2) (q := 159) rfl)]
    refine mw_go mu_g342 (k := 1) (f1 := (73, [(3, .inl (nI pl)), (2, .inl (nI o)), (0, .inr (.inr (some 158))), (1, .inr (.inr (some m)))], [.inl (mu_i H 159 2), .inl (0 : Int32)], H)) (C := [mu_is H (some 159) 10]) rfl (show mu_is H (some 159) 10 from (h.1.1.is rfl)) ?_
    rw [(show mu_i H 159 2 = (nI sz) from (h.size e (j := 26) (by decide) rfl).trans (congrArg nI ((congrArg Prod.fst (show U.1 26 = (U.1 26) from rfl)).trans hz)))]
    refine mw_go mu_g342 (k := 2) (f1 := (75, [(3, .inl (nI pl)), (2, .inl (nI o)), (0, .inr (.inr (some 158))), (1, .inr (.inr (some m)))], [.inl ((nI sz) - (nI pl)), .inl (0 : Int32)], H)) (C := []) rfl trivial ?_
    rw [(show ((nI sz) - (nI pl)) = (nI (sz - pl)) from (nI_sub (a := sz) (b := pl) (by omega)))]
    refine mw_cIe (fun _ => rfl) trivial (mu_max_ok (d := (d + 7)) (0 : Int32) (nI (sz - pl))) ?_
    rw [show (mu_max (0 : Int32) (nI (sz - pl))) = nI b from (mu_max_n (a := 0) (b := sz - pl) (by omega) (by omega)).trans (congrArg nI (by omega))]
    refine mw_go mu_g342 (k := 2) (f1 := (81, [(4, .inl (nI b)), (3, .inl (nI pl)), (2, .inl (nI o)), (0, .inr (.inr (some 158))), (1, .inr (.inr (some m)))], [.inl (nI pl)], H)) (C := []) rfl trivial ?_
    refine mw_if (P := (nI pl) = 0) (a := 84) (b := 91) (fun _ => rfl) trivial (fun h7 => ?_) (fun h7 => ?_)
    · -- 84: (nI pl) = 0
      have nh7 : pl = 0 := (nI_eq (by omega) (by omega)).mp (show nI pl = nI 0 from h7)
      refine mw_go mu_g342 (k := 2) (f1 := (88, [(4, .inl (nI b)), (3, .inl (nI pl)), (2, .inl (nI o)), (0, .inr (.inr (some 158))), (1, .inr (.inr (some m)))], [.inl (mu_i H 158 16)], H)) (C := [mu_is H (some 158) 8]) rfl (show mu_is H (some 158) 8 from (h.1.1.is rfl)) ?_
      rw [(show mu_i H 158 16 = (nI at0) from (ud_i (U := U) (m := m) (P := 158) (j := 16) e rfl).trans hat)]
      refine mw_go mu_g342 (k := 1) (f1 := (101, [(4, .inl (nI b)), (3, .inl (nI pl)), (2, .inl (nI o)), (0, .inr (.inr (some 158))), (1, .inr (.inr (some m)))], [.inl (nI at0)], H)) (C := []) rfl trivial ?_
      rw [show nI at0 = nI st0 from congrArg nI (hst0.1 (by omega)).symm]
      refine mw_go mu_g342 (k := 5) (f1 := (110, [(6, .inl (-1 : Int32)), (5, .inl (nI st0)), (4, .inl (nI b)), (3, .inl (nI pl)), (2, .inl (nI o)), (0, .inr (.inr (some 158))), (1, .inr (.inr (some m)))], [.inl (mu_i H 158 16)], H)) (C := [mu_is H (some 158) 8]) rfl (show mu_is H (some 158) 8 from (h.1.1.is rfl)) ?_
      rw [(show mu_i H 158 16 = (nI at0) from (ud_i (U := U) (m := m) (P := 158) (j := 16) e rfl).trans hat)]
      refine mw_go mu_g342 (k := 2) (f1 := (114, [(6, .inl (-1 : Int32)), (5, .inl (nI st0)), (4, .inl (nI b)), (3, .inl (nI pl)), (2, .inl (nI o)), (0, .inr (.inr (some 158))), (1, .inr (.inr (some m)))], [.inl (mu_i H 158 17), .inl (nI at0)], H)) (C := [mu_is H (some 158) 8]) rfl (show mu_is H (some 158) 8 from (h.1.1.is rfl)) ?_
      rw [(show mu_i H 158 17 = (nI to0) from (ud_i (U := U) (m := m) (P := 158) (j := 17) e rfl).trans hto)]
      refine mw_if (P := (nI at0) = (nI to0)) (a := 133) (b := 117) (fun _ => rfl) trivial (fun h8 => ?_) (fun h8 => ?_)
      · -- 133: (nI at0) = (nI to0)
        have nh8 : at0 = to0 := (nI_eq (by omega) (by omega)).mp (show nI at0 = nI to0 from h8)
        exact mw_sub (by simp) hj
      · -- 117: not (nI at0) = (nI to0)
        have nh8 : ¬ at0 = to0 := fun z => h8 (show nI at0 = nI to0 from (nI_eq (by omega) (by omega)).mpr z)
        refine mw_go mu_g342 (k := 1) (f1 := (118, [(6, .inl (-1 : Int32)), (5, .inl (nI st0)), (4, .inl (nI b)), (3, .inl (nI pl)), (2, .inl (nI o)), (0, .inr (.inr (some 158))), (1, .inr (.inr (some m)))], [.inl (nI o)], H)) (C := []) rfl trivial ?_
        refine mw_cI (fun _ => rfl) trivial ((pv_timed2 (d := (d + 7)) (H := H) (o := o) ho34).imp (fun x H1 q => show (x = 1 ∧ tmd o ∧ H = H1) ∨ (x = 0 ∧ ¬ tmd o ∧ H = H1) from q.1.elim (fun y => Or.inr ⟨y.1, y.2, q.2.symm⟩) (fun y => Or.inl ⟨y.1, y.2, q.2.symm⟩))) (fun x9 H9 q9 => ?_)
        rcases q9 with ⟨rfl, htm, rfl⟩ | ⟨rfl, htm, rfl⟩
        · -- (1 : Int32)
          refine mw_if (P := (1 : Int32) = 0) (a := 124) (b := 133) (fun _ => rfl) trivial (fun h10 => absurd h10 (by decide)) (fun h10 => ?_)
          exact mw_sub (by simp) hj
        · -- (0 : Int32)
          refine mw_if (P := (0 : Int32) = 0) (a := 124) (b := 133) (fun _ => rfl) trivial (fun h11 => ?_) (fun h11 => absurd (by decide) h11)
          refine mw_go mu_g342 (k := 2) (f1 := (127, [(6, .inl (-1 : Int32)), (5, .inl (nI st0)), (4, .inl (nI b)), (3, .inl (nI pl)), (2, .inl (nI o)), (0, .inr (.inr (some 158))), (1, .inr (.inr (some m)))], [.inl (nI b), .inr (.inr (some 158))], H)) (C := []) rfl trivial ?_
          refine mw_cIe (fun _ => rfl) (show mu_is H (some 158) 8 from (h.1.1.is rfl)) (hhas (by omega) htm) ?_
          refine mw_if (P := (1 : Int32) = 0) (a := 188) (b := 133) (fun _ => rfl) trivial (fun h13 => absurd h13 (by decide)) (fun h13 => ?_)
          exact mw_sub (by simp) hj
    · -- 91: not (nI pl) = 0
      have nh7 : ¬ pl = 0 := fun z => h7 (show nI pl = nI 0 from (nI_eq (by omega) (by omega)).mpr z)
      refine mw_go mu_g342 (k := 2) (f1 := (95, [(4, .inl (nI b)), (3, .inl (nI pl)), (2, .inl (nI o)), (0, .inr (.inr (some 158))), (1, .inr (.inr (some m)))], [.inr (.inr (mu_r H 158 2))], H)) (C := [mu_is H (some 158) 8]) rfl (show mu_is H (some 158) 8 from (h.1.1.is rfl)) ?_
      rw [(h.1.1.r (p := 158) (j := 2) (q := 159) rfl)]
      refine mw_go mu_g342 (k := 2) (f1 := (98, [(4, .inl (nI b)), (3, .inl (nI pl)), (2, .inl (nI o)), (0, .inr (.inr (some 158))), (1, .inr (.inr (some m)))], [.inl (0 : Int32), .inl (nI b), .inr (.inr (some 159))], H)) (C := []) rfl trivial ?_
      refine mw_cIe (fun _ => rfl) (show mu_is H (some 159) 10 from (h.1.1.is rfl)) (h.getr (d := (d + 7)) e (j := 26) (by decide) rfl (nI b) (c := 0) (by decide)) ?_
      rw [show (tget (U.1 26) (nI b) 0) = (nI st0) from ((congrArg (fun z => tget z (nI b) 0) (show U.1 26 = (U.1 26) from rfl)).trans (tget_nI (by first | omega | decide))).trans (hst0.2 (by omega))]
      refine mw_go mu_g342 (k := 5) (f1 := (110, [(6, .inl (-1 : Int32)), (5, .inl (nI st0)), (4, .inl (nI b)), (3, .inl (nI pl)), (2, .inl (nI o)), (0, .inr (.inr (some 158))), (1, .inr (.inr (some m)))], [.inl (mu_i H 158 16)], H)) (C := [mu_is H (some 158) 8]) rfl (show mu_is H (some 158) 8 from (h.1.1.is rfl)) ?_
      rw [(show mu_i H 158 16 = (nI at0) from (ud_i (U := U) (m := m) (P := 158) (j := 16) e rfl).trans hat)]
      refine mw_go mu_g342 (k := 2) (f1 := (114, [(6, .inl (-1 : Int32)), (5, .inl (nI st0)), (4, .inl (nI b)), (3, .inl (nI pl)), (2, .inl (nI o)), (0, .inr (.inr (some 158))), (1, .inr (.inr (some m)))], [.inl (mu_i H 158 17), .inl (nI at0)], H)) (C := [mu_is H (some 158) 8]) rfl (show mu_is H (some 158) 8 from (h.1.1.is rfl)) ?_
      rw [(show mu_i H 158 17 = (nI to0) from (ud_i (U := U) (m := m) (P := 158) (j := 17) e rfl).trans hto)]
      refine mw_if (P := (nI at0) = (nI to0)) (a := 133) (b := 117) (fun _ => rfl) trivial (fun h15 => ?_) (fun h15 => ?_)
      · -- 133: (nI at0) = (nI to0)
        have nh15 : at0 = to0 := (nI_eq (by omega) (by omega)).mp (show nI at0 = nI to0 from h15)
        exact mw_sub (by simp) hj
      · -- 117: not (nI at0) = (nI to0)
        have nh15 : ¬ at0 = to0 := fun z => h15 (show nI at0 = nI to0 from (nI_eq (by omega) (by omega)).mpr z)
        refine mw_go mu_g342 (k := 1) (f1 := (118, [(6, .inl (-1 : Int32)), (5, .inl (nI st0)), (4, .inl (nI b)), (3, .inl (nI pl)), (2, .inl (nI o)), (0, .inr (.inr (some 158))), (1, .inr (.inr (some m)))], [.inl (nI o)], H)) (C := []) rfl trivial ?_
        refine mw_cI (fun _ => rfl) trivial ((pv_timed2 (d := (d + 7)) (H := H) (o := o) ho34).imp (fun x H1 q => show (x = 1 ∧ tmd o ∧ H = H1) ∨ (x = 0 ∧ ¬ tmd o ∧ H = H1) from q.1.elim (fun y => Or.inr ⟨y.1, y.2, q.2.symm⟩) (fun y => Or.inl ⟨y.1, y.2, q.2.symm⟩))) (fun x16 H16 q16 => ?_)
        rcases q16 with ⟨rfl, htm, rfl⟩ | ⟨rfl, htm, rfl⟩
        · -- (1 : Int32)
          refine mw_if (P := (1 : Int32) = 0) (a := 124) (b := 133) (fun _ => rfl) trivial (fun h17 => absurd h17 (by decide)) (fun h17 => ?_)
          exact mw_sub (by simp) hj
        · -- (0 : Int32)
          refine mw_if (P := (0 : Int32) = 0) (a := 124) (b := 133) (fun _ => rfl) trivial (fun h18 => ?_) (fun h18 => absurd (by decide) h18)
          refine mw_go mu_g342 (k := 2) (f1 := (127, [(6, .inl (-1 : Int32)), (5, .inl (nI st0)), (4, .inl (nI b)), (3, .inl (nI pl)), (2, .inl (nI o)), (0, .inr (.inr (some 158))), (1, .inr (.inr (some m)))], [.inl (nI b), .inr (.inr (some 158))], H)) (C := []) rfl trivial ?_
          refine mw_cIe (fun _ => rfl) (show mu_is H (some 158) 8 from (h.1.1.is rfl)) (hhas (by omega) htm) ?_
          refine mw_if (P := (1 : Int32) = 0) (a := 188) (b := 133) (fun _ => rfl) trivial (fun h20 => absurd h20 (by decide)) (fun h20 => ?_)
          exact mw_sub (by simp) hj
  · -- 45: not (nI at0) < (nI to0)
    have nh2 : ¬ at0 < to0 := fun z => h2 (show nI at0 < nI to0 from (nI_ltI (by omega) (by omega)).mpr z)
    refine mw_go mu_g342 (k := 1) (f1 := (47, [(0, .inr (.inr (some 158))), (1, .inr (.inr (some m)))], [.inl (9 : Int32)], H)) (C := []) rfl trivial ?_
    rw [show (9 : Int32) = nI o from by rw [hop9 (by omega)]; rfl]
    refine mw_go mu_g342 (k := 4) (f1 := (53, [(2, .inl (nI o)), (0, .inr (.inr (some 158))), (1, .inr (.inr (some m)))], [.inr (.inr (mu_r H m 0)), .inl (nI o)], H)) (C := [mu_is H (some m) 6]) rfl (show mu_is H (some m) 6 from (show mu_is H (some m) 6 from gi_im h.1.1 h.2)) ?_
    rw [(show mu_r H m 0 = some (m + 1) from (gi_mr h.1.1 h.2 (j := 0) (by decide)).trans (congrArg some (by omega)))]
    refine mw_go mu_g342 (k := 2) (f1 := (57, [(2, .inl (nI o)), (0, .inr (.inr (some 158))), (1, .inr (.inr (some m)))], [.inl (mu_i H 158 16), .inr (.inr (some (m + 1))), .inl (nI o)], H)) (C := [mu_is H (some 158) 8]) rfl (show mu_is H (some 158) 8 from (h.1.1.is rfl)) ?_
    rw [(show mu_i H 158 16 = (nI at0) from (ud_i (U := U) (m := m) (P := 158) (j := 16) e rfl).trans hat)]
    refine mw_go mu_g342 (k := 1) (f1 := (58, [(2, .inl (nI o)), (0, .inr (.inr (some 158))), (1, .inr (.inr (some m)))], [.inl (1 : Int32), .inl (nI at0), .inr (.inr (some (m + 1))), .inl (nI o)], H)) (C := []) rfl trivial ?_
    refine mw_cIe (fun _ => rfl) (show mu_is H (some (m + 1)) 10 from ((h.1.1.w (md_w0 h.2)).1)) (h.getr (d := (d + 7)) e (j := 0) (by decide) rfl (nI at0) (c := 1) (by decide)) ?_
    rw [show (tget (U.1 0) (nI at0) 1) = ar from ((congrArg (fun z => tget z (nI at0) 1) (show U.1 0 = (U.1 0) from rfl)).trans (tget_nI (by first | omega | decide))).trans har]
    refine mw_cIe (fun _ => rfl) trivial (pv_parts2 (d := (d + 7)) (H := H) (o := o) (a := pa) ho34 hoa hab) ?_
    rw [hpl]
    refine mw_go mu_g342 (k := 4) (f1 := (70, [(3, .inl (nI pl)), (2, .inl (nI o)), (0, .inr (.inr (some 158))), (1, .inr (.inr (some m)))], [.inr (.inr (mu_r H 158 2)), .inl (0 : Int32)], H)) (C := [mu_is H (some 158) 8]) rfl (show mu_is H (some 158) 8 from (h.1.1.is rfl)) ?_
    rw [(h.1.1.r (p := 158) (j := 2) (q := 159) rfl)]
    refine mw_go mu_g342 (k := 1) (f1 := (73, [(3, .inl (nI pl)), (2, .inl (nI o)), (0, .inr (.inr (some 158))), (1, .inr (.inr (some m)))], [.inl (mu_i H 159 2), .inl (0 : Int32)], H)) (C := [mu_is H (some 159) 10]) rfl (show mu_is H (some 159) 10 from (h.1.1.is rfl)) ?_
    rw [(show mu_i H 159 2 = (nI sz) from (h.size e (j := 26) (by decide) rfl).trans (congrArg nI ((congrArg Prod.fst (show U.1 26 = (U.1 26) from rfl)).trans hz)))]
    refine mw_go mu_g342 (k := 2) (f1 := (75, [(3, .inl (nI pl)), (2, .inl (nI o)), (0, .inr (.inr (some 158))), (1, .inr (.inr (some m)))], [.inl ((nI sz) - (nI pl)), .inl (0 : Int32)], H)) (C := []) rfl trivial ?_
    rw [(show ((nI sz) - (nI pl)) = (nI (sz - pl)) from (nI_sub (a := sz) (b := pl) (by omega)))]
    refine mw_cIe (fun _ => rfl) trivial (mu_max_ok (d := (d + 7)) (0 : Int32) (nI (sz - pl))) ?_
    rw [show (mu_max (0 : Int32) (nI (sz - pl))) = nI b from (mu_max_n (a := 0) (b := sz - pl) (by omega) (by omega)).trans (congrArg nI (by omega))]
    refine mw_go mu_g342 (k := 2) (f1 := (81, [(4, .inl (nI b)), (3, .inl (nI pl)), (2, .inl (nI o)), (0, .inr (.inr (some 158))), (1, .inr (.inr (some m)))], [.inl (nI pl)], H)) (C := []) rfl trivial ?_
    refine mw_if (P := (nI pl) = 0) (a := 84) (b := 91) (fun _ => rfl) trivial (fun h24 => ?_) (fun h24 => ?_)
    · -- 84: (nI pl) = 0
      have nh24 : pl = 0 := (nI_eq (by omega) (by omega)).mp (show nI pl = nI 0 from h24)
      refine mw_go mu_g342 (k := 2) (f1 := (88, [(4, .inl (nI b)), (3, .inl (nI pl)), (2, .inl (nI o)), (0, .inr (.inr (some 158))), (1, .inr (.inr (some m)))], [.inl (mu_i H 158 16)], H)) (C := [mu_is H (some 158) 8]) rfl (show mu_is H (some 158) 8 from (h.1.1.is rfl)) ?_
      rw [(show mu_i H 158 16 = (nI at0) from (ud_i (U := U) (m := m) (P := 158) (j := 16) e rfl).trans hat)]
      refine mw_go mu_g342 (k := 1) (f1 := (101, [(4, .inl (nI b)), (3, .inl (nI pl)), (2, .inl (nI o)), (0, .inr (.inr (some 158))), (1, .inr (.inr (some m)))], [.inl (nI at0)], H)) (C := []) rfl trivial ?_
      rw [show nI at0 = nI st0 from congrArg nI (hst0.1 (by omega)).symm]
      refine mw_go mu_g342 (k := 5) (f1 := (110, [(6, .inl (-1 : Int32)), (5, .inl (nI st0)), (4, .inl (nI b)), (3, .inl (nI pl)), (2, .inl (nI o)), (0, .inr (.inr (some 158))), (1, .inr (.inr (some m)))], [.inl (mu_i H 158 16)], H)) (C := [mu_is H (some 158) 8]) rfl (show mu_is H (some 158) 8 from (h.1.1.is rfl)) ?_
      rw [(show mu_i H 158 16 = (nI at0) from (ud_i (U := U) (m := m) (P := 158) (j := 16) e rfl).trans hat)]
      refine mw_go mu_g342 (k := 2) (f1 := (114, [(6, .inl (-1 : Int32)), (5, .inl (nI st0)), (4, .inl (nI b)), (3, .inl (nI pl)), (2, .inl (nI o)), (0, .inr (.inr (some 158))), (1, .inr (.inr (some m)))], [.inl (mu_i H 158 17), .inl (nI at0)], H)) (C := [mu_is H (some 158) 8]) rfl (show mu_is H (some 158) 8 from (h.1.1.is rfl)) ?_
      rw [(show mu_i H 158 17 = (nI to0) from (ud_i (U := U) (m := m) (P := 158) (j := 17) e rfl).trans hto)]
      refine mw_if (P := (nI at0) = (nI to0)) (a := 133) (b := 117) (fun _ => rfl) trivial (fun h25 => ?_) (fun h25 => ?_)
      · -- 133: (nI at0) = (nI to0)
        have nh25 : at0 = to0 := (nI_eq (by omega) (by omega)).mp (show nI at0 = nI to0 from h25)
        exact mw_sub (by simp) hj
      · -- 117: not (nI at0) = (nI to0)
        have nh25 : ¬ at0 = to0 := fun z => h25 (show nI at0 = nI to0 from (nI_eq (by omega) (by omega)).mpr z)
        refine mw_go mu_g342 (k := 1) (f1 := (118, [(6, .inl (-1 : Int32)), (5, .inl (nI st0)), (4, .inl (nI b)), (3, .inl (nI pl)), (2, .inl (nI o)), (0, .inr (.inr (some 158))), (1, .inr (.inr (some m)))], [.inl (nI o)], H)) (C := []) rfl trivial ?_
        refine mw_cI (fun _ => rfl) trivial ((pv_timed2 (d := (d + 7)) (H := H) (o := o) ho34).imp (fun x H1 q => show (x = 1 ∧ tmd o ∧ H = H1) ∨ (x = 0 ∧ ¬ tmd o ∧ H = H1) from q.1.elim (fun y => Or.inr ⟨y.1, y.2, q.2.symm⟩) (fun y => Or.inl ⟨y.1, y.2, q.2.symm⟩))) (fun x26 H26 q26 => ?_)
        rcases q26 with ⟨rfl, htm, rfl⟩ | ⟨rfl, htm, rfl⟩
        · -- (1 : Int32)
          refine mw_if (P := (1 : Int32) = 0) (a := 124) (b := 133) (fun _ => rfl) trivial (fun h27 => absurd h27 (by decide)) (fun h27 => ?_)
          exact mw_sub (by simp) hj
        · -- (0 : Int32)
          refine mw_if (P := (0 : Int32) = 0) (a := 124) (b := 133) (fun _ => rfl) trivial (fun h28 => ?_) (fun h28 => absurd (by decide) h28)
          refine mw_go mu_g342 (k := 2) (f1 := (127, [(6, .inl (-1 : Int32)), (5, .inl (nI st0)), (4, .inl (nI b)), (3, .inl (nI pl)), (2, .inl (nI o)), (0, .inr (.inr (some 158))), (1, .inr (.inr (some m)))], [.inl (nI b), .inr (.inr (some 158))], H)) (C := []) rfl trivial ?_
          refine mw_cIe (fun _ => rfl) (show mu_is H (some 158) 8 from (h.1.1.is rfl)) (hhas (by omega) htm) ?_
          refine mw_if (P := (1 : Int32) = 0) (a := 188) (b := 133) (fun _ => rfl) trivial (fun h30 => absurd h30 (by decide)) (fun h30 => ?_)
          exact mw_sub (by simp) hj
    · -- 91: not (nI pl) = 0
      have nh24 : ¬ pl = 0 := fun z => h24 (show nI pl = nI 0 from (nI_eq (by omega) (by omega)).mpr z)
      refine mw_go mu_g342 (k := 2) (f1 := (95, [(4, .inl (nI b)), (3, .inl (nI pl)), (2, .inl (nI o)), (0, .inr (.inr (some 158))), (1, .inr (.inr (some m)))], [.inr (.inr (mu_r H 158 2))], H)) (C := [mu_is H (some 158) 8]) rfl (show mu_is H (some 158) 8 from (h.1.1.is rfl)) ?_
      rw [(h.1.1.r (p := 158) (j := 2) (q := 159) rfl)]
      refine mw_go mu_g342 (k := 2) (f1 := (98, [(4, .inl (nI b)), (3, .inl (nI pl)), (2, .inl (nI o)), (0, .inr (.inr (some 158))), (1, .inr (.inr (some m)))], [.inl (0 : Int32), .inl (nI b), .inr (.inr (some 159))], H)) (C := []) rfl trivial ?_
      refine mw_cIe (fun _ => rfl) (show mu_is H (some 159) 10 from (h.1.1.is rfl)) (h.getr (d := (d + 7)) e (j := 26) (by decide) rfl (nI b) (c := 0) (by decide)) ?_
      rw [show (tget (U.1 26) (nI b) 0) = (nI st0) from ((congrArg (fun z => tget z (nI b) 0) (show U.1 26 = (U.1 26) from rfl)).trans (tget_nI (by first | omega | decide))).trans (hst0.2 (by omega))]
      refine mw_go mu_g342 (k := 5) (f1 := (110, [(6, .inl (-1 : Int32)), (5, .inl (nI st0)), (4, .inl (nI b)), (3, .inl (nI pl)), (2, .inl (nI o)), (0, .inr (.inr (some 158))), (1, .inr (.inr (some m)))], [.inl (mu_i H 158 16)], H)) (C := [mu_is H (some 158) 8]) rfl (show mu_is H (some 158) 8 from (h.1.1.is rfl)) ?_
      rw [(show mu_i H 158 16 = (nI at0) from (ud_i (U := U) (m := m) (P := 158) (j := 16) e rfl).trans hat)]
      refine mw_go mu_g342 (k := 2) (f1 := (114, [(6, .inl (-1 : Int32)), (5, .inl (nI st0)), (4, .inl (nI b)), (3, .inl (nI pl)), (2, .inl (nI o)), (0, .inr (.inr (some 158))), (1, .inr (.inr (some m)))], [.inl (mu_i H 158 17), .inl (nI at0)], H)) (C := [mu_is H (some 158) 8]) rfl (show mu_is H (some 158) 8 from (h.1.1.is rfl)) ?_
      rw [(show mu_i H 158 17 = (nI to0) from (ud_i (U := U) (m := m) (P := 158) (j := 17) e rfl).trans hto)]
      refine mw_if (P := (nI at0) = (nI to0)) (a := 133) (b := 117) (fun _ => rfl) trivial (fun h32 => ?_) (fun h32 => ?_)
      · -- 133: (nI at0) = (nI to0)
        have nh32 : at0 = to0 := (nI_eq (by omega) (by omega)).mp (show nI at0 = nI to0 from h32)
        exact mw_sub (by simp) hj
      · -- 117: not (nI at0) = (nI to0)
        have nh32 : ¬ at0 = to0 := fun z => h32 (show nI at0 = nI to0 from (nI_eq (by omega) (by omega)).mpr z)
        refine mw_go mu_g342 (k := 1) (f1 := (118, [(6, .inl (-1 : Int32)), (5, .inl (nI st0)), (4, .inl (nI b)), (3, .inl (nI pl)), (2, .inl (nI o)), (0, .inr (.inr (some 158))), (1, .inr (.inr (some m)))], [.inl (nI o)], H)) (C := []) rfl trivial ?_
        refine mw_cI (fun _ => rfl) trivial ((pv_timed2 (d := (d + 7)) (H := H) (o := o) ho34).imp (fun x H1 q => show (x = 1 ∧ tmd o ∧ H = H1) ∨ (x = 0 ∧ ¬ tmd o ∧ H = H1) from q.1.elim (fun y => Or.inr ⟨y.1, y.2, q.2.symm⟩) (fun y => Or.inl ⟨y.1, y.2, q.2.symm⟩))) (fun x33 H33 q33 => ?_)
        rcases q33 with ⟨rfl, htm, rfl⟩ | ⟨rfl, htm, rfl⟩
        · -- (1 : Int32)
          refine mw_if (P := (1 : Int32) = 0) (a := 124) (b := 133) (fun _ => rfl) trivial (fun h34 => absurd h34 (by decide)) (fun h34 => ?_)
          exact mw_sub (by simp) hj
        · -- (0 : Int32)
          refine mw_if (P := (0 : Int32) = 0) (a := 124) (b := 133) (fun _ => rfl) trivial (fun h35 => ?_) (fun h35 => absurd (by decide) h35)
          refine mw_go mu_g342 (k := 2) (f1 := (127, [(6, .inl (-1 : Int32)), (5, .inl (nI st0)), (4, .inl (nI b)), (3, .inl (nI pl)), (2, .inl (nI o)), (0, .inr (.inr (some 158))), (1, .inr (.inr (some m)))], [.inl (nI b), .inr (.inr (some 158))], H)) (C := []) rfl trivial ?_
          refine mw_cIe (fun _ => rfl) (show mu_is H (some 158) 8 from (h.1.1.is rfl)) (hhas (by omega) htm) ?_
          refine mw_if (P := (1 : Int32) = 0) (a := 188) (b := 133) (fun _ => rfl) trivial (fun h37 => absurd h37 (by decide)) (fun h37 => ?_)
          exact mw_sub (by simp) hj
/-- a part without EX ..: nothing is reckoned yet -/
theorem sk_skip (h : um m H) (e : ud m H = U) (hat : U.2.1 158 16 = nI at0) (hto : U.2.1 158 17 = nI to0) (htb : to0 < 2147483646) (hle : at0 ≤ to0) (hop : at0 < to0 → (U.1 0).2 at0 0 = nI o) (hop9 : ¬ at0 < to0 → o = 9) (har : (U.1 0).2 at0 1 = ar) (ho34 : o ≤ 34) (hpl : plen o pa = pl) (hoa : o = 30 ∨ o = 31 ∨ o = 33 ∨ o = 34 → ar = nI pa) (hab : o = 30 ∨ o = 31 ∨ o = 33 ∨ o = 34 → pa ≤ 16777216) (hz : (U.1 26).1 = sz) (hzb : sz < 2147483646) (hbz : b + pl = sz) (hst0 : (pl = 0 → st0 = at0) ∧ (¬ pl = 0 → (U.1 26).2 b 0 = nI st0)) (hlt : at0 < to0) (hnt : ¬ tmd o) (hhas : mu_TI (mu_D (d + 8)) 348 [.inr (.inr (some 158)), .inl (nI b)] H (fun x H1 => x = 0 ∧ H1 = H)) (hC26 : 2 * ((sz + 2) * 2) + 2 ≤ C 26) (hC26b : C 26 ≤ 8388608) (hback : ∀ H3, um m H3 → ur m C H H3 → ud m H3 = SKB U b (nI st0) (-1) (at0 + 1) → mu_W (mu_D (d + 8)) mu_m342 (8, [(0, .inr (.inr (some 158))), (1, .inr (.inr (some m)))], [], H3) Φ) : mu_W (mu_D (d + 8)) mu_m342 (8, [(0, .inr (.inr (some 158))), (1, .inr (.inr (some m)))], [], H) Φ := by
  refine mw_go mu_g342 (k := 2) (f1 := (12, [(0, .inr (.inr (some 158))), (1, .inr (.inr (some m)))], [.inl (mu_i H 158 16)], H)) (C := [mu_is H (some 158) 8]) rfl (show mu_is H (some 158) 8 from (h.1.1.is rfl)) ?_
  rw [(show mu_i H 158 16 = (nI at0) from (ud_i (U := U) (m := m) (P := 158) (j := 16) e rfl).trans hat)]
  refine mw_go mu_g342 (k := 2) (f1 := (16, [(0, .inr (.inr (some 158))), (1, .inr (.inr (some m)))], [.inl (mu_i H 158 17), .inl (nI at0)], H)) (C := [mu_is H (some 158) 8]) rfl (show mu_is H (some 158) 8 from (h.1.1.is rfl)) ?_
  rw [(show mu_i H 158 17 = (nI to0) from (ud_i (U := U) (m := m) (P := 158) (j := 17) e rfl).trans hto)]
  refine mw_if (P := (nI to0) < (nI at0)) (a := 224) (b := 19) (fun _ => rfl) trivial (fun h1 => absurd h1 (show ¬ (nI to0) < (nI at0) from fun z => absurd ((nI_ltI (by omega) (by omega)).mp z) (by omega))) (fun h1 => ?_)
  refine mw_go mu_g342 (k := 2) (f1 := (23, [(0, .inr (.inr (some 158))), (1, .inr (.inr (some m)))], [.inl (mu_i H 158 16)], H)) (C := [mu_is H (some 158) 8]) rfl (show mu_is H (some 158) 8 from (h.1.1.is rfl)) ?_
  rw [(show mu_i H 158 16 = (nI at0) from (ud_i (U := U) (m := m) (P := 158) (j := 16) e rfl).trans hat)]
  refine mw_go mu_g342 (k := 2) (f1 := (27, [(0, .inr (.inr (some 158))), (1, .inr (.inr (some m)))], [.inl (mu_i H 158 17), .inl (nI at0)], H)) (C := [mu_is H (some 158) 8]) rfl (show mu_is H (some 158) 8 from (h.1.1.is rfl)) ?_
  rw [(show mu_i H 158 17 = (nI to0) from (ud_i (U := U) (m := m) (P := 158) (j := 17) e rfl).trans hto)]
  refine mw_if (P := (nI at0) < (nI to0)) (a := 30) (b := 45) (fun _ => rfl) trivial (fun h2 => ?_) (fun h2 => absurd (show (nI at0) < (nI to0) from (nI_ltI (by omega) (by omega)).mpr hlt) h2)
  refine mw_go mu_g342 (k := 2) (f1 := (34, [(0, .inr (.inr (some 158))), (1, .inr (.inr (some m)))], [.inr (.inr (mu_r H m 0))], H)) (C := [mu_is H (some m) 6]) rfl (show mu_is H (some m) 6 from (show mu_is H (some m) 6 from gi_im h.1.1 h.2)) ?_
  rw [(show mu_r H m 0 = some (m + 1) from (gi_mr h.1.1 h.2 (j := 0) (by decide)).trans (congrArg some (by omega)))]
  refine mw_go mu_g342 (k := 2) (f1 := (38, [(0, .inr (.inr (some 158))), (1, .inr (.inr (some m)))], [.inl (mu_i H 158 16), .inr (.inr (some (m + 1)))], H)) (C := [mu_is H (some 158) 8]) rfl (show mu_is H (some 158) 8 from (h.1.1.is rfl)) ?_
  rw [(show mu_i H 158 16 = (nI at0) from (ud_i (U := U) (m := m) (P := 158) (j := 16) e rfl).trans hat)]
  refine mw_go mu_g342 (k := 1) (f1 := (39, [(0, .inr (.inr (some 158))), (1, .inr (.inr (some m)))], [.inl (0 : Int32), .inl (nI at0), .inr (.inr (some (m + 1)))], H)) (C := []) rfl trivial ?_
  refine mw_cIe (fun _ => rfl) (show mu_is H (some (m + 1)) 10 from ((h.1.1.w (md_w0 h.2)).1)) (h.getr (d := (d + 7)) e (j := 0) (by decide) rfl (nI at0) (c := 0) (by decide)) ?_
  rw [show (tget (U.1 0) (nI at0) 0) = (nI o) from ((congrArg (fun z => tget z (nI at0) 0) (show U.1 0 = (U.1 0) from rfl)).trans (tget_nI (by first | omega | decide))).trans (hop (by omega))]
  refine mw_go mu_g342 (k := 5) (f1 := (53, [(2, .inl (nI o)), (0, .inr (.inr (some 158))), (1, .inr (.inr (some m)))], [.inr (.inr (mu_r H m 0)), .inl (nI o)], H)) (C := [mu_is H (some m) 6]) rfl (show mu_is H (some m) 6 from (show mu_is H (some m) 6 from gi_im h.1.1 h.2)) ?_
  rw [(show mu_r H m 0 = some (m + 1) from (gi_mr h.1.1 h.2 (j := 0) (by decide)).trans (congrArg some (by omega)))]
  refine mw_go mu_g342 (k := 2) (f1 := (57, [(2, .inl (nI o)), (0, .inr (.inr (some 158))), (1, .inr (.inr (some m)))], [.inl (mu_i H 158 16), .inr (.inr (some (m + 1))), .inl (nI o)], H)) (C := [mu_is H (some 158) 8]) rfl (show mu_is H (some 158) 8 from (h.1.1.is rfl)) ?_
  rw [(show mu_i H 158 16 = (nI at0) from (ud_i (U := U) (m := m) (P := 158) (j := 16) e rfl).trans hat)]
  refine mw_go mu_g342 (k := 1) (f1 := (58, [(2, .inl (nI o)), (0, .inr (.inr (some 158))), (1, .inr (.inr (some m)))], [.inl (1 : Int32), .inl (nI at0), .inr (.inr (some (m + 1))), .inl (nI o)], H)) (C := []) rfl trivial ?_
  refine mw_cIe (fun _ => rfl) (show mu_is H (some (m + 1)) 10 from ((h.1.1.w (md_w0 h.2)).1)) (h.getr (d := (d + 7)) e (j := 0) (by decide) rfl (nI at0) (c := 1) (by decide)) ?_
  rw [show (tget (U.1 0) (nI at0) 1) = ar from ((congrArg (fun z => tget z (nI at0) 1) (show U.1 0 = (U.1 0) from rfl)).trans (tget_nI (by first | omega | decide))).trans har]
  refine mw_cIe (fun _ => rfl) trivial (pv_parts2 (d := (d + 7)) (H := H) (o := o) (a := pa) ho34 hoa hab) ?_
  rw [hpl]
  refine mw_go mu_g342 (k := 4) (f1 := (70, [(3, .inl (nI pl)), (2, .inl (nI o)), (0, .inr (.inr (some 158))), (1, .inr (.inr (some m)))], [.inr (.inr (mu_r H 158 2)), .inl (0 : Int32)], H)) (C := [mu_is H (some 158) 8]) rfl (show mu_is H (some 158) 8 from (h.1.1.is rfl)) ?_
  rw [(h.1.1.r (p := 158) (j := 2) (q := 159) rfl)]
  refine mw_go mu_g342 (k := 1) (f1 := (73, [(3, .inl (nI pl)), (2, .inl (nI o)), (0, .inr (.inr (some 158))), (1, .inr (.inr (some m)))], [.inl (mu_i H 159 2), .inl (0 : Int32)], H)) (C := [mu_is H (some 159) 10]) rfl (show mu_is H (some 159) 10 from (h.1.1.is rfl)) ?_
  rw [(show mu_i H 159 2 = (nI sz) from (h.size e (j := 26) (by decide) rfl).trans (congrArg nI ((congrArg Prod.fst (show U.1 26 = (U.1 26) from rfl)).trans hz)))]
  refine mw_go mu_g342 (k := 2) (f1 := (75, [(3, .inl (nI pl)), (2, .inl (nI o)), (0, .inr (.inr (some 158))), (1, .inr (.inr (some m)))], [.inl ((nI sz) - (nI pl)), .inl (0 : Int32)], H)) (C := []) rfl trivial ?_
  rw [(show ((nI sz) - (nI pl)) = (nI (sz - pl)) from (nI_sub (a := sz) (b := pl) (by omega)))]
  refine mw_cIe (fun _ => rfl) trivial (mu_max_ok (d := (d + 7)) (0 : Int32) (nI (sz - pl))) ?_
  rw [show (mu_max (0 : Int32) (nI (sz - pl))) = nI b from (mu_max_n (a := 0) (b := sz - pl) (by omega) (by omega)).trans (congrArg nI (by omega))]
  refine mw_go mu_g342 (k := 2) (f1 := (81, [(4, .inl (nI b)), (3, .inl (nI pl)), (2, .inl (nI o)), (0, .inr (.inr (some 158))), (1, .inr (.inr (some m)))], [.inl (nI pl)], H)) (C := []) rfl trivial ?_
  refine mw_if (P := (nI pl) = 0) (a := 84) (b := 91) (fun _ => rfl) trivial (fun h7 => ?_) (fun h7 => ?_)
  · -- 84: (nI pl) = 0
    have nh7 : pl = 0 := (nI_eq (by omega) (by omega)).mp (show nI pl = nI 0 from h7)
    refine mw_go mu_g342 (k := 2) (f1 := (88, [(4, .inl (nI b)), (3, .inl (nI pl)), (2, .inl (nI o)), (0, .inr (.inr (some 158))), (1, .inr (.inr (some m)))], [.inl (mu_i H 158 16)], H)) (C := [mu_is H (some 158) 8]) rfl (show mu_is H (some 158) 8 from (h.1.1.is rfl)) ?_
    rw [(show mu_i H 158 16 = (nI at0) from (ud_i (U := U) (m := m) (P := 158) (j := 16) e rfl).trans hat)]
    refine mw_go mu_g342 (k := 1) (f1 := (101, [(4, .inl (nI b)), (3, .inl (nI pl)), (2, .inl (nI o)), (0, .inr (.inr (some 158))), (1, .inr (.inr (some m)))], [.inl (nI at0)], H)) (C := []) rfl trivial ?_
    rw [show nI at0 = nI st0 from congrArg nI (hst0.1 (by omega)).symm]
    refine mw_go mu_g342 (k := 5) (f1 := (110, [(6, .inl (-1 : Int32)), (5, .inl (nI st0)), (4, .inl (nI b)), (3, .inl (nI pl)), (2, .inl (nI o)), (0, .inr (.inr (some 158))), (1, .inr (.inr (some m)))], [.inl (mu_i H 158 16)], H)) (C := [mu_is H (some 158) 8]) rfl (show mu_is H (some 158) 8 from (h.1.1.is rfl)) ?_
    rw [(show mu_i H 158 16 = (nI at0) from (ud_i (U := U) (m := m) (P := 158) (j := 16) e rfl).trans hat)]
    refine mw_go mu_g342 (k := 2) (f1 := (114, [(6, .inl (-1 : Int32)), (5, .inl (nI st0)), (4, .inl (nI b)), (3, .inl (nI pl)), (2, .inl (nI o)), (0, .inr (.inr (some 158))), (1, .inr (.inr (some m)))], [.inl (mu_i H 158 17), .inl (nI at0)], H)) (C := [mu_is H (some 158) 8]) rfl (show mu_is H (some 158) 8 from (h.1.1.is rfl)) ?_
    rw [(show mu_i H 158 17 = (nI to0) from (ud_i (U := U) (m := m) (P := 158) (j := 17) e rfl).trans hto)]
    refine mw_if (P := (nI at0) = (nI to0)) (a := 133) (b := 117) (fun _ => rfl) trivial (fun h8 => absurd h8 (fun z => absurd ((nI_eq (by omega) (by omega)).mp (show nI at0 = nI to0 from z)) (by omega))) (fun h8 => ?_)
    refine mw_go mu_g342 (k := 1) (f1 := (118, [(6, .inl (-1 : Int32)), (5, .inl (nI st0)), (4, .inl (nI b)), (3, .inl (nI pl)), (2, .inl (nI o)), (0, .inr (.inr (some 158))), (1, .inr (.inr (some m)))], [.inl (nI o)], H)) (C := []) rfl trivial ?_
    refine mw_cIe (fun _ => rfl) trivial ((pv_timed2 (d := (d + 7)) (H := H) (o := o) ho34).imp (fun x H1 q => show x = (0 : Int32) ∧ H1 = H from ⟨(q.1.resolve_right (fun y => hnt y.2)).1, q.2⟩)) ?_
    refine mw_if (P := (0 : Int32) = 0) (a := 124) (b := 133) (fun _ => rfl) trivial (fun h10 => ?_) (fun h10 => absurd (by decide) h10)
    refine mw_go mu_g342 (k := 2) (f1 := (127, [(6, .inl (-1 : Int32)), (5, .inl (nI st0)), (4, .inl (nI b)), (3, .inl (nI pl)), (2, .inl (nI o)), (0, .inr (.inr (some 158))), (1, .inr (.inr (some m)))], [.inl (nI b), .inr (.inr (some 158))], H)) (C := []) rfl trivial ?_
    refine mw_cIe (fun _ => rfl) (show mu_is H (some 158) 8 from (h.1.1.is rfl)) hhas ?_
    refine mw_if (P := (0 : Int32) = 0) (a := 188) (b := 133) (fun _ => rfl) trivial (fun h12 => ?_) (fun h12 => absurd (by decide) h12)
    refine mw_go mu_g342 (k := 2) (f1 := (192, [(6, .inl (-1 : Int32)), (5, .inl (nI st0)), (4, .inl (nI b)), (3, .inl (nI pl)), (2, .inl (nI o)), (0, .inr (.inr (some 158))), (1, .inr (.inr (some m)))], [.inr (.inr (mu_r H 158 2))], H)) (C := [mu_is H (some 158) 8]) rfl (show mu_is H (some 158) 8 from (h.1.1.is rfl)) ?_
    rw [(h.1.1.r (p := 158) (j := 2) (q := 159) rfl)]
    refine mw_go mu_g342 (k := 1) (f1 := (194, [(6, .inl (-1 : Int32)), (5, .inl (nI st0)), (4, .inl (nI b)), (3, .inl (nI pl)), (2, .inl (nI o)), (0, .inr (.inr (some 158))), (1, .inr (.inr (some m)))], [.inl (nI b), .inr (.inr (some 159))], H)) (C := []) rfl trivial ?_
    refine mw_cV (fun _ => rfl) (show mu_is H (some 159) 10 from (h.1.1.is rfl)) (h.cutr (C := C) (d := (d + 6)) e (j := 26) (Or.inr ⟨by decide, by decide⟩) rfl (k := b) (by show b ≤ (U.1 26).1; omega)) (fun Q13 q13 => ?_)
    obtain ⟨u13, r13, d13⟩ := q13
    have ht13 : ur m C H Q13 := (ur.refl m C H).trans r13
    refine mw_go mu_g342 (k := 2) (f1 := (201, [(6, .inl (-1 : Int32)), (5, .inl (nI st0)), (4, .inl (nI b)), (3, .inl (nI pl)), (2, .inl (nI o)), (0, .inr (.inr (some 158))), (1, .inr (.inr (some m)))], [.inr (.inr (mu_r Q13 158 2))], Q13)) (C := [mu_is Q13 (some 158) 8]) rfl (show mu_is Q13 (some 158) 8 from (u13.1.1.is rfl)) ?_
    rw [(u13.1.1.r (p := 158) (j := 2) (q := 159) rfl)]
    refine mw_go mu_g342 (k := 4) (f1 := (207, [(6, .inl (-1 : Int32)), (5, .inl (nI st0)), (4, .inl (nI b)), (3, .inl (nI pl)), (2, .inl (nI o)), (0, .inr (.inr (some 158))), (1, .inr (.inr (some m)))], [.inl (0 : Int32), .inl (0 : Int32), .inl (-1 : Int32), .inl (nI st0), .inr (.inr (some 159))], Q13)) (C := []) rfl trivial ?_
    refine mw_cI (fun _ => rfl) (show mu_is Q13 (some 159) 10 from (u13.1.1.is rfl)) (u13.putr (C := C) (d := (d + 5)) d13 (j := 26) (Or.inr ⟨by decide, by decide⟩) rfl (nI st0) (-1 : Int32) (0 : Int32) (0 : Int32) (by show 2 * ((b + 1) * 2) + 2 ≤ C 26; omega) hC26b) (fun x14 Q14 q14 => ?_)
    obtain ⟨rfl, u14, r14, d14⟩ := q14
    have ht14 : ur m C H Q14 := ht13.trans r14
    refine mw_go mu_g342 (k := 4) (f1 := (216, [(6, .inl (-1 : Int32)), (5, .inl (nI st0)), (4, .inl (nI b)), (3, .inl (nI pl)), (2, .inl (nI o)), (0, .inr (.inr (some 158))), (1, .inr (.inr (some m)))], [.inl (mu_i Q14 158 16), .inr (.inr (some 158))], Q14)) (C := [mu_is Q14 (some 158) 8]) rfl (show mu_is Q14 (some 158) 8 from (u14.1.1.is rfl)) ?_
    rw [(show mu_i Q14 158 16 = (nI at0) from (ud_i (U := (upT (upT U (ac 26 U.1 b)) (ap 26 (upT U (ac 26 U.1 b)).1 (nI st0) (-1 : Int32) (0 : Int32) (0 : Int32)))) (m := m) (P := 158) (j := 16) d14 rfl).trans hat)]
    refine mw_go mu_g342 (k := 2) (f1 := (218, [(6, .inl (-1 : Int32)), (5, .inl (nI st0)), (4, .inl (nI b)), (3, .inl (nI pl)), (2, .inl (nI o)), (0, .inr (.inr (some 158))), (1, .inr (.inr (some m)))], [.inl ((nI at0) + (1 : Int32)), .inr (.inr (some 158))], Q14)) (C := []) rfl trivial ?_
    rw [(show ((nI at0) + (1 : Int32)) = (nI (at0 + 1)) from (nI_add at0 1))]
    refine mw_go mu_g342 (k := 1) (f1 := (221, [(6, .inl (-1 : Int32)), (5, .inl (nI st0)), (4, .inl (nI b)), (3, .inl (nI pl)), (2, .inl (nI o)), (0, .inr (.inr (some 158))), (1, .inr (.inr (some m)))], [], (mu_si Q14 158 16 (nI (at0 + 1))))) (C := [mu_is Q14 (some 158) 8]) rfl (show mu_is Q14 (some 158) 8 from (u14.1.1.is rfl)) ?_
    obtain ⟨u15, r15, d15⟩ : um m (mu_si Q14 158 16 (nI (at0 + 1))) ∧ ur m C Q14 (mu_si Q14 158 16 (nI (at0 + 1))) ∧ ud m (mu_si Q14 158 16 (nI (at0 + 1))) = (upI (upT (upT U (ac 26 U.1 b)) (ap 26 (upT U (ac 26 U.1 b)).1 (nI st0) (-1 : Int32) (0 : Int32) (0 : Int32))) 158 16 (nI (at0 + 1))) := u14.sI (C := C) d14 rfl
    generalize (mu_si Q14 158 16 (nI (at0 + 1))) = Q15 at u15 r15 d15 ⊢
    have ht15 : ur m C H Q15 := ht14.trans r15
    refine mw_go mu_g342 (k := 1) (f1 := (8, [(6, .inl (-1 : Int32)), (5, .inl (nI st0)), (4, .inl (nI b)), (3, .inl (nI pl)), (2, .inl (nI o)), (0, .inr (.inr (some 158))), (1, .inr (.inr (some m)))], [], Q15)) (C := []) rfl trivial ?_
    exact mw_sub (by simp) (hback Q15 u15 ht15 d15)
  · -- 91: not (nI pl) = 0
    have nh7 : ¬ pl = 0 := fun z => h7 (show nI pl = nI 0 from (nI_eq (by omega) (by omega)).mpr z)
    refine mw_go mu_g342 (k := 2) (f1 := (95, [(4, .inl (nI b)), (3, .inl (nI pl)), (2, .inl (nI o)), (0, .inr (.inr (some 158))), (1, .inr (.inr (some m)))], [.inr (.inr (mu_r H 158 2))], H)) (C := [mu_is H (some 158) 8]) rfl (show mu_is H (some 158) 8 from (h.1.1.is rfl)) ?_
    rw [(h.1.1.r (p := 158) (j := 2) (q := 159) rfl)]
    refine mw_go mu_g342 (k := 2) (f1 := (98, [(4, .inl (nI b)), (3, .inl (nI pl)), (2, .inl (nI o)), (0, .inr (.inr (some 158))), (1, .inr (.inr (some m)))], [.inl (0 : Int32), .inl (nI b), .inr (.inr (some 159))], H)) (C := []) rfl trivial ?_
    refine mw_cIe (fun _ => rfl) (show mu_is H (some 159) 10 from (h.1.1.is rfl)) (h.getr (d := (d + 7)) e (j := 26) (by decide) rfl (nI b) (c := 0) (by decide)) ?_
    rw [show (tget (U.1 26) (nI b) 0) = (nI st0) from ((congrArg (fun z => tget z (nI b) 0) (show U.1 26 = (U.1 26) from rfl)).trans (tget_nI (by first | omega | decide))).trans (hst0.2 (by omega))]
    refine mw_go mu_g342 (k := 5) (f1 := (110, [(6, .inl (-1 : Int32)), (5, .inl (nI st0)), (4, .inl (nI b)), (3, .inl (nI pl)), (2, .inl (nI o)), (0, .inr (.inr (some 158))), (1, .inr (.inr (some m)))], [.inl (mu_i H 158 16)], H)) (C := [mu_is H (some 158) 8]) rfl (show mu_is H (some 158) 8 from (h.1.1.is rfl)) ?_
    rw [(show mu_i H 158 16 = (nI at0) from (ud_i (U := U) (m := m) (P := 158) (j := 16) e rfl).trans hat)]
    refine mw_go mu_g342 (k := 2) (f1 := (114, [(6, .inl (-1 : Int32)), (5, .inl (nI st0)), (4, .inl (nI b)), (3, .inl (nI pl)), (2, .inl (nI o)), (0, .inr (.inr (some 158))), (1, .inr (.inr (some m)))], [.inl (mu_i H 158 17), .inl (nI at0)], H)) (C := [mu_is H (some 158) 8]) rfl (show mu_is H (some 158) 8 from (h.1.1.is rfl)) ?_
    rw [(show mu_i H 158 17 = (nI to0) from (ud_i (U := U) (m := m) (P := 158) (j := 17) e rfl).trans hto)]
    refine mw_if (P := (nI at0) = (nI to0)) (a := 133) (b := 117) (fun _ => rfl) trivial (fun h17 => absurd h17 (fun z => absurd ((nI_eq (by omega) (by omega)).mp (show nI at0 = nI to0 from z)) (by omega))) (fun h17 => ?_)
    refine mw_go mu_g342 (k := 1) (f1 := (118, [(6, .inl (-1 : Int32)), (5, .inl (nI st0)), (4, .inl (nI b)), (3, .inl (nI pl)), (2, .inl (nI o)), (0, .inr (.inr (some 158))), (1, .inr (.inr (some m)))], [.inl (nI o)], H)) (C := []) rfl trivial ?_
    refine mw_cIe (fun _ => rfl) trivial ((pv_timed2 (d := (d + 7)) (H := H) (o := o) ho34).imp (fun x H1 q => show x = (0 : Int32) ∧ H1 = H from ⟨(q.1.resolve_right (fun y => hnt y.2)).1, q.2⟩)) ?_
    refine mw_if (P := (0 : Int32) = 0) (a := 124) (b := 133) (fun _ => rfl) trivial (fun h19 => ?_) (fun h19 => absurd (by decide) h19)
    refine mw_go mu_g342 (k := 2) (f1 := (127, [(6, .inl (-1 : Int32)), (5, .inl (nI st0)), (4, .inl (nI b)), (3, .inl (nI pl)), (2, .inl (nI o)), (0, .inr (.inr (some 158))), (1, .inr (.inr (some m)))], [.inl (nI b), .inr (.inr (some 158))], H)) (C := []) rfl trivial ?_
    refine mw_cIe (fun _ => rfl) (show mu_is H (some 158) 8 from (h.1.1.is rfl)) hhas ?_
    refine mw_if (P := (0 : Int32) = 0) (a := 188) (b := 133) (fun _ => rfl) trivial (fun h21 => ?_) (fun h21 => absurd (by decide) h21)
    refine mw_go mu_g342 (k := 2) (f1 := (192, [(6, .inl (-1 : Int32)), (5, .inl (nI st0)), (4, .inl (nI b)), (3, .inl (nI pl)), (2, .inl (nI o)), (0, .inr (.inr (some 158))), (1, .inr (.inr (some m)))], [.inr (.inr (mu_r H 158 2))], H)) (C := [mu_is H (some 158) 8]) rfl (show mu_is H (some 158) 8 from (h.1.1.is rfl)) ?_
    rw [(h.1.1.r (p := 158) (j := 2) (q := 159) rfl)]
    refine mw_go mu_g342 (k := 1) (f1 := (194, [(6, .inl (-1 : Int32)), (5, .inl (nI st0)), (4, .inl (nI b)), (3, .inl (nI pl)), (2, .inl (nI o)), (0, .inr (.inr (some 158))), (1, .inr (.inr (some m)))], [.inl (nI b), .inr (.inr (some 159))], H)) (C := []) rfl trivial ?_
    refine mw_cV (fun _ => rfl) (show mu_is H (some 159) 10 from (h.1.1.is rfl)) (h.cutr (C := C) (d := (d + 6)) e (j := 26) (Or.inr ⟨by decide, by decide⟩) rfl (k := b) (by show b ≤ (U.1 26).1; omega)) (fun Q22 q22 => ?_)
    obtain ⟨u22, r22, d22⟩ := q22
    have ht22 : ur m C H Q22 := (ur.refl m C H).trans r22
    refine mw_go mu_g342 (k := 2) (f1 := (201, [(6, .inl (-1 : Int32)), (5, .inl (nI st0)), (4, .inl (nI b)), (3, .inl (nI pl)), (2, .inl (nI o)), (0, .inr (.inr (some 158))), (1, .inr (.inr (some m)))], [.inr (.inr (mu_r Q22 158 2))], Q22)) (C := [mu_is Q22 (some 158) 8]) rfl (show mu_is Q22 (some 158) 8 from (u22.1.1.is rfl)) ?_
    rw [(u22.1.1.r (p := 158) (j := 2) (q := 159) rfl)]
    refine mw_go mu_g342 (k := 4) (f1 := (207, [(6, .inl (-1 : Int32)), (5, .inl (nI st0)), (4, .inl (nI b)), (3, .inl (nI pl)), (2, .inl (nI o)), (0, .inr (.inr (some 158))), (1, .inr (.inr (some m)))], [.inl (0 : Int32), .inl (0 : Int32), .inl (-1 : Int32), .inl (nI st0), .inr (.inr (some 159))], Q22)) (C := []) rfl trivial ?_
    refine mw_cI (fun _ => rfl) (show mu_is Q22 (some 159) 10 from (u22.1.1.is rfl)) (u22.putr (C := C) (d := (d + 5)) d22 (j := 26) (Or.inr ⟨by decide, by decide⟩) rfl (nI st0) (-1 : Int32) (0 : Int32) (0 : Int32) (by show 2 * ((b + 1) * 2) + 2 ≤ C 26; omega) hC26b) (fun x23 Q23 q23 => ?_)
    obtain ⟨rfl, u23, r23, d23⟩ := q23
    have ht23 : ur m C H Q23 := ht22.trans r23
    refine mw_go mu_g342 (k := 4) (f1 := (216, [(6, .inl (-1 : Int32)), (5, .inl (nI st0)), (4, .inl (nI b)), (3, .inl (nI pl)), (2, .inl (nI o)), (0, .inr (.inr (some 158))), (1, .inr (.inr (some m)))], [.inl (mu_i Q23 158 16), .inr (.inr (some 158))], Q23)) (C := [mu_is Q23 (some 158) 8]) rfl (show mu_is Q23 (some 158) 8 from (u23.1.1.is rfl)) ?_
    rw [(show mu_i Q23 158 16 = (nI at0) from (ud_i (U := (upT (upT U (ac 26 U.1 b)) (ap 26 (upT U (ac 26 U.1 b)).1 (nI st0) (-1 : Int32) (0 : Int32) (0 : Int32)))) (m := m) (P := 158) (j := 16) d23 rfl).trans hat)]
    refine mw_go mu_g342 (k := 2) (f1 := (218, [(6, .inl (-1 : Int32)), (5, .inl (nI st0)), (4, .inl (nI b)), (3, .inl (nI pl)), (2, .inl (nI o)), (0, .inr (.inr (some 158))), (1, .inr (.inr (some m)))], [.inl ((nI at0) + (1 : Int32)), .inr (.inr (some 158))], Q23)) (C := []) rfl trivial ?_
    rw [(show ((nI at0) + (1 : Int32)) = (nI (at0 + 1)) from (nI_add at0 1))]
    refine mw_go mu_g342 (k := 1) (f1 := (221, [(6, .inl (-1 : Int32)), (5, .inl (nI st0)), (4, .inl (nI b)), (3, .inl (nI pl)), (2, .inl (nI o)), (0, .inr (.inr (some 158))), (1, .inr (.inr (some m)))], [], (mu_si Q23 158 16 (nI (at0 + 1))))) (C := [mu_is Q23 (some 158) 8]) rfl (show mu_is Q23 (some 158) 8 from (u23.1.1.is rfl)) ?_
    obtain ⟨u24, r24, d24⟩ : um m (mu_si Q23 158 16 (nI (at0 + 1))) ∧ ur m C Q23 (mu_si Q23 158 16 (nI (at0 + 1))) ∧ ud m (mu_si Q23 158 16 (nI (at0 + 1))) = (upI (upT (upT U (ac 26 U.1 b)) (ap 26 (upT U (ac 26 U.1 b)).1 (nI st0) (-1 : Int32) (0 : Int32) (0 : Int32))) 158 16 (nI (at0 + 1))) := u23.sI (C := C) d23 rfl
    generalize (mu_si Q23 158 16 (nI (at0 + 1))) = Q24 at u24 r24 d24 ⊢
    have ht24 : ur m C H Q24 := ht23.trans r24
    refine mw_go mu_g342 (k := 1) (f1 := (8, [(6, .inl (-1 : Int32)), (5, .inl (nI st0)), (4, .inl (nI b)), (3, .inl (nI pl)), (2, .inl (nI o)), (0, .inr (.inr (some 158))), (1, .inr (.inr (some m)))], [], Q24)) (C := []) rfl trivial ?_
    exact mw_sub (by simp) (hback Q24 u24 ht24 d24)
/-- a part has to be reckoned first -/
theorem sk_find (h : um m H) (e : ud m H = U) (hret : ∀ H1, PV H1 → Φ (.inl none, H1)) (hfind : mu_TI (mu_D (d + 8)) 349 [.inr (.inr (some 158)), .inl (nI b)] H (fun x H1 => x = 1 ∧ PV H1)) : mu_W (mu_D (d + 8)) mu_m342 (133, [(0, .inr (.inr (some 158))), (1, .inr (.inr (some m))), (2, .inl (nI o)), (3, .inl (nI pl)), (4, .inl (nI b)), (5, .inl (nI st0)), (6, .inl (-1 : Int32))], [], H) Φ := by
  refine mw_go mu_g342 (k := 2) (f1 := (136, [(0, .inr (.inr (some 158))), (1, .inr (.inr (some m))), (2, .inl (nI o)), (3, .inl (nI pl)), (4, .inl (nI b)), (5, .inl (nI st0)), (6, .inl (-1 : Int32))], [.inl (nI b), .inr (.inr (some 158))], H)) (C := []) rfl trivial ?_
  refine mw_cI (fun _ => rfl) (show mu_is H (some 158) 8 from (h.1.1.is rfl)) hfind (fun x1 Q1 q1 => ?_)
  obtain ⟨rfl, hPV⟩ := q1
  refine mw_if (P := (1 : Int32) = 0) (a := 143) (b := 142) (fun _ => rfl) trivial (fun h2 => absurd h2 (by decide)) (fun h2 => ?_)
  exact mw_of (fun _ => mu_ret rfl trivial (hret Q1 hPV))
/-- sets are combined -/
theorem sk_comb (h : um m H) (e : ud m H = U) (hret : ∀ H1, PV H1 → Φ (.inl none, H1)) (hat : U.2.1 158 16 = nI at0) (hz : (U.1 26).1 = sz) (hzb : sz < 2147483646) (hbs : b < sz) (hrb : (U.1 26).2 b 1 = nI jl) (hrt : (U.1 26).2 (sz - 1) 1 = nI jr) (hjl : jl < 2147483648) (hjr : jr < 2147483648) (hsj : sj = min jl jr) (hatb : at0 < 2147483646) (hfind : mu_TI (mu_D (d + 8)) 349 [.inr (.inr (some 158)), .inl (nI b)] H (fun x H1 => x = 0 ∧ H1 = H)) (hcomb : mu_TI (mu_D (d + 8)) 350 [.inr (.inr (some 158)), .inl (nI o), .inl (nI b), .inl (nI sj)] H (fun x H1 => (x = 1 ∧ PV H1) ∨ (x = 0 ∧ um m H1 ∧ ur m C H H1 ∧ PW H1 ∧ (ud m H1).1 26 = U.1 26 ∧ (ud m H1).2.1 158 16 = nI at0))) (hC26 : 2 * ((sz + 2) * 2) + 2 ≤ C 26) (hC26b : C 26 ≤ 8388608) (hback : ∀ H2 H3, um m H2 → ur m C H H2 → PW H2 → um m H3 → ur m C H H3 → ud m H3 = SKB (ud m H2) b (nI st0) (nI sj) (at0 + 1) → mu_W (mu_D (d + 8)) mu_m342 (8, [(0, .inr (.inr (some 158))), (1, .inr (.inr (some m)))], [], H3) Φ) : mu_W (mu_D (d + 8)) mu_m342 (133, [(0, .inr (.inr (some 158))), (1, .inr (.inr (some m))), (2, .inl (nI o)), (3, .inl (nI pl)), (4, .inl (nI b)), (5, .inl (nI st0)), (6, .inl (-1 : Int32))], [], H) Φ := by
  refine mw_go mu_g342 (k := 2) (f1 := (136, [(0, .inr (.inr (some 158))), (1, .inr (.inr (some m))), (2, .inl (nI o)), (3, .inl (nI pl)), (4, .inl (nI b)), (5, .inl (nI st0)), (6, .inl (-1 : Int32))], [.inl (nI b), .inr (.inr (some 158))], H)) (C := []) rfl trivial ?_
  refine mw_cIe (fun _ => rfl) (show mu_is H (some 158) 8 from (h.1.1.is rfl)) hfind ?_
  refine mw_if (P := (0 : Int32) = 0) (a := 143) (b := 142) (fun _ => rfl) trivial (fun h3 => ?_) (fun h3 => absurd (by decide) h3)
  refine mw_go mu_g342 (k := 2) (f1 := (147, [(0, .inr (.inr (some 158))), (1, .inr (.inr (some m))), (2, .inl (nI o)), (3, .inl (nI pl)), (4, .inl (nI b)), (5, .inl (nI st0)), (6, .inl (-1 : Int32))], [.inr (.inr (mu_r H 158 2))], H)) (C := [mu_is H (some 158) 8]) rfl (show mu_is H (some 158) 8 from (h.1.1.is rfl)) ?_
  rw [(h.1.1.r (p := 158) (j := 2) (q := 159) rfl)]
  refine mw_go mu_g342 (k := 2) (f1 := (150, [(0, .inr (.inr (some 158))), (1, .inr (.inr (some m))), (2, .inl (nI o)), (3, .inl (nI pl)), (4, .inl (nI b)), (5, .inl (nI st0)), (6, .inl (-1 : Int32))], [.inl (1 : Int32), .inl (nI b), .inr (.inr (some 159))], H)) (C := []) rfl trivial ?_
  refine mw_cIe (fun _ => rfl) (show mu_is H (some 159) 10 from (h.1.1.is rfl)) (h.getr (d := (d + 7)) e (j := 26) (by decide) rfl (nI b) (c := 1) (by decide)) ?_
  rw [show (tget (U.1 26) (nI b) 1) = (nI jl) from ((congrArg (fun z => tget z (nI b) 1) (show U.1 26 = (U.1 26) from rfl)).trans (tget_nI (by first | omega | decide))).trans hrb]
  refine mw_go mu_g342 (k := 2) (f1 := (157, [(0, .inr (.inr (some 158))), (1, .inr (.inr (some m))), (2, .inl (nI o)), (3, .inl (nI pl)), (4, .inl (nI b)), (5, .inl (nI st0)), (6, .inl (-1 : Int32))], [.inr (.inr (mu_r H 158 2)), .inl (nI jl)], H)) (C := [mu_is H (some 158) 8]) rfl (show mu_is H (some 158) 8 from (h.1.1.is rfl)) ?_
  rw [(h.1.1.r (p := 158) (j := 2) (q := 159) rfl)]
  refine mw_go mu_g342 (k := 2) (f1 := (161, [(0, .inr (.inr (some 158))), (1, .inr (.inr (some m))), (2, .inl (nI o)), (3, .inl (nI pl)), (4, .inl (nI b)), (5, .inl (nI st0)), (6, .inl (-1 : Int32))], [.inr (.inr (mu_r H 158 2)), .inr (.inr (some 159)), .inl (nI jl)], H)) (C := [mu_is H (some 158) 8]) rfl (show mu_is H (some 158) 8 from (h.1.1.is rfl)) ?_
  rw [(h.1.1.r (p := 158) (j := 2) (q := 159) rfl)]
  refine mw_go mu_g342 (k := 1) (f1 := (164, [(0, .inr (.inr (some 158))), (1, .inr (.inr (some m))), (2, .inl (nI o)), (3, .inl (nI pl)), (4, .inl (nI b)), (5, .inl (nI st0)), (6, .inl (-1 : Int32))], [.inl (mu_i H 159 2), .inr (.inr (some 159)), .inl (nI jl)], H)) (C := [mu_is H (some 159) 10]) rfl (show mu_is H (some 159) 10 from (h.1.1.is rfl)) ?_
  rw [(show mu_i H 159 2 = (nI sz) from (h.size e (j := 26) (by decide) rfl).trans (congrArg nI ((congrArg Prod.fst (show U.1 26 = (U.1 26) from rfl)).trans hz)))]
  refine mw_go mu_g342 (k := 2) (f1 := (166, [(0, .inr (.inr (some 158))), (1, .inr (.inr (some m))), (2, .inl (nI o)), (3, .inl (nI pl)), (4, .inl (nI b)), (5, .inl (nI st0)), (6, .inl (-1 : Int32))], [.inl ((nI sz) - (1 : Int32)), .inr (.inr (some 159)), .inl (nI jl)], H)) (C := []) rfl trivial ?_
  rw [(show ((nI sz) - (1 : Int32)) = (nI (sz - 1)) from (nI_sub (a := sz) (b := 1) (by omega)))]
  refine mw_go mu_g342 (k := 1) (f1 := (167, [(0, .inr (.inr (some 158))), (1, .inr (.inr (some m))), (2, .inl (nI o)), (3, .inl (nI pl)), (4, .inl (nI b)), (5, .inl (nI st0)), (6, .inl (-1 : Int32))], [.inl (1 : Int32), .inl (nI (sz - 1)), .inr (.inr (some 159)), .inl (nI jl)], H)) (C := []) rfl trivial ?_
  refine mw_cIe (fun _ => rfl) (show mu_is H (some 159) 10 from (h.1.1.is rfl)) (h.getr (d := (d + 7)) e (j := 26) (by decide) rfl (nI (sz - 1)) (c := 1) (by decide)) ?_
  rw [show (tget (U.1 26) (nI (sz - 1)) 1) = (nI jr) from ((congrArg (fun z => tget z (nI (sz - 1)) 1) (show U.1 26 = (U.1 26) from rfl)).trans (tget_nI (by first | omega | decide))).trans hrt]
  refine mw_cIe (fun _ => rfl) trivial (mu_min_ok (d := (d + 7)) (nI jl) (nI jr)) ?_
  rw [show (mu_min (nI jl) (nI jr)) = nI sj from (mu_min_n (a := jl) (b := jr) (by omega) (by omega)).trans (congrArg nI hsj.symm)]
  refine mw_go mu_g342 (k := 5) (f1 := (181, [(6, .inl (nI sj)), (0, .inr (.inr (some 158))), (1, .inr (.inr (some m))), (2, .inl (nI o)), (3, .inl (nI pl)), (4, .inl (nI b)), (5, .inl (nI st0))], [.inl (nI sj), .inl (nI b), .inl (nI o), .inr (.inr (some 158))], H)) (C := []) rfl trivial ?_
  refine mw_cI (fun _ => rfl) (show mu_is H (some 158) 8 from (h.1.1.is rfl)) hcomb (fun x10 Q10 q10 => ?_)
  rcases q10 with ⟨rfl, hPV⟩ | ⟨rfl, u10, r10, hPW, h26, h16⟩
  · -- waits
    refine mw_if (P := (1 : Int32) = 0) (a := 188) (b := 187) (fun _ => rfl) trivial (fun h11 => absurd h11 (by decide)) (fun h11 => ?_)
    exact mw_of (fun _ => mu_ret rfl trivial (hret Q10 hPV))
  · -- goes on
    have ht10 : ur m C H Q10 := (ur.refl m C H).trans r10
    obtain ⟨VC, d10⟩ : ∃ V, ud m Q10 = V := ⟨_, rfl⟩
    rw [d10] at h26 h16
    refine mw_if (P := (0 : Int32) = 0) (a := 188) (b := 187) (fun _ => rfl) trivial (fun h12 => ?_) (fun h12 => absurd (by decide) h12)
    refine mw_go mu_g342 (k := 2) (f1 := (192, [(6, .inl (nI sj)), (0, .inr (.inr (some 158))), (1, .inr (.inr (some m))), (2, .inl (nI o)), (3, .inl (nI pl)), (4, .inl (nI b)), (5, .inl (nI st0))], [.inr (.inr (mu_r Q10 158 2))], Q10)) (C := [mu_is Q10 (some 158) 8]) rfl (show mu_is Q10 (some 158) 8 from (u10.1.1.is rfl)) ?_
    rw [(u10.1.1.r (p := 158) (j := 2) (q := 159) rfl)]
    refine mw_go mu_g342 (k := 1) (f1 := (194, [(6, .inl (nI sj)), (0, .inr (.inr (some 158))), (1, .inr (.inr (some m))), (2, .inl (nI o)), (3, .inl (nI pl)), (4, .inl (nI b)), (5, .inl (nI st0))], [.inl (nI b), .inr (.inr (some 159))], Q10)) (C := []) rfl trivial ?_
    refine mw_cV (fun _ => rfl) (show mu_is Q10 (some 159) 10 from (u10.1.1.is rfl)) (u10.cutr (C := C) (d := (d + 6)) d10 (j := 26) (Or.inr ⟨by decide, by decide⟩) rfl (k := b) (by show b ≤ (VC.1 26).1; rw [h26]; omega)) (fun Q14 q14 => ?_)
    obtain ⟨u14, r14, d14⟩ := q14
    have ht14 : ur m C H Q14 := ht10.trans r14
    refine mw_go mu_g342 (k := 2) (f1 := (201, [(6, .inl (nI sj)), (0, .inr (.inr (some 158))), (1, .inr (.inr (some m))), (2, .inl (nI o)), (3, .inl (nI pl)), (4, .inl (nI b)), (5, .inl (nI st0))], [.inr (.inr (mu_r Q14 158 2))], Q14)) (C := [mu_is Q14 (some 158) 8]) rfl (show mu_is Q14 (some 158) 8 from (u14.1.1.is rfl)) ?_
    rw [(u14.1.1.r (p := 158) (j := 2) (q := 159) rfl)]
    refine mw_go mu_g342 (k := 4) (f1 := (207, [(6, .inl (nI sj)), (0, .inr (.inr (some 158))), (1, .inr (.inr (some m))), (2, .inl (nI o)), (3, .inl (nI pl)), (4, .inl (nI b)), (5, .inl (nI st0))], [.inl (0 : Int32), .inl (0 : Int32), .inl (nI sj), .inl (nI st0), .inr (.inr (some 159))], Q14)) (C := []) rfl trivial ?_
    refine mw_cI (fun _ => rfl) (show mu_is Q14 (some 159) 10 from (u14.1.1.is rfl)) (u14.putr (C := C) (d := (d + 5)) d14 (j := 26) (Or.inr ⟨by decide, by decide⟩) rfl (nI st0) (nI sj) (0 : Int32) (0 : Int32) (by show 2 * ((b + 1) * 2) + 2 ≤ C 26; omega) hC26b) (fun x16 Q16 q16 => ?_)
    obtain ⟨rfl, u16, r16, d16⟩ := q16
    have ht16 : ur m C H Q16 := ht14.trans r16
    refine mw_go mu_g342 (k := 4) (f1 := (216, [(6, .inl (nI sj)), (0, .inr (.inr (some 158))), (1, .inr (.inr (some m))), (2, .inl (nI o)), (3, .inl (nI pl)), (4, .inl (nI b)), (5, .inl (nI st0))], [.inl (mu_i Q16 158 16), .inr (.inr (some 158))], Q16)) (C := [mu_is Q16 (some 158) 8]) rfl (show mu_is Q16 (some 158) 8 from (u16.1.1.is rfl)) ?_
    rw [(show mu_i Q16 158 16 = (nI at0) from (ud_i (U := (upT (upT VC (ac 26 VC.1 b)) (ap 26 (upT VC (ac 26 VC.1 b)).1 (nI st0) (nI sj) (0 : Int32) (0 : Int32)))) (m := m) (P := 158) (j := 16) d16 rfl).trans h16)]
    refine mw_go mu_g342 (k := 2) (f1 := (218, [(6, .inl (nI sj)), (0, .inr (.inr (some 158))), (1, .inr (.inr (some m))), (2, .inl (nI o)), (3, .inl (nI pl)), (4, .inl (nI b)), (5, .inl (nI st0))], [.inl ((nI at0) + (1 : Int32)), .inr (.inr (some 158))], Q16)) (C := []) rfl trivial ?_
    rw [(show ((nI at0) + (1 : Int32)) = (nI (at0 + 1)) from (nI_add at0 1))]
    refine mw_go mu_g342 (k := 1) (f1 := (221, [(6, .inl (nI sj)), (0, .inr (.inr (some 158))), (1, .inr (.inr (some m))), (2, .inl (nI o)), (3, .inl (nI pl)), (4, .inl (nI b)), (5, .inl (nI st0))], [], (mu_si Q16 158 16 (nI (at0 + 1))))) (C := [mu_is Q16 (some 158) 8]) rfl (show mu_is Q16 (some 158) 8 from (u16.1.1.is rfl)) ?_
    obtain ⟨u17, r17, d17⟩ : um m (mu_si Q16 158 16 (nI (at0 + 1))) ∧ ur m C Q16 (mu_si Q16 158 16 (nI (at0 + 1))) ∧ ud m (mu_si Q16 158 16 (nI (at0 + 1))) = (upI (upT (upT VC (ac 26 VC.1 b)) (ap 26 (upT VC (ac 26 VC.1 b)).1 (nI st0) (nI sj) (0 : Int32) (0 : Int32))) 158 16 (nI (at0 + 1))) := u16.sI (C := C) d16 rfl
    generalize (mu_si Q16 158 16 (nI (at0 + 1))) = Q17 at u17 r17 d17 ⊢
    have ht17 : ur m C H Q17 := ht16.trans r17
    refine mw_go mu_g342 (k := 1) (f1 := (8, [(6, .inl (nI sj)), (0, .inr (.inr (some 158))), (1, .inr (.inr (some m))), (2, .inl (nI o)), (3, .inl (nI pl)), (4, .inl (nI b)), (5, .inl (nI st0))], [], Q17)) (C := []) rfl trivial ?_
    exact mw_sub (by simp) (hback Q10 Q17 u10 ht10 hPW u17 ht17 (by rw [d10]; exact d17))
/-- all is sought -/
theorem sk_endN (h : um m H) (e : ud m H = U) (hat : U.2.1 158 16 = nI at0) (hto : U.2.1 158 17 = nI to0) (hatb : at0 < 2147483648) (hgt : to0 < at0) (hin : U.2.1 158 19 = nI jl) (hjl : jl < 248) (hll : LSN U 161 jl jr 256) (hcom : mu_TV (mu_D (d + 8)) 258 [.inr (.inr (some 99)), .inr (.inr (some jr)), .inr (.inr (some 124))] H (fun H1 => um m H1 ∧ ur m C H H1 ∧ PV H1 ∧ (ud m H1).2.1 158 15 = (-1 : Int32))) (hret : ∀ H2 H3, um m H2 → ur m C H H2 → PV H2 → um m H3 → ur m C H H3 → ud m H3 = upI (ud m H2) 158 14 0 → Φ (.inl none, H3)) : mu_W (mu_D (d + 8)) mu_m342 (8, [(0, .inr (.inr (some 158))), (1, .inr (.inr (some m)))], [], H) Φ := by
  refine mw_go mu_g342 (k := 2) (f1 := (12, [(0, .inr (.inr (some 158))), (1, .inr (.inr (some m)))], [.inl (mu_i H 158 16)], H)) (C := [mu_is H (some 158) 8]) rfl (show mu_is H (some 158) 8 from (h.1.1.is rfl)) ?_
  rw [(show mu_i H 158 16 = (nI at0) from (ud_i (U := U) (m := m) (P := 158) (j := 16) e rfl).trans hat)]
  refine mw_go mu_g342 (k := 2) (f1 := (16, [(0, .inr (.inr (some 158))), (1, .inr (.inr (some m)))], [.inl (mu_i H 158 17), .inl (nI at0)], H)) (C := [mu_is H (some 158) 8]) rfl (show mu_is H (some 158) 8 from (h.1.1.is rfl)) ?_
  rw [(show mu_i H 158 17 = (nI to0) from (ud_i (U := U) (m := m) (P := 158) (j := 17) e rfl).trans hto)]
  refine mw_if (P := (nI to0) < (nI at0)) (a := 224) (b := 19) (fun _ => rfl) trivial (fun h1 => ?_) (fun h1 => absurd (show (nI to0) < (nI at0) from (nI_ltI (by omega) (by omega)).mpr hgt) h1)
  refine mw_go mu_g342 (k := 2) (f1 := (228, [(0, .inr (.inr (some 158))), (1, .inr (.inr (some m)))], [.inr (.inr (mu_r H 158 0))], H)) (C := [mu_is H (some 158) 8]) rfl (show mu_is H (some 158) 8 from (h.1.1.is rfl)) ?_
  rw [(h.1.1.r (p := 158) (j := 0) (q := 99) rfl)]
  refine mw_go mu_g342 (k := 2) (f1 := (232, [(0, .inr (.inr (some 158))), (1, .inr (.inr (some m)))], [.inr (.inr (mu_r H 158 3)), .inr (.inr (some 99))], H)) (C := [mu_is H (some 158) 8]) rfl (show mu_is H (some 158) 8 from (h.1.1.is rfl)) ?_
  rw [(h.1.1.r (p := 158) (j := 3) (q := 161) rfl)]
  refine mw_go mu_g342 (k := 2) (f1 := (236, [(0, .inr (.inr (some 158))), (1, .inr (.inr (some m)))], [.inl (mu_i H 158 19), .inr (.inr (some 161)), .inr (.inr (some 99))], H)) (C := [mu_is H (some 158) 8]) rfl (show mu_is H (some 158) 8 from (h.1.1.is rfl)) ?_
  rw [(show mu_i H 158 19 = (nI jl) from (ud_i (U := U) (m := m) (P := 158) (j := 19) e rfl).trans hin)]
  have ka2 : mu_r H 161 jl = some jr := (dR_pool e (Or.inl rfl) (plp161 (show jl < 248 by omega))).trans (LSN.ref (show LSN U 161 jl jr _ from hll) (Or.inl rfl))
  refine mw_go mu_g342 (k := 1) (f1 := (237, [(0, .inr (.inr (some 158))), (1, .inr (.inr (some m)))], [.inr (.inr (mu_r H 161 (nI jl).toNatClampNeg)), .inr (.inr (some 99))], H)) (C := [mu_is H (some 161) (mu_k H 161), 103 ≤ mu_k H 161 ∧ mu_k H 161 ≤ 110 ∧ mu_k H 161 ≠ 108, vp_in (nI jl) (mu_n H 161)]) rfl (show (mu_is H (some 161) (mu_k H 161)) ∧ (103 ≤ mu_k H 161 ∧ mu_k H 161 ≤ 110 ∧ mu_k H 161 ≠ 108) ∧ (vp_in (nI jl) (mu_n H 161)) from ⟨(by have z := (h.1.1.a (p := 161) (x := (104, 248)) rfl).1; rw [show mu_k H 161 = 104 from z.2.2]; exact z), (by have z := (h.1.1.a (p := 161) (x := (104, 248)) rfl).1; rw [show mu_k H 161 = 104 from z.2.2]; decide), (by rw [show mu_n H 161 = 248 from (h.1.1.a (p := 161) (x := (104, 248)) rfl).2]; exact vp_in_nI (n := jl) (by omega) (by decide))⟩) ?_
  rw [show (mu_r H 161 (nI jl).toNatClampNeg) = (some jr) from (congrArg (mu_r H 161) (show (nI jl).toNatClampNeg = jl from nI_clamp (by omega))).trans ka2]
  refine mw_go mu_g342 (k := 2) (f1 := (241, [(0, .inr (.inr (some 158))), (1, .inr (.inr (some m)))], [.inr (.inr (mu_r H 158 0)), .inr (.inr (some jr)), .inr (.inr (some 99))], H)) (C := [mu_is H (some 158) 8]) rfl (show mu_is H (some 158) 8 from (h.1.1.is rfl)) ?_
  rw [(h.1.1.r (p := 158) (j := 0) (q := 99) rfl)]
  refine mw_go mu_g342 (k := 1) (f1 := (244, [(0, .inr (.inr (some 158))), (1, .inr (.inr (some m)))], [.inr (.inr (mu_r H 99 14)), .inr (.inr (some jr)), .inr (.inr (some 99))], H)) (C := [mu_is H (some 99) 13]) rfl (show mu_is H (some 99) 13 from (h.1.1.is rfl)) ?_
  rw [(h.1.1.r (p := 99) (j := 14) (q := 124) rfl)]
  refine mw_cV (fun _ => rfl) (show mu_is H (some 99) 13 from (h.1.1.is rfl)) hcom (fun Q3 q3 => ?_)
  obtain ⟨u3, r3, hPV, hasq⟩ := q3
  have ht3 : ur m C H Q3 := (ur.refl m C H).trans r3
  obtain ⟨VE, dE⟩ : ∃ V, ud m Q3 = V := ⟨_, rfl⟩
  rw [dE] at hasq
  refine mw_go mu_g342 (k := 2) (f1 := (251, [(0, .inr (.inr (some 158))), (1, .inr (.inr (some m)))], [.inl (mu_i Q3 158 15)], Q3)) (C := [mu_is Q3 (some 158) 8]) rfl (show mu_is Q3 (some 158) 8 from (u3.1.1.is rfl)) ?_
  rw [(show mu_i Q3 158 15 = (-1 : Int32) from (ud_i (U := VE) (m := m) (P := 158) (j := 15) dE rfl).trans hasq)]
  refine mw_if (P := (-1 : Int32) < 0) (a := 262) (b := 254) (fun _ => rfl) trivial (fun h4 => ?_) (fun h4 => absurd (by decide) h4)
  refine mw_go mu_g342 (k := 3) (f1 := (267, [(0, .inr (.inr (some 158))), (1, .inr (.inr (some m)))], [], (mu_si Q3 158 14 (0 : Int32)))) (C := [mu_is Q3 (some 158) 8]) rfl (show mu_is Q3 (some 158) 8 from (u3.1.1.is rfl)) ?_
  obtain ⟨u5, r5, d5⟩ : um m (mu_si Q3 158 14 (0 : Int32)) ∧ ur m C Q3 (mu_si Q3 158 14 (0 : Int32)) ∧ ud m (mu_si Q3 158 14 (0 : Int32)) = (upI VE 158 14 (0 : Int32)) := u3.sI (C := C) dE rfl
  generalize (mu_si Q3 158 14 (0 : Int32)) = Q5 at u5 r5 d5 ⊢
  have ht5 : ur m C H Q5 := ht3.trans r5
  exact mw_of (fun _ => mu_ret rfl trivial (hret Q3 Q5 u3 ht3 hPV u5 ht5 (by rw [dE]; exact d5)))
/-- all is sought, and kept -/
theorem sk_endK (h : um m H) (e : ud m H = U) (hat : U.2.1 158 16 = nI at0) (hto : U.2.1 158 17 = nI to0) (hatb : at0 < 2147483648) (hgt : to0 < at0) (hin : U.2.1 158 19 = nI jl) (hjl : jl < 248) (hll : LSN U 161 jl jr 256) (hcom : mu_TV (mu_D (d + 8)) 258 [.inr (.inr (some 99)), .inr (.inr (some jr)), .inr (.inr (some 124))] H (fun H1 => um m H1 ∧ ur m C H H1 ∧ PV H1 ∧ (ud m H1).2.1 158 15 = nI sj)) (hsp : sj < 2147483648) (hkeep : ∀ H2, um m H2 → PV H2 → mu_TV (mu_D (d + 8)) 351 [.inr (.inr (some 158)), .inl (nI sj)] H2 (fun H3 => um m H3 ∧ ur m C H2 H3 ∧ PW H3)) (hret : ∀ H2 H3, um m H2 → ur m C H H2 → PW H2 → um m H3 → ur m C H H3 → ud m H3 = upI (ud m H2) 158 14 0 → Φ (.inl none, H3)) : mu_W (mu_D (d + 8)) mu_m342 (8, [(0, .inr (.inr (some 158))), (1, .inr (.inr (some m)))], [], H) Φ := by
  refine mw_go mu_g342 (k := 2) (f1 := (12, [(0, .inr (.inr (some 158))), (1, .inr (.inr (some m)))], [.inl (mu_i H 158 16)], H)) (C := [mu_is H (some 158) 8]) rfl (show mu_is H (some 158) 8 from (h.1.1.is rfl)) ?_
  rw [(show mu_i H 158 16 = (nI at0) from (ud_i (U := U) (m := m) (P := 158) (j := 16) e rfl).trans hat)]
  refine mw_go mu_g342 (k := 2) (f1 := (16, [(0, .inr (.inr (some 158))), (1, .inr (.inr (some m)))], [.inl (mu_i H 158 17), .inl (nI at0)], H)) (C := [mu_is H (some 158) 8]) rfl (show mu_is H (some 158) 8 from (h.1.1.is rfl)) ?_
  rw [(show mu_i H 158 17 = (nI to0) from (ud_i (U := U) (m := m) (P := 158) (j := 17) e rfl).trans hto)]
  refine mw_if (P := (nI to0) < (nI at0)) (a := 224) (b := 19) (fun _ => rfl) trivial (fun h1 => ?_) (fun h1 => absurd (show (nI to0) < (nI at0) from (nI_ltI (by omega) (by omega)).mpr hgt) h1)
  refine mw_go mu_g342 (k := 2) (f1 := (228, [(0, .inr (.inr (some 158))), (1, .inr (.inr (some m)))], [.inr (.inr (mu_r H 158 0))], H)) (C := [mu_is H (some 158) 8]) rfl (show mu_is H (some 158) 8 from (h.1.1.is rfl)) ?_
  rw [(h.1.1.r (p := 158) (j := 0) (q := 99) rfl)]
  refine mw_go mu_g342 (k := 2) (f1 := (232, [(0, .inr (.inr (some 158))), (1, .inr (.inr (some m)))], [.inr (.inr (mu_r H 158 3)), .inr (.inr (some 99))], H)) (C := [mu_is H (some 158) 8]) rfl (show mu_is H (some 158) 8 from (h.1.1.is rfl)) ?_
  rw [(h.1.1.r (p := 158) (j := 3) (q := 161) rfl)]
  refine mw_go mu_g342 (k := 2) (f1 := (236, [(0, .inr (.inr (some 158))), (1, .inr (.inr (some m)))], [.inl (mu_i H 158 19), .inr (.inr (some 161)), .inr (.inr (some 99))], H)) (C := [mu_is H (some 158) 8]) rfl (show mu_is H (some 158) 8 from (h.1.1.is rfl)) ?_
  rw [(show mu_i H 158 19 = (nI jl) from (ud_i (U := U) (m := m) (P := 158) (j := 19) e rfl).trans hin)]
  have ka2 : mu_r H 161 jl = some jr := (dR_pool e (Or.inl rfl) (plp161 (show jl < 248 by omega))).trans (LSN.ref (show LSN U 161 jl jr _ from hll) (Or.inl rfl))
  refine mw_go mu_g342 (k := 1) (f1 := (237, [(0, .inr (.inr (some 158))), (1, .inr (.inr (some m)))], [.inr (.inr (mu_r H 161 (nI jl).toNatClampNeg)), .inr (.inr (some 99))], H)) (C := [mu_is H (some 161) (mu_k H 161), 103 ≤ mu_k H 161 ∧ mu_k H 161 ≤ 110 ∧ mu_k H 161 ≠ 108, vp_in (nI jl) (mu_n H 161)]) rfl (show (mu_is H (some 161) (mu_k H 161)) ∧ (103 ≤ mu_k H 161 ∧ mu_k H 161 ≤ 110 ∧ mu_k H 161 ≠ 108) ∧ (vp_in (nI jl) (mu_n H 161)) from ⟨(by have z := (h.1.1.a (p := 161) (x := (104, 248)) rfl).1; rw [show mu_k H 161 = 104 from z.2.2]; exact z), (by have z := (h.1.1.a (p := 161) (x := (104, 248)) rfl).1; rw [show mu_k H 161 = 104 from z.2.2]; decide), (by rw [show mu_n H 161 = 248 from (h.1.1.a (p := 161) (x := (104, 248)) rfl).2]; exact vp_in_nI (n := jl) (by omega) (by decide))⟩) ?_
  rw [show (mu_r H 161 (nI jl).toNatClampNeg) = (some jr) from (congrArg (mu_r H 161) (show (nI jl).toNatClampNeg = jl from nI_clamp (by omega))).trans ka2]
  refine mw_go mu_g342 (k := 2) (f1 := (241, [(0, .inr (.inr (some 158))), (1, .inr (.inr (some m)))], [.inr (.inr (mu_r H 158 0)), .inr (.inr (some jr)), .inr (.inr (some 99))], H)) (C := [mu_is H (some 158) 8]) rfl (show mu_is H (some 158) 8 from (h.1.1.is rfl)) ?_
  rw [(h.1.1.r (p := 158) (j := 0) (q := 99) rfl)]
  refine mw_go mu_g342 (k := 1) (f1 := (244, [(0, .inr (.inr (some 158))), (1, .inr (.inr (some m)))], [.inr (.inr (mu_r H 99 14)), .inr (.inr (some jr)), .inr (.inr (some 99))], H)) (C := [mu_is H (some 99) 13]) rfl (show mu_is H (some 99) 13 from (h.1.1.is rfl)) ?_
  rw [(h.1.1.r (p := 99) (j := 14) (q := 124) rfl)]
  refine mw_cV (fun _ => rfl) (show mu_is H (some 99) 13 from (h.1.1.is rfl)) hcom (fun Q3 q3 => ?_)
  obtain ⟨u3, r3, hPV, hasq⟩ := q3
  have ht3 : ur m C H Q3 := (ur.refl m C H).trans r3
  obtain ⟨VE, dE⟩ : ∃ V, ud m Q3 = V := ⟨_, rfl⟩
  rw [dE] at hasq
  refine mw_go mu_g342 (k := 2) (f1 := (251, [(0, .inr (.inr (some 158))), (1, .inr (.inr (some m)))], [.inl (mu_i Q3 158 15)], Q3)) (C := [mu_is Q3 (some 158) 8]) rfl (show mu_is Q3 (some 158) 8 from (u3.1.1.is rfl)) ?_
  rw [(show mu_i Q3 158 15 = (nI sj) from (ud_i (U := VE) (m := m) (P := 158) (j := 15) dE rfl).trans hasq)]
  refine mw_if (P := (nI sj) < 0) (a := 262) (b := 254) (fun _ => rfl) trivial (fun h4 => absurd h4 (show ¬ (nI sj) < 0 from nI_pos hsp)) (fun h4 => ?_)
  refine mw_go mu_g342 (k := 3) (f1 := (259, [(0, .inr (.inr (some 158))), (1, .inr (.inr (some m)))], [.inl (mu_i Q3 158 15), .inr (.inr (some 158))], Q3)) (C := [mu_is Q3 (some 158) 8]) rfl (show mu_is Q3 (some 158) 8 from (u3.1.1.is rfl)) ?_
  rw [(show mu_i Q3 158 15 = (nI sj) from (ud_i (U := VE) (m := m) (P := 158) (j := 15) dE rfl).trans hasq)]
  refine mw_cV (fun _ => rfl) (show mu_is Q3 (some 158) 8 from (u3.1.1.is rfl)) (hkeep Q3 u3 hPV) (fun Q5 q5 => ?_)
  obtain ⟨u5, r5, hPW⟩ := q5
  have ht5 : ur m C H Q5 := ht3.trans r5
  obtain ⟨VK, dK⟩ : ∃ V, ud m Q5 = V := ⟨_, rfl⟩
  refine mw_go mu_g342 (k := 3) (f1 := (267, [(0, .inr (.inr (some 158))), (1, .inr (.inr (some m)))], [], (mu_si Q5 158 14 (0 : Int32)))) (C := [mu_is Q5 (some 158) 8]) rfl (show mu_is Q5 (some 158) 8 from (u5.1.1.is rfl)) ?_
  obtain ⟨u6, r6, d6⟩ : um m (mu_si Q5 158 14 (0 : Int32)) ∧ ur m C Q5 (mu_si Q5 158 14 (0 : Int32)) ∧ ud m (mu_si Q5 158 14 (0 : Int32)) = (upI VK 158 14 (0 : Int32)) := u5.sI (C := C) dK rfl
  generalize (mu_si Q5 158 14 (0 : Int32)) = Q6 at u6 r6 d6 ⊢
  have ht6 : ur m C H Q6 := ht5.trans r6
  exact mw_of (fun _ => mu_ret rfl trivial (hret Q5 Q6 u5 ht5 hPW u6 ht6 (by rw [dK]; exact d6)))
/-- seekOn: its loop as it stands -/
theorem pr_seekW (h : um m H) (e : ud m H = U) (hmo : U.2.2.2.1 99 0 = some m) (hW8 : ∀ Φ : mu_R → Prop, (∀ H1, PV H1 → Φ (.inl none, H1)) → mu_W (mu_D (d + 8)) mu_m342 (8, [(0, .inr (.inr (some 158))), (1, .inr (.inr (some m)))], [], H) Φ) : mu_TV (mu_D (d + 9)) 342 [.inr (.inr (some 158))] H PV := by
  refine mu_meth (M := mu_m342) rfl rfl ?_
  refine mw_ht (mu_fn_of (show [0].Nodup by decide)) ?_
  refine mw_go mu_g342 (k := 2) (f1 := (4, [(0, .inr (.inr (some 158)))], [.inr (.inr (mu_r H 158 0))], H)) (C := [mu_is H (some 158) 8]) rfl (show mu_is H (some 158) 8 from (h.1.1.is rfl)) ?_
  rw [(h.1.1.r (p := 158) (j := 0) (q := 99) rfl)]
  refine mw_go mu_g342 (k := 1) (f1 := (7, [(0, .inr (.inr (some 158)))], [.inr (.inr (mu_r H 99 0))], H)) (C := [mu_is H (some 99) 13]) rfl (show mu_is H (some 99) 13 from (h.1.1.is rfl)) ?_
  rw [(show mu_r H 99 0 = (some m) from (ud_q (U := U) (m := m) (P := 99) (j := 0) e rfl).trans hmo)]
  refine mw_go mu_g342 (k := 1) (f1 := (8, [(1, .inr (.inr (some m))), (0, .inr (.inr (some 158)))], [], H)) (C := []) rfl trivial ?_
  exact mw_sub (by simp) (hW8 _ (fun H1 y => ⟨H1, rfl, y⟩))
end SeekOn
