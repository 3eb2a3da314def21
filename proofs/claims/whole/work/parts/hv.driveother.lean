/-! drive: a truth is reckoned, a SPEC is sought, the Prover goes on -/
section DriveOther
variable {H : mu_H} {U : Ud} {m d i qo T R wn nf ta : Nat} {C : Nat → Nat} {rx mb me : Nat → Nat} {RB : Nat → Nat → Prop} {FS : Nat → Nat → Bool} {Φ : mu_R → Prop} {PV PW : mu_H → Prop}
/-- a truth is reckoned -/
theorem dr_truth (h : um m H) (e : ud m H = U) (hi : i < 1073741824) (hwa : U.2.1 147 15 = -1) (htr : U.2.2.2.1 158 22 = some qo) (hqb : qo < 3000000) (heval : mu_TV (mu_D (d + 20)) 257 [.inr (.inr (some 99)), .inl (-1), .inr (.inr (some qo))] H (fun H1 => um m H1 ∧ ur m C H H1 ∧ PV H1)) (hback : ∀ H2 H3, um m H2 → ur m C H H2 → PV H2 → um m H3 → ur m C H H3 → ud m H3 = upR (ud m H2) 158 22 none → mu_W (mu_D (d + 20)) mu_m376 (2, [(1, .inl (nI (i + 1))), (0, .inr (.inr (some 0)))], [], H3) Φ) : mu_W (mu_D (d + 20)) mu_m376 (2, [(1, .inl (nI i)), (0, .inr (.inr (some 0)))], [], H) Φ := by
  refine mw_go mu_g376 (k := 2) (f1 := (6, [(1, .inl (nI i)), (0, .inr (.inr (some 0)))], [.inl (1073741824 : Int32), .inl (nI i)], H)) (C := []) rfl trivial ?_
  refine mw_if (P := (nI i) < (1073741824 : Int32)) (a := 9) (b := 161) (fun _ => rfl) trivial (fun h1 => ?_) (fun h1 => absurd (show nI i < nI 1073741824 from (nI_ltI (by omega) (by decide)).mpr hi) h1)
  refine mw_go mu_g376 (k := 2) (f1 := (13, [(1, .inl (nI i)), (0, .inr (.inr (some 0)))], [.inr (.inr (mu_r H 0 10))], H)) (C := [mu_is H (some 0) 0]) rfl (show mu_is H (some 0) 0 from (h.1.1.is rfl)) ?_
  rw [(h.1.1.r (p := 0) (j := 10) (q := 147) rfl)]
  refine mw_go mu_g376 (k := 1) (f1 := (16, [(1, .inl (nI i)), (0, .inr (.inr (some 0)))], [.inl (mu_i H 147 15)], H)) (C := [mu_is H (some 147) 2]) rfl (show mu_is H (some 147) 2 from (h.1.1.is rfl)) ?_
  rw [(show mu_i H 147 15 = (-1 : Int32) from (ud_i (U := U) (m := m) (P := 147) (j := 15) e rfl).trans hwa)]
  refine mw_if (P := (-1 : Int32) < 0) (a := 88) (b := 19) (fun _ => rfl) trivial (fun h2 => ?_) (fun h2 => absurd (by decide) h2)
  refine mw_go mu_g376 (k := 2) (f1 := (92, [(1, .inl (nI i)), (0, .inr (.inr (some 0)))], [.inr (.inr (mu_r H 0 11))], H)) (C := [mu_is H (some 0) 0]) rfl (show mu_is H (some 0) 0 from (h.1.1.is rfl)) ?_
  rw [(h.1.1.r (p := 0) (j := 11) (q := 158) rfl)]
  refine mw_go mu_g376 (k := 1) (f1 := (95, [(1, .inl (nI i)), (0, .inr (.inr (some 0)))], [.inr (.inr (mu_r H 158 22))], H)) (C := [mu_is H (some 158) 8]) rfl (show mu_is H (some 158) 8 from (h.1.1.is rfl)) ?_
  rw [(show mu_r H 158 22 = (some qo) from (ud_q (U := U) (m := m) (P := 158) (j := 22) e rfl).trans htr)]
  refine mw_if (P := (some qo) = none) (a := 124) (b := 98) (fun _ => rfl) (show (some qo) ≠ some 3000000 from (fun z => by have z3 := Option.some.inj z; omega)) (fun h3 => absurd h3 (fun z => by cases z)) (fun _ => ?_)
  refine mw_go mu_g376 (k := 2) (f1 := (102, [(1, .inl (nI i)), (0, .inr (.inr (some 0)))], [.inr (.inr (mu_r H 0 8))], H)) (C := [mu_is H (some 0) 0]) rfl (show mu_is H (some 0) 0 from (h.1.1.is rfl)) ?_
  rw [(h.1.1.r (p := 0) (j := 8) (q := 99) rfl)]
  refine mw_go mu_g376 (k := 3) (f1 := (107, [(1, .inl (nI i)), (0, .inr (.inr (some 0)))], [.inr (.inr (mu_r H 0 11)), .inl (-1 : Int32), .inr (.inr (some 99))], H)) (C := [mu_is H (some 0) 0]) rfl (show mu_is H (some 0) 0 from (h.1.1.is rfl)) ?_
  rw [(h.1.1.r (p := 0) (j := 11) (q := 158) rfl)]
  refine mw_go mu_g376 (k := 1) (f1 := (110, [(1, .inl (nI i)), (0, .inr (.inr (some 0)))], [.inr (.inr (mu_r H 158 22)), .inl (-1 : Int32), .inr (.inr (some 99))], H)) (C := [mu_is H (some 158) 8]) rfl (show mu_is H (some 158) 8 from (h.1.1.is rfl)) ?_
  rw [(show mu_r H 158 22 = (some qo) from (ud_q (U := U) (m := m) (P := 158) (j := 22) e rfl).trans htr)]
  refine mw_cV (fun _ => rfl) (show mu_is H (some 99) 13 from (h.1.1.is rfl)) heval (fun Q4 q4 => ?_)
  obtain ⟨u4, r4, hPV⟩ := q4
  have ht4 : ur m C H Q4 := (ur.refl m C H).trans r4
  obtain ⟨VE, dE⟩ : ∃ V, ud m Q4 = V := ⟨_, rfl⟩
  refine mw_go mu_g376 (k := 2) (f1 := (117, [(1, .inl (nI i)), (0, .inr (.inr (some 0)))], [.inr (.inr (mu_r Q4 0 11))], Q4)) (C := [mu_is Q4 (some 0) 0]) rfl (show mu_is Q4 (some 0) 0 from (u4.1.1.is rfl)) ?_
  rw [(u4.1.1.r (p := 0) (j := 11) (q := 158) rfl)]
  refine mw_go mu_g376 (k := 1) (f1 := (118, [(1, .inl (nI i)), (0, .inr (.inr (some 0)))], [.inr (.inr none), .inr (.inr (some 158))], Q4)) (C := []) rfl trivial ?_
  refine mw_go mu_g376 (k := 1) (f1 := (121, [(1, .inl (nI i)), (0, .inr (.inr (some 0)))], [], (mu_sr Q4 158 22 none))) (C := [mu_is Q4 (some 158) 8]) rfl (show mu_is Q4 (some 158) 8 from (u4.1.1.is rfl)) ?_
  obtain ⟨u5, r5, d5⟩ : um m (mu_sr Q4 158 22 none) ∧ ur m C Q4 (mu_sr Q4 158 22 none) ∧ ud m (mu_sr Q4 158 22 none) = (upR VE 158 22 none) := (by have z := u4.putR (C := C) (P := 158) (k := 22) (v := none) rfl rfl rfl (by decide) (fun q hq => by cases hq); rw [dE] at z; exact z)
  generalize (mu_sr Q4 158 22 none) = Q5 at u5 r5 d5 ⊢
  have ht5 : ur m C H Q5 := ht4.trans r5
  refine mw_go mu_g376 (k := 2) (f1 := (158, [(1, .inl ((nI i) + 1)), (0, .inr (.inr (some 0)))], [], Q5)) (C := []) rfl trivial ?_
  rw [(show ((nI i) + 1) = (nI (i + 1)) from (nI_add i 1))]
  refine mw_go mu_g376 (k := 1) (f1 := (2, [(1, .inl (nI (i + 1))), (0, .inr (.inr (some 0)))], [], Q5)) (C := []) rfl trivial ?_
  exact mw_sub (by simp) (hback Q4 Q5 u4 ht4 hPV u5 ht5 (by rw [dE]; exact d5))
/-- a SPEC is sought -/
theorem dr_seek (h : um m H) (e : ud m H = U) (hi : i < 1073741824) (hwa : U.2.1 147 15 = -1) (htr : U.2.2.2.1 158 22 = none) (hta : U.2.1 158 14 = 3) (hsk : mu_TV (mu_D (d + 20)) 342 [.inr (.inr (some 158))] H PV) (hback : ∀ H3, PV H3 → mu_W (mu_D (d + 20)) mu_m376 (2, [(1, .inl (nI (i + 1))), (0, .inr (.inr (some 0)))], [], H3) Φ) : mu_W (mu_D (d + 20)) mu_m376 (2, [(1, .inl (nI i)), (0, .inr (.inr (some 0)))], [], H) Φ := by
  refine mw_go mu_g376 (k := 2) (f1 := (6, [(1, .inl (nI i)), (0, .inr (.inr (some 0)))], [.inl (1073741824 : Int32), .inl (nI i)], H)) (C := []) rfl trivial ?_
  refine mw_if (P := (nI i) < (1073741824 : Int32)) (a := 9) (b := 161) (fun _ => rfl) trivial (fun h1 => ?_) (fun h1 => absurd (show nI i < nI 1073741824 from (nI_ltI (by omega) (by decide)).mpr hi) h1)
  refine mw_go mu_g376 (k := 2) (f1 := (13, [(1, .inl (nI i)), (0, .inr (.inr (some 0)))], [.inr (.inr (mu_r H 0 10))], H)) (C := [mu_is H (some 0) 0]) rfl (show mu_is H (some 0) 0 from (h.1.1.is rfl)) ?_
  rw [(h.1.1.r (p := 0) (j := 10) (q := 147) rfl)]
  refine mw_go mu_g376 (k := 1) (f1 := (16, [(1, .inl (nI i)), (0, .inr (.inr (some 0)))], [.inl (mu_i H 147 15)], H)) (C := [mu_is H (some 147) 2]) rfl (show mu_is H (some 147) 2 from (h.1.1.is rfl)) ?_
  rw [(show mu_i H 147 15 = (-1 : Int32) from (ud_i (U := U) (m := m) (P := 147) (j := 15) e rfl).trans hwa)]
  refine mw_if (P := (-1 : Int32) < 0) (a := 88) (b := 19) (fun _ => rfl) trivial (fun h2 => ?_) (fun h2 => absurd (by decide) h2)
  refine mw_go mu_g376 (k := 2) (f1 := (92, [(1, .inl (nI i)), (0, .inr (.inr (some 0)))], [.inr (.inr (mu_r H 0 11))], H)) (C := [mu_is H (some 0) 0]) rfl (show mu_is H (some 0) 0 from (h.1.1.is rfl)) ?_
  rw [(h.1.1.r (p := 0) (j := 11) (q := 158) rfl)]
  refine mw_go mu_g376 (k := 1) (f1 := (95, [(1, .inl (nI i)), (0, .inr (.inr (some 0)))], [.inr (.inr (mu_r H 158 22))], H)) (C := [mu_is H (some 158) 8]) rfl (show mu_is H (some 158) 8 from (h.1.1.is rfl)) ?_
  rw [(show mu_r H 158 22 = none from (ud_q (U := U) (m := m) (P := 158) (j := 22) e rfl).trans htr)]
  refine mw_if (P := none = none) (a := 124) (b := 98) (fun _ => rfl) (show none ≠ some 3000000 from (fun z => by cases z)) (fun _ => ?_) (fun h3 => absurd rfl h3)
  refine mw_go mu_g376 (k := 2) (f1 := (128, [(1, .inl (nI i)), (0, .inr (.inr (some 0)))], [.inr (.inr (mu_r H 0 11))], H)) (C := [mu_is H (some 0) 0]) rfl (show mu_is H (some 0) 0 from (h.1.1.is rfl)) ?_
  rw [(h.1.1.r (p := 0) (j := 11) (q := 158) rfl)]
  refine mw_cIe (fun _ => rfl) (show mu_is H (some 158) 8 from (h.1.1.is rfl)) (pr_seeking (d := (d + 19)) h e) ?_
  rw [if_pos hta]
  refine mw_if (P := (1 : Int32) = 0) (a := 144) (b := 134) (fun _ => rfl) trivial (fun h6 => absurd h6 (by decide)) (fun h6 => ?_)
  refine mw_go mu_g376 (k := 2) (f1 := (138, [(1, .inl (nI i)), (0, .inr (.inr (some 0)))], [.inr (.inr (mu_r H 0 11))], H)) (C := [mu_is H (some 0) 0]) rfl (show mu_is H (some 0) 0 from (h.1.1.is rfl)) ?_
  rw [(h.1.1.r (p := 0) (j := 11) (q := 158) rfl)]
  refine mw_cV (fun _ => rfl) (show mu_is H (some 158) 8 from (h.1.1.is rfl)) hsk (fun Q7 hPV => ?_)
  refine mw_go mu_g376 (k := 2) (f1 := (158, [(1, .inl ((nI i) + 1)), (0, .inr (.inr (some 0)))], [], Q7)) (C := []) rfl trivial ?_
  rw [(show ((nI i) + 1) = (nI (i + 1)) from (nI_add i 1))]
  refine mw_go mu_g376 (k := 1) (f1 := (2, [(1, .inl (nI (i + 1))), (0, .inr (.inr (some 0)))], [], Q7)) (C := []) rfl trivial ?_
  exact mw_sub (by simp) (hback Q7 hPV)
/-- the Prover goes on, or has ended -/
theorem dr_adv (h : um m H) (e : ud m H = U) (hi : i < 1073741824) (hwa : U.2.1 147 15 = -1) (htr : U.2.2.2.1 158 22 = none) (hta : ¬ U.2.1 158 14 = 3) (hadv : mu_TI (mu_D (d + 20)) 343 [.inr (.inr (some 158))] H (fun x H1 => (x = 1 ∧ PV H1) ∨ (x = 0 ∧ PW H1))) (hback : ∀ H3, PV H3 → mu_W (mu_D (d + 20)) mu_m376 (2, [(1, .inl (nI (i + 1))), (0, .inr (.inr (some 0)))], [], H3) Φ) (hret : ∀ H3, PW H3 → Φ (.inl none, H3)) : mu_W (mu_D (d + 20)) mu_m376 (2, [(1, .inl (nI i)), (0, .inr (.inr (some 0)))], [], H) Φ := by
  refine mw_go mu_g376 (k := 2) (f1 := (6, [(1, .inl (nI i)), (0, .inr (.inr (some 0)))], [.inl (1073741824 : Int32), .inl (nI i)], H)) (C := []) rfl trivial ?_
  refine mw_if (P := (nI i) < (1073741824 : Int32)) (a := 9) (b := 161) (fun _ => rfl) trivial (fun h1 => ?_) (fun h1 => absurd (show nI i < nI 1073741824 from (nI_ltI (by omega) (by decide)).mpr hi) h1)
  refine mw_go mu_g376 (k := 2) (f1 := (13, [(1, .inl (nI i)), (0, .inr (.inr (some 0)))], [.inr (.inr (mu_r H 0 10))], H)) (C := [mu_is H (some 0) 0]) rfl (show mu_is H (some 0) 0 from (h.1.1.is rfl)) ?_
  rw [(h.1.1.r (p := 0) (j := 10) (q := 147) rfl)]
  refine mw_go mu_g376 (k := 1) (f1 := (16, [(1, .inl (nI i)), (0, .inr (.inr (some 0)))], [.inl (mu_i H 147 15)], H)) (C := [mu_is H (some 147) 2]) rfl (show mu_is H (some 147) 2 from (h.1.1.is rfl)) ?_
  rw [(show mu_i H 147 15 = (-1 : Int32) from (ud_i (U := U) (m := m) (P := 147) (j := 15) e rfl).trans hwa)]
  refine mw_if (P := (-1 : Int32) < 0) (a := 88) (b := 19) (fun _ => rfl) trivial (fun h2 => ?_) (fun h2 => absurd (by decide) h2)
  refine mw_go mu_g376 (k := 2) (f1 := (92, [(1, .inl (nI i)), (0, .inr (.inr (some 0)))], [.inr (.inr (mu_r H 0 11))], H)) (C := [mu_is H (some 0) 0]) rfl (show mu_is H (some 0) 0 from (h.1.1.is rfl)) ?_
  rw [(h.1.1.r (p := 0) (j := 11) (q := 158) rfl)]
  refine mw_go mu_g376 (k := 1) (f1 := (95, [(1, .inl (nI i)), (0, .inr (.inr (some 0)))], [.inr (.inr (mu_r H 158 22))], H)) (C := [mu_is H (some 158) 8]) rfl (show mu_is H (some 158) 8 from (h.1.1.is rfl)) ?_
  rw [(show mu_r H 158 22 = none from (ud_q (U := U) (m := m) (P := 158) (j := 22) e rfl).trans htr)]
  refine mw_if (P := none = none) (a := 124) (b := 98) (fun _ => rfl) (show none ≠ some 3000000 from (fun z => by cases z)) (fun _ => ?_) (fun h3 => absurd rfl h3)
  refine mw_go mu_g376 (k := 2) (f1 := (128, [(1, .inl (nI i)), (0, .inr (.inr (some 0)))], [.inr (.inr (mu_r H 0 11))], H)) (C := [mu_is H (some 0) 0]) rfl (show mu_is H (some 0) 0 from (h.1.1.is rfl)) ?_
  rw [(h.1.1.r (p := 0) (j := 11) (q := 158) rfl)]
  refine mw_cIe (fun _ => rfl) (show mu_is H (some 158) 8 from (h.1.1.is rfl)) (pr_seeking (d := (d + 19)) h e) ?_
  rw [if_neg hta]
  refine mw_if (P := (0 : Int32) = 0) (a := 144) (b := 134) (fun _ => rfl) trivial (fun h6 => ?_) (fun h6 => absurd (by decide) h6)
  refine mw_go mu_g376 (k := 2) (f1 := (148, [(1, .inl (nI i)), (0, .inr (.inr (some 0)))], [.inr (.inr (mu_r H 0 11))], H)) (C := [mu_is H (some 0) 0]) rfl (show mu_is H (some 0) 0 from (h.1.1.is rfl)) ?_
  rw [(h.1.1.r (p := 0) (j := 11) (q := 158) rfl)]
  refine mw_cI (fun _ => rfl) (show mu_is H (some 158) 8 from (h.1.1.is rfl)) hadv (fun x7 Q7 q7 => ?_)
  rcases q7 with ⟨rfl, hPV⟩ | ⟨rfl, hPV⟩
  · -- (1 : Int32)
    refine mw_if (P := (1 : Int32) = 0) (a := 154) (b := 155) (fun _ => rfl) trivial (fun h8 => absurd h8 (by decide)) (fun h8 => ?_)
    refine mw_go mu_g376 (k := 1) (f1 := (158, [(1, .inl ((nI i) + 1)), (0, .inr (.inr (some 0)))], [], Q7)) (C := []) rfl trivial ?_
    rw [(show ((nI i) + 1) = (nI (i + 1)) from (nI_add i 1))]
    refine mw_go mu_g376 (k := 1) (f1 := (2, [(1, .inl (nI (i + 1))), (0, .inr (.inr (some 0)))], [], Q7)) (C := []) rfl trivial ?_
    exact mw_sub (by simp) (hback Q7 hPV)
  · -- (0 : Int32)
    refine mw_if (P := (0 : Int32) = 0) (a := 154) (b := 155) (fun _ => rfl) trivial (fun h9 => ?_) (fun h9 => absurd (by decide) h9)
    exact mw_of (fun _ => mu_ret rfl trivial (hret Q7 hPV))
/-- PathProver$Prover.advance()Z -/
abbrev mu_m343 : ev_M := (1, (some .boolean), [], ev_b343)
theorem mu_g343 : mu_good mu_m343 := mu_goodk ev_k343
theorem pr_adv1 (h : um m H) (e : ud m H = U) (hta : U.2.1 158 14 = 1) (hG : GRB U T R wn rx mb me) (hF : FST U nf T FS) (hET : ∀ s, s < 64 * wn → bts (U.2.2.2.2.1 124) s = true → s < T) (hRB : ∀ x t, RB x t → t < T) : mu_TI (mu_D (d + 6)) 343 [.inr (.inr (some 158))] H (fun x H1 => x = 1 ∧ um m H1 ∧ ur m C H H1 ∧ uq F311 (upI U 158 14 2) (ud m H1) ∧ SWJ (ud m H1) T R wn rx mb me 0 148 148 RB (fun t => t < T ∧ bts (U.2.2.2.2.1 124) t = true) (fun _ => False) 1 nf FS (8 * R)) := by
  refine mu_meth (M := mu_m343) rfl rfl ?_
  refine mw_ht (mu_fn_of (show [0].Nodup by decide)) ?_
  refine mw_go mu_g343 (k := 2) (f1 := (4, [(0, .inr (.inr (some 158)))], [.inl (mu_i H 158 14)], H)) (C := [mu_is H (some 158) 8]) rfl (show mu_is H (some 158) 8 from (h.1.1.is rfl)) ?_
  rw [(show mu_i H 158 14 = (1 : Int32) from (ud_i (U := U) (m := m) (P := 158) (j := 14) e rfl).trans hta)]
  refine mw_tsw2 rfl (by decide) (fun hx => ?_) ⟨fun z => ?_, fun z => ?_, fun z => ?_, fun z => ?_, fun z => ?_, fun z => ?_, trivial⟩
  · -- None: 116
    exact absurd hx (by decide)
  · -- 1: 44
    refine mw_go mu_g343 (k := 3) (f1 := (49, [(0, .inr (.inr (some 158)))], [], (mu_si H 158 14 (2 : Int32)))) (C := [mu_is H (some 158) 8]) rfl (show mu_is H (some 158) 8 from (h.1.1.is rfl)) ?_
    obtain ⟨u1, r1, d1⟩ : um m (mu_si H 158 14 (2 : Int32)) ∧ ur m C H (mu_si H 158 14 (2 : Int32)) ∧ ud m (mu_si H 158 14 (2 : Int32)) = (upI U 158 14 (2 : Int32)) := h.sI (C := C) e rfl
    generalize (mu_si H 158 14 (2 : Int32)) = Q1 at u1 r1 d1 ⊢
    have ht1 : ur m C H Q1 := (ur.refl m C H).trans r1
    refine mw_go mu_g343 (k := 2) (f1 := (53, [(0, .inr (.inr (some 158)))], [.inr (.inr (mu_r Q1 158 1))], Q1)) (C := [mu_is Q1 (some 158) 8]) rfl (show mu_is Q1 (some 158) 8 from (u1.1.1.is rfl)) ?_
    rw [(u1.1.1.r (p := 158) (j := 1) (q := 147) rfl)]
    refine mw_cV (fun _ => rfl) (show mu_is Q1 (some 147) 2 from (u1.1.1.is rfl)) (gr_findFair (d := d) (C := C) (RB := RB) u1 d1 (show GRB (upI U 158 14 (2 : Int32)) T R wn rx mb me from hG) (show FST (upI U 158 14 (2 : Int32)) nf T FS from hF.eq rfl rfl (fun _ => rfl)) hET hRB) (fun Q2 q2 => ?_)
    obtain ⟨u2, r2, z2, hsw⟩ := q2
    have ht2 : ur m C H Q2 := ht1.trans r2
    obtain ⟨V2, d2⟩ : ∃ V, ud m Q2 = V := ⟨_, rfl⟩
    rw [d2] at z2 hsw
    refine mw_go mu_g343 (k := 3) (f1 := (125, [(0, .inr (.inr (some 158)))], [.inl (mu_i Q2 158 14)], Q2)) (C := [mu_is Q2 (some 158) 8]) rfl (show mu_is Q2 (some 158) 8 from (u2.1.1.is rfl)) ?_
    rw [(show mu_i Q2 158 14 = (2 : Int32) from (ud_i (U := V2) (m := m) (P := 158) (j := 14) d2 rfl).trans (z2.i 158 14 rfl))]
    refine mw_if (P := (2 : Int32) = 0) (a := 132) (b := 128) (fun _ => rfl) trivial (fun h3 => absurd h3 (by decide)) (fun h3 => ?_)
    refine mw_go mu_g343 (k := 2) (f1 := (133, [(0, .inr (.inr (some 158)))], [.inl (1 : Int32)], Q2)) (C := []) rfl trivial ?_
    exact mw_of (fun _ => mu_ret rfl (Or.inr rfl) ⟨(1 : Int32), Q2, rfl, rfl, u2, ht2, (by rw [d2]; exact z2), (by rw [d2]; exact hsw)⟩)
  · -- 2: 116
    exact absurd z (by decide)
  · -- 3: 116
    exact absurd z (by decide)
  · -- 4: 59
    exact absurd z (by decide)
  · -- 5: 102
    exact absurd z (by decide)
  · -- 6: 109
    exact absurd z (by decide)
theorem pr_adv0 (h : um m H) (e : ud m H = U) (hta : U.2.1 158 14 = 0)  : mu_TI (mu_D (d + 6)) 343 [.inr (.inr (some 158))] H (fun x H1 => x = 0 ∧ um m H1 ∧ ur m C H H1 ∧ ud m H1 = upI U 158 14 0) := by
  refine mu_meth (M := mu_m343) rfl rfl ?_
  refine mw_ht (mu_fn_of (show [0].Nodup by decide)) ?_
  refine mw_go mu_g343 (k := 2) (f1 := (4, [(0, .inr (.inr (some 158)))], [.inl (mu_i H 158 14)], H)) (C := [mu_is H (some 158) 8]) rfl (show mu_is H (some 158) 8 from (h.1.1.is rfl)) ?_
  rw [(show mu_i H 158 14 = (0 : Int32) from (ud_i (U := U) (m := m) (P := 158) (j := 14) e rfl).trans hta)]
  refine mw_tsw2 rfl (by decide) (fun hx => ?_) ⟨fun z => ?_, fun z => ?_, fun z => ?_, fun z => ?_, fun z => ?_, fun z => ?_, trivial⟩
  · -- None: 116
    refine mw_go mu_g343 (k := 3) (f1 := (121, [(0, .inr (.inr (some 158)))], [], (mu_si H 158 14 (0 : Int32)))) (C := [mu_is H (some 158) 8]) rfl (show mu_is H (some 158) 8 from (h.1.1.is rfl)) ?_
    obtain ⟨u1, r1, d1⟩ : um m (mu_si H 158 14 (0 : Int32)) ∧ ur m C H (mu_si H 158 14 (0 : Int32)) ∧ ud m (mu_si H 158 14 (0 : Int32)) = (upI U 158 14 (0 : Int32)) := h.sI (C := C) e rfl
    generalize (mu_si H 158 14 (0 : Int32)) = Q1 at u1 r1 d1 ⊢
    have ht1 : ur m C H Q1 := (ur.refl m C H).trans r1
    refine mw_go mu_g343 (k := 2) (f1 := (125, [(0, .inr (.inr (some 158)))], [.inl (mu_i Q1 158 14)], Q1)) (C := [mu_is Q1 (some 158) 8]) rfl (show mu_is Q1 (some 158) 8 from (u1.1.1.is rfl)) ?_
    rw [(show mu_i Q1 158 14 = (0 : Int32) from (ud_i (U := (upI U 158 14 (0 : Int32))) (m := m) (P := 158) (j := 14) d1 rfl))]
    refine mw_if (P := (0 : Int32) = 0) (a := 132) (b := 128) (fun _ => rfl) trivial (fun h2 => ?_) (fun h2 => absurd (by decide) h2)
    refine mw_go mu_g343 (k := 1) (f1 := (133, [(0, .inr (.inr (some 158)))], [.inl (0 : Int32)], Q1)) (C := []) rfl trivial ?_
    exact mw_of (fun _ => mu_ret rfl (Or.inl rfl) ⟨(0 : Int32), Q1, rfl, rfl, u1, ht1, d1⟩)
  · -- 1: 44
    exact absurd z (by decide)
  · -- 2: 116
    exact absurd z (by decide)
  · -- 3: 116
    exact absurd z (by decide)
  · -- 4: 59
    exact absurd z (by decide)
  · -- 5: 102
    exact absurd z (by decide)
  · -- 6: 109
    exact absurd z (by decide)
theorem pr_adv2 (h : um m H) (e : ud m H = U) (hta : U.2.1 158 14 = 2)  : mu_TI (mu_D (d + 6)) 343 [.inr (.inr (some 158))] H (fun x H1 => x = 0 ∧ um m H1 ∧ ur m C H H1 ∧ ud m H1 = upI U 158 14 0) := by
  refine mu_meth (M := mu_m343) rfl rfl ?_
  refine mw_ht (mu_fn_of (show [0].Nodup by decide)) ?_
  refine mw_go mu_g343 (k := 2) (f1 := (4, [(0, .inr (.inr (some 158)))], [.inl (mu_i H 158 14)], H)) (C := [mu_is H (some 158) 8]) rfl (show mu_is H (some 158) 8 from (h.1.1.is rfl)) ?_
  rw [(show mu_i H 158 14 = (2 : Int32) from (ud_i (U := U) (m := m) (P := 158) (j := 14) e rfl).trans hta)]
  refine mw_tsw2 rfl (by decide) (fun hx => ?_) ⟨fun z => ?_, fun z => ?_, fun z => ?_, fun z => ?_, fun z => ?_, fun z => ?_, trivial⟩
  · -- None: 116
    exact absurd hx (by decide)
  · -- 1: 44
    exact absurd z (by decide)
  · -- 2: 116
    refine mw_go mu_g343 (k := 3) (f1 := (121, [(0, .inr (.inr (some 158)))], [], (mu_si H 158 14 (0 : Int32)))) (C := [mu_is H (some 158) 8]) rfl (show mu_is H (some 158) 8 from (h.1.1.is rfl)) ?_
    obtain ⟨u1, r1, d1⟩ : um m (mu_si H 158 14 (0 : Int32)) ∧ ur m C H (mu_si H 158 14 (0 : Int32)) ∧ ud m (mu_si H 158 14 (0 : Int32)) = (upI U 158 14 (0 : Int32)) := h.sI (C := C) e rfl
    generalize (mu_si H 158 14 (0 : Int32)) = Q1 at u1 r1 d1 ⊢
    have ht1 : ur m C H Q1 := (ur.refl m C H).trans r1
    refine mw_go mu_g343 (k := 2) (f1 := (125, [(0, .inr (.inr (some 158)))], [.inl (mu_i Q1 158 14)], Q1)) (C := [mu_is Q1 (some 158) 8]) rfl (show mu_is Q1 (some 158) 8 from (u1.1.1.is rfl)) ?_
    rw [(show mu_i Q1 158 14 = (0 : Int32) from (ud_i (U := (upI U 158 14 (0 : Int32))) (m := m) (P := 158) (j := 14) d1 rfl))]
    refine mw_if (P := (0 : Int32) = 0) (a := 132) (b := 128) (fun _ => rfl) trivial (fun h2 => ?_) (fun h2 => absurd (by decide) h2)
    refine mw_go mu_g343 (k := 1) (f1 := (133, [(0, .inr (.inr (some 158)))], [.inl (0 : Int32)], Q1)) (C := []) rfl trivial ?_
    exact mw_of (fun _ => mu_ret rfl (Or.inl rfl) ⟨(0 : Int32), Q1, rfl, rfl, u1, ht1, d1⟩)
  · -- 3: 116
    exact absurd z (by decide)
  · -- 4: 59
    exact absurd z (by decide)
  · -- 5: 102
    exact absurd z (by decide)
  · -- 6: 109
    exact absurd z (by decide)
end DriveOther
