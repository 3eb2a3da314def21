/-! PROVER: advance, where a path is led or watched -/
section Adv46
variable {H : mu_H} {U V : Ud} {m d tc st n T R wn a0 cn lp t1 : Nat} {C : Nat → Nat} {rx mb me W : Nat → Nat} {sv : Int32}
theorem pr_adv4 (h : um m H) (e : ud m H = U) (hta : U.2.1 158 14 = 4) (htc : U.2.1 158 10 = nI tc) (htc1 : 1 ≤ tc) (htc2 : tc ≤ 2001) (hsx : (U.2.2.1 158 8).2 (tc - 1) = nI st) (hG : GRB U T R wn rx mb me) (hW : TLD U T st n W) (hW0 : W 0 = st) : mu_TI (mu_D (d + 6)) 343 [.inr (.inr (some 158))] H (fun x H1 => x = 0 ∧ um m H1 ∧ ur m C H H1 ∧ ∃ V, uq F312 U V ∧ (∀ j, (V.2.2.1 158 8).2 j = if tc ≤ j ∧ j < tc + n ∧ j < 2001 then nI (W (j - tc + 1)) else (U.2.2.1 158 8).2 j) ∧ ud m H1 = upI (upI V 158 10 (nI (tc + n))) 158 14 0) := by
  refine mu_meth (M := mu_m343) rfl rfl ?_
  refine mw_ht (mu_fn_of (show [0].Nodup by decide)) ?_
  refine mw_go mu_g343 (k := 2) (f1 := (4, [(0, .inr (.inr (some 158)))], [.inl (mu_i H 158 14)], H)) (C := [mu_is H (some 158) 8]) rfl (show mu_is H (some 158) 8 from (h.1.1.is rfl)) ?_
  rw [(show mu_i H 158 14 = (4 : Int32) from (ud_i (U := U) (m := m) (P := 158) (j := 14) e rfl).trans hta)]
  refine mw_tsw2 rfl (by decide) (fun hx => ?_) ⟨fun z => ?_, fun z => ?_, fun z => ?_, fun z => ?_, fun z => ?_, fun z => ?_, trivial⟩
  · -- None: 116
    exact absurd hx (by decide)
  · -- 1: 44
    exact absurd z (by decide)
  · -- 2: 116
    exact absurd z (by decide)
  · -- 3: 116
    exact absurd z (by decide)
  · -- 4: 59
    refine mw_go mu_g343 (k := 3) (f1 := (64, [(0, .inr (.inr (some 158)))], [.inl (mu_i H 158 10), .inr (.inr (some 158))], H)) (C := [mu_is H (some 158) 8]) rfl (show mu_is H (some 158) 8 from (h.1.1.is rfl)) ?_
    rw [(show mu_i H 158 10 = (nI tc) from (ud_i (U := U) (m := m) (P := 158) (j := 10) e rfl).trans htc)]
    refine mw_go mu_g343 (k := 2) (f1 := (68, [(0, .inr (.inr (some 158)))], [.inr (.inr (mu_r H 158 1)), .inl (nI tc), .inr (.inr (some 158))], H)) (C := [mu_is H (some 158) 8]) rfl (show mu_is H (some 158) 8 from (h.1.1.is rfl)) ?_
    rw [(h.1.1.r (p := 158) (j := 1) (q := 147) rfl)]
    refine mw_go mu_g343 (k := 2) (f1 := (72, [(0, .inr (.inr (some 158)))], [.inr (.inr (mu_r H 158 8)), .inr (.inr (some 147)), .inl (nI tc), .inr (.inr (some 158))], H)) (C := [mu_is H (some 158) 8]) rfl (show mu_is H (some 158) 8 from (h.1.1.is rfl)) ?_
    rw [(h.1.1.r (p := 158) (j := 8) (q := 165) rfl)]
    refine mw_go mu_g343 (k := 2) (f1 := (76, [(0, .inr (.inr (some 158)))], [.inl (mu_i H 158 10), .inr (.inr (some 165)), .inr (.inr (some 147)), .inl (nI tc), .inr (.inr (some 158))], H)) (C := [mu_is H (some 158) 8]) rfl (show mu_is H (some 158) 8 from (h.1.1.is rfl)) ?_
    rw [(show mu_i H 158 10 = (nI tc) from (ud_i (U := U) (m := m) (P := 158) (j := 10) e rfl).trans htc)]
    refine mw_go mu_g343 (k := 2) (f1 := (78, [(0, .inr (.inr (some 158)))], [.inl ((nI tc) - (1 : Int32)), .inr (.inr (some 165)), .inr (.inr (some 147)), .inl (nI tc), .inr (.inr (some 158))], H)) (C := []) rfl trivial ?_
    rw [(show ((nI tc) - (1 : Int32)) = (nI (tc - 1)) from (nI_sub (a := tc) (b := 1) (by omega)))]
    refine mw_go mu_g343 (k := 1) (f1 := (79, [(0, .inr (.inr (some 158)))], [.inl (mu_i H 165 (nI (tc - 1)).toNatClampNeg), .inr (.inr (some 147)), .inl (nI tc), .inr (.inr (some 158))], H)) (C := [mu_isr H (some 165) 100, vp_in (nI (tc - 1)) (mu_n H 165)]) rfl (show (mu_isr H (some 165) 100) ∧ (vp_in (nI (tc - 1)) (mu_n H 165)) from ⟨((h.iA e rfl rfl ((ud_q (m := m) (P := 158) (j := 8) e rfl).symm.trans (h.1.1.r (p := 158) (j := 8) (q := 165) rfl)))).r, (by rw [show mu_n H 165 = 2001 from (h.1.1.a (p := 165) (x := (100, 2001)) rfl).2]; exact vp_in_nI (n := tc - 1) (by omega) (by decide))⟩) ?_
    rw [(show (mu_i H 165 (nI (tc - 1)).toNatClampNeg) = (nI st) from ((congrArg (mu_i H 165) (show (nI (tc - 1)).toNatClampNeg = tc - 1 from nI_clamp (by omega))).trans (h.gA e rfl rfl ((ud_q (m := m) (P := 158) (j := 8) e rfl).symm.trans (h.1.1.r (p := 158) (j := 8) (q := 165) rfl)))).trans ((congrArg (fun z => z.2 (tc - 1)) (show U.2.2.1 158 8 = (U.2.2.1 158 8) from rfl)).trans hsx))]
    refine mw_go mu_g343 (k := 2) (f1 := (83, [(0, .inr (.inr (some 158)))], [.inr (.inr (mu_r H 158 8)), .inl (nI st), .inr (.inr (some 147)), .inl (nI tc), .inr (.inr (some 158))], H)) (C := [mu_is H (some 158) 8]) rfl (show mu_is H (some 158) 8 from (h.1.1.is rfl)) ?_
    rw [(h.1.1.r (p := 158) (j := 8) (q := 165) rfl)]
    refine mw_go mu_g343 (k := 2) (f1 := (87, [(0, .inr (.inr (some 158)))], [.inl (mu_i H 158 10), .inr (.inr (some 165)), .inl (nI st), .inr (.inr (some 147)), .inl (nI tc), .inr (.inr (some 158))], H)) (C := [mu_is H (some 158) 8]) rfl (show mu_is H (some 158) 8 from (h.1.1.is rfl)) ?_
    rw [(show mu_i H 158 10 = (nI tc) from (ud_i (U := U) (m := m) (P := 158) (j := 10) e rfl).trans htc)]
    refine mw_cI (fun _ => rfl) (show mu_is H (some 147) 2 from (h.1.1.is rfl)) (gr_trail (d := (d + 4)) (C := C) (n := n) (W := W) (fr := tc) h e hG hW hW0 (by omega)) (fun x1 Q1 q1 => ?_)
    obtain ⟨rfl, u1, r1, z1, htr⟩ := q1
    have ht1 : ur m C H Q1 := (ur.refl m C H).trans r1
    obtain ⟨V1, d1⟩ : ∃ V, ud m Q1 = V := ⟨_, rfl⟩
    rw [d1] at z1 htr
    refine mw_go mu_g343 (k := 1) (f1 := (91, [(0, .inr (.inr (some 158)))], [.inl ((nI tc) + (nI n)), .inr (.inr (some 158))], Q1)) (C := []) rfl trivial ?_
    rw [(show ((nI tc) + (nI n)) = (nI (tc + n)) from (nI_add tc n))]
    refine mw_go mu_g343 (k := 1) (f1 := (94, [(0, .inr (.inr (some 158)))], [], (mu_si Q1 158 10 (nI (tc + n))))) (C := [mu_is Q1 (some 158) 8]) rfl (show mu_is Q1 (some 158) 8 from (u1.1.1.is rfl)) ?_
    obtain ⟨u2, r2, d2⟩ : um m (mu_si Q1 158 10 (nI (tc + n))) ∧ ur m C Q1 (mu_si Q1 158 10 (nI (tc + n))) ∧ ud m (mu_si Q1 158 10 (nI (tc + n))) = (upI V1 158 10 (nI (tc + n))) := u1.sI (C := C) d1 rfl
    generalize (mu_si Q1 158 10 (nI (tc + n))) = Q2 at u2 r2 d2 ⊢
    have ht2 : ur m C H Q2 := ht1.trans r2
    refine mw_go mu_g343 (k := 3) (f1 := (99, [(0, .inr (.inr (some 158)))], [], (mu_si Q2 158 14 (0 : Int32)))) (C := [mu_is Q2 (some 158) 8]) rfl (show mu_is Q2 (some 158) 8 from (u2.1.1.is rfl)) ?_
    obtain ⟨u3, r3, d3⟩ : um m (mu_si Q2 158 14 (0 : Int32)) ∧ ur m C Q2 (mu_si Q2 158 14 (0 : Int32)) ∧ ud m (mu_si Q2 158 14 (0 : Int32)) = (upI (upI V1 158 10 (nI (tc + n))) 158 14 (0 : Int32)) := u2.sI (C := C) d2 rfl
    generalize (mu_si Q2 158 14 (0 : Int32)) = Q3 at u3 r3 d3 ⊢
    have ht3 : ur m C H Q3 := ht2.trans r3
    refine mw_go mu_g343 (k := 3) (f1 := (125, [(0, .inr (.inr (some 158)))], [.inl (mu_i Q3 158 14)], Q3)) (C := [mu_is Q3 (some 158) 8]) rfl (show mu_is Q3 (some 158) 8 from (u3.1.1.is rfl)) ?_
    rw [(show mu_i Q3 158 14 = (0 : Int32) from (ud_i (U := (upI (upI V1 158 10 (nI (tc + n))) 158 14 (0 : Int32))) (m := m) (P := 158) (j := 14) d3 rfl))]
    refine mw_if (P := (0 : Int32) = 0) (a := 132) (b := 128) (fun _ => rfl) trivial (fun h4 => ?_) (fun h4 => absurd (by decide) h4)
    refine mw_go mu_g343 (k := 1) (f1 := (133, [(0, .inr (.inr (some 158)))], [.inl (0 : Int32)], Q3)) (C := []) rfl trivial ?_
    exact mw_of (fun _ => mu_ret rfl (Or.inl rfl) ⟨(0 : Int32), Q3, rfl, rfl, u3, ht3, V1, z1, htr, d3⟩)
  · -- 5: 102
    exact absurd z (by decide)
  · -- 6: 109
    exact absurd z (by decide)
theorem pr_adv40 (h : um m H) (e : ud m H = U) (hta : U.2.1 158 14 = 4) (htc : U.2.1 158 10 = nI tc) (htc1 : 1 ≤ tc) (htc2 : tc ≤ 2001) (hsx : (U.2.2.1 158 8).2 (tc - 1) = nI st) (h19 : U.2.1 147 19 = -1) : mu_TI (mu_D (d + 6)) 343 [.inr (.inr (some 158))] H (fun x H1 => x = 0 ∧ um m H1 ∧ ur m C H H1 ∧ ud m H1 = upI (upI U 158 10 (nI (tc + 0))) 158 14 0) := by
  refine mu_meth (M := mu_m343) rfl rfl ?_
  refine mw_ht (mu_fn_of (show [0].Nodup by decide)) ?_
  refine mw_go mu_g343 (k := 2) (f1 := (4, [(0, .inr (.inr (some 158)))], [.inl (mu_i H 158 14)], H)) (C := [mu_is H (some 158) 8]) rfl (show mu_is H (some 158) 8 from (h.1.1.is rfl)) ?_
  rw [(show mu_i H 158 14 = (4 : Int32) from (ud_i (U := U) (m := m) (P := 158) (j := 14) e rfl).trans hta)]
  refine mw_tsw2 rfl (by decide) (fun hx => ?_) ⟨fun z => ?_, fun z => ?_, fun z => ?_, fun z => ?_, fun z => ?_, fun z => ?_, trivial⟩
  · -- None: 116
    exact absurd hx (by decide)
  · -- 1: 44
    exact absurd z (by decide)
  · -- 2: 116
    exact absurd z (by decide)
  · -- 3: 116
    exact absurd z (by decide)
  · -- 4: 59
    refine mw_go mu_g343 (k := 3) (f1 := (64, [(0, .inr (.inr (some 158)))], [.inl (mu_i H 158 10), .inr (.inr (some 158))], H)) (C := [mu_is H (some 158) 8]) rfl (show mu_is H (some 158) 8 from (h.1.1.is rfl)) ?_
    rw [(show mu_i H 158 10 = (nI tc) from (ud_i (U := U) (m := m) (P := 158) (j := 10) e rfl).trans htc)]
    refine mw_go mu_g343 (k := 2) (f1 := (68, [(0, .inr (.inr (some 158)))], [.inr (.inr (mu_r H 158 1)), .inl (nI tc), .inr (.inr (some 158))], H)) (C := [mu_is H (some 158) 8]) rfl (show mu_is H (some 158) 8 from (h.1.1.is rfl)) ?_
    rw [(h.1.1.r (p := 158) (j := 1) (q := 147) rfl)]
    refine mw_go mu_g343 (k := 2) (f1 := (72, [(0, .inr (.inr (some 158)))], [.inr (.inr (mu_r H 158 8)), .inr (.inr (some 147)), .inl (nI tc), .inr (.inr (some 158))], H)) (C := [mu_is H (some 158) 8]) rfl (show mu_is H (some 158) 8 from (h.1.1.is rfl)) ?_
    rw [(h.1.1.r (p := 158) (j := 8) (q := 165) rfl)]
    refine mw_go mu_g343 (k := 2) (f1 := (76, [(0, .inr (.inr (some 158)))], [.inl (mu_i H 158 10), .inr (.inr (some 165)), .inr (.inr (some 147)), .inl (nI tc), .inr (.inr (some 158))], H)) (C := [mu_is H (some 158) 8]) rfl (show mu_is H (some 158) 8 from (h.1.1.is rfl)) ?_
    rw [(show mu_i H 158 10 = (nI tc) from (ud_i (U := U) (m := m) (P := 158) (j := 10) e rfl).trans htc)]
    refine mw_go mu_g343 (k := 2) (f1 := (78, [(0, .inr (.inr (some 158)))], [.inl ((nI tc) - (1 : Int32)), .inr (.inr (some 165)), .inr (.inr (some 147)), .inl (nI tc), .inr (.inr (some 158))], H)) (C := []) rfl trivial ?_
    rw [(show ((nI tc) - (1 : Int32)) = (nI (tc - 1)) from (nI_sub (a := tc) (b := 1) (by omega)))]
    refine mw_go mu_g343 (k := 1) (f1 := (79, [(0, .inr (.inr (some 158)))], [.inl (mu_i H 165 (nI (tc - 1)).toNatClampNeg), .inr (.inr (some 147)), .inl (nI tc), .inr (.inr (some 158))], H)) (C := [mu_isr H (some 165) 100, vp_in (nI (tc - 1)) (mu_n H 165)]) rfl (show (mu_isr H (some 165) 100) ∧ (vp_in (nI (tc - 1)) (mu_n H 165)) from ⟨((h.iA e rfl rfl ((ud_q (m := m) (P := 158) (j := 8) e rfl).symm.trans (h.1.1.r (p := 158) (j := 8) (q := 165) rfl)))).r, (by rw [show mu_n H 165 = 2001 from (h.1.1.a (p := 165) (x := (100, 2001)) rfl).2]; exact vp_in_nI (n := tc - 1) (by omega) (by decide))⟩) ?_
    rw [(show (mu_i H 165 (nI (tc - 1)).toNatClampNeg) = (nI st) from ((congrArg (mu_i H 165) (show (nI (tc - 1)).toNatClampNeg = tc - 1 from nI_clamp (by omega))).trans (h.gA e rfl rfl ((ud_q (m := m) (P := 158) (j := 8) e rfl).symm.trans (h.1.1.r (p := 158) (j := 8) (q := 165) rfl)))).trans ((congrArg (fun z => z.2 (tc - 1)) (show U.2.2.1 158 8 = (U.2.2.1 158 8) from rfl)).trans hsx))]
    refine mw_go mu_g343 (k := 2) (f1 := (83, [(0, .inr (.inr (some 158)))], [.inr (.inr (mu_r H 158 8)), .inl (nI st), .inr (.inr (some 147)), .inl (nI tc), .inr (.inr (some 158))], H)) (C := [mu_is H (some 158) 8]) rfl (show mu_is H (some 158) 8 from (h.1.1.is rfl)) ?_
    rw [(h.1.1.r (p := 158) (j := 8) (q := 165) rfl)]
    refine mw_go mu_g343 (k := 2) (f1 := (87, [(0, .inr (.inr (some 158)))], [.inl (mu_i H 158 10), .inr (.inr (some 165)), .inl (nI st), .inr (.inr (some 147)), .inl (nI tc), .inr (.inr (some 158))], H)) (C := [mu_is H (some 158) 8]) rfl (show mu_is H (some 158) 8 from (h.1.1.is rfl)) ?_
    rw [(show mu_i H 158 10 = (nI tc) from (ud_i (U := U) (m := m) (P := 158) (j := 10) e rfl).trans htc)]
    refine mw_cIe (fun _ => rfl) (show mu_is H (some 147) 2 from (h.1.1.is rfl)) ((gr_trail0 (d := (d + 4)) (st := st) (fr := tc) h e h19).imp (fun x H1 q => show x = nI 0 ∧ H1 = H from q)) ?_
    refine mw_go mu_g343 (k := 1) (f1 := (91, [(0, .inr (.inr (some 158)))], [.inl ((nI tc) + (nI 0)), .inr (.inr (some 158))], H)) (C := []) rfl trivial ?_
    rw [(show ((nI tc) + (nI 0)) = (nI (tc + 0)) from (nI_add tc 0))]
    refine mw_go mu_g343 (k := 1) (f1 := (94, [(0, .inr (.inr (some 158)))], [], (mu_si H 158 10 (nI (tc + 0))))) (C := [mu_is H (some 158) 8]) rfl (show mu_is H (some 158) 8 from (h.1.1.is rfl)) ?_
    obtain ⟨u2, r2, d2⟩ : um m (mu_si H 158 10 (nI (tc + 0))) ∧ ur m C H (mu_si H 158 10 (nI (tc + 0))) ∧ ud m (mu_si H 158 10 (nI (tc + 0))) = (upI U 158 10 (nI (tc + 0))) := h.sI (C := C) e rfl
    generalize (mu_si H 158 10 (nI (tc + 0))) = Q2 at u2 r2 d2 ⊢
    have ht2 : ur m C H Q2 := (ur.refl m C H).trans r2
    refine mw_go mu_g343 (k := 3) (f1 := (99, [(0, .inr (.inr (some 158)))], [], (mu_si Q2 158 14 (0 : Int32)))) (C := [mu_is Q2 (some 158) 8]) rfl (show mu_is Q2 (some 158) 8 from (u2.1.1.is rfl)) ?_
    obtain ⟨u3, r3, d3⟩ : um m (mu_si Q2 158 14 (0 : Int32)) ∧ ur m C Q2 (mu_si Q2 158 14 (0 : Int32)) ∧ ud m (mu_si Q2 158 14 (0 : Int32)) = (upI (upI U 158 10 (nI (tc + 0))) 158 14 (0 : Int32)) := u2.sI (C := C) d2 rfl
    generalize (mu_si Q2 158 14 (0 : Int32)) = Q3 at u3 r3 d3 ⊢
    have ht3 : ur m C H Q3 := ht2.trans r3
    refine mw_go mu_g343 (k := 3) (f1 := (125, [(0, .inr (.inr (some 158)))], [.inl (mu_i Q3 158 14)], Q3)) (C := [mu_is Q3 (some 158) 8]) rfl (show mu_is Q3 (some 158) 8 from (u3.1.1.is rfl)) ?_
    rw [(show mu_i Q3 158 14 = (0 : Int32) from (ud_i (U := (upI (upI U 158 10 (nI (tc + 0))) 158 14 (0 : Int32))) (m := m) (P := 158) (j := 14) d3 rfl))]
    refine mw_if (P := (0 : Int32) = 0) (a := 132) (b := 128) (fun _ => rfl) trivial (fun h4 => ?_) (fun h4 => absurd (by decide) h4)
    refine mw_go mu_g343 (k := 1) (f1 := (133, [(0, .inr (.inr (some 158)))], [.inl (0 : Int32)], Q3)) (C := []) rfl trivial ?_
    exact mw_of (fun _ => mu_ret rfl (Or.inl rfl) ⟨(0 : Int32), Q3, rfl, rfl, u3, ht3, d3⟩)
  · -- 5: 102
    exact absurd z (by decide)
  · -- 6: 109
    exact absurd z (by decide)
theorem pr_adv61 (h : um m H) (e : ud m H = U) (hta : U.2.1 158 14 = 6) (hat : U.2.1 158 16 = nI a0) (hcn : U.2.1 158 11 = nI cn) (hcb : cn ≤ 2000) (hsv : U.2.1 158 13 = sv) (ha : a0 + 1 < cn) (hsh : (U.2.2.1 158 9).2 (a0 + 1) = nI t1) (ht1 : t1 < 16384) (hbit : bts (U.2.2.2.2.1 146) t1 = true) (h6 : t1 < (U.2.2.1 129 6).1) (h6b : (U.2.2.1 129 6).1 ≤ 16777216) : mu_TI (mu_D (d + 6)) 343 [.inr (.inr (some 158))] H (fun x H1 => x = 1 ∧ um m H1 ∧ ur m C H H1 ∧ ud m H1 = (upI (upI (upI (upI U 158 13 sv) 158 16 (nI (a0 + 1))) 147 14 (6 : Int32)) 147 15 ((U.2.2.1 129 6).2 t1))) := by
  refine mu_meth (M := mu_m343) rfl rfl ?_
  refine mw_ht (mu_fn_of (show [0].Nodup by decide)) ?_
  refine mw_go mu_g343 (k := 2) (f1 := (4, [(0, .inr (.inr (some 158)))], [.inl (mu_i H 158 14)], H)) (C := [mu_is H (some 158) 8]) rfl (show mu_is H (some 158) 8 from (h.1.1.is rfl)) ?_
  rw [(show mu_i H 158 14 = (6 : Int32) from (ud_i (U := U) (m := m) (P := 158) (j := 14) e rfl).trans hta)]
  refine mw_tsw2 rfl (by decide) (fun hx => ?_) ⟨fun z => ?_, fun z => ?_, fun z => ?_, fun z => ?_, fun z => ?_, fun z => ?_, trivial⟩
  · -- None: 116
    exact absurd hx (by decide)
  · -- 1: 44
    exact absurd z (by decide)
  · -- 2: 116
    exact absurd z (by decide)
  · -- 3: 116
    exact absurd z (by decide)
  · -- 4: 59
    exact absurd z (by decide)
  · -- 5: 102
    exact absurd z (by decide)
  · -- 6: 109
    refine mw_go mu_g343 (k := 1) (f1 := (110, [(0, .inr (.inr (some 158)))], [.inr (.inr (some 158))], H)) (C := []) rfl trivial ?_
    refine mw_cV (fun _ => rfl) (show mu_is H (some 158) 8 from (h.1.1.is rfl)) (pr_watch1 (d := (d + 3)) (C := C) (a0 := a0) (cn := cn) h e hat hcn hcb hsv ha hsh ht1 hbit h6 h6b) (fun Q1 q1 => ?_)
    obtain ⟨u1, r1, d1⟩ := q1
    have ht1 : ur m C H Q1 := (ur.refl m C H).trans r1
    refine mw_go mu_g343 (k := 3) (f1 := (125, [(0, .inr (.inr (some 158)))], [.inl (mu_i Q1 158 14)], Q1)) (C := [mu_is Q1 (some 158) 8]) rfl (show mu_is Q1 (some 158) 8 from (u1.1.1.is rfl)) ?_
    rw [(show mu_i Q1 158 14 = (6 : Int32) from (ud_i (U := (upI (upI (upI (upI U 158 13 sv) 158 16 (nI (a0 + 1))) 147 14 (6 : Int32)) 147 15 ((U.2.2.1 129 6).2 t1))) (m := m) (P := 158) (j := 14) d1 rfl).trans hta)]
    refine mw_if (P := (6 : Int32) = 0) (a := 132) (b := 128) (fun _ => rfl) trivial (fun h2 => absurd h2 (by decide)) (fun h2 => ?_)
    refine mw_go mu_g343 (k := 2) (f1 := (133, [(0, .inr (.inr (some 158)))], [.inl (1 : Int32)], Q1)) (C := []) rfl trivial ?_
    exact mw_of (fun _ => mu_ret rfl (Or.inr rfl) ⟨(1 : Int32), Q1, rfl, rfl, u1, ht1, d1⟩)
theorem pr_adv62 (h : um m H) (e : ud m H = U) (hta : U.2.1 158 14 = 6) (hat : U.2.1 158 16 = nI a0) (hcn : U.2.1 158 11 = nI cn) (hcb : cn ≤ 2000) (hsv : U.2.1 158 13 = sv) (ha : a0 + 1 = cn) (hlp : U.2.1 158 12 = nI lp) (hlc : lp < cn) (hsh : (U.2.2.1 158 9).2 lp = nI t1) (ht1 : t1 < 16384) (hbit : bts (U.2.2.2.2.1 146) t1 = true) : mu_TI (mu_D (d + 6)) 343 [.inr (.inr (some 158))] H (fun x H1 => x = 0 ∧ um m H1 ∧ ur m C H H1 ∧ ud m H1 = (upI (upI (upI U 158 13 sv) 158 16 (nI (a0 + 1))) 158 14 (0 : Int32))) := by
  refine mu_meth (M := mu_m343) rfl rfl ?_
  refine mw_ht (mu_fn_of (show [0].Nodup by decide)) ?_
  refine mw_go mu_g343 (k := 2) (f1 := (4, [(0, .inr (.inr (some 158)))], [.inl (mu_i H 158 14)], H)) (C := [mu_is H (some 158) 8]) rfl (show mu_is H (some 158) 8 from (h.1.1.is rfl)) ?_
  rw [(show mu_i H 158 14 = (6 : Int32) from (ud_i (U := U) (m := m) (P := 158) (j := 14) e rfl).trans hta)]
  refine mw_tsw2 rfl (by decide) (fun hx => ?_) ⟨fun z => ?_, fun z => ?_, fun z => ?_, fun z => ?_, fun z => ?_, fun z => ?_, trivial⟩
  · -- None: 116
    exact absurd hx (by decide)
  · -- 1: 44
    exact absurd z (by decide)
  · -- 2: 116
    exact absurd z (by decide)
  · -- 3: 116
    exact absurd z (by decide)
  · -- 4: 59
    exact absurd z (by decide)
  · -- 5: 102
    exact absurd z (by decide)
  · -- 6: 109
    refine mw_go mu_g343 (k := 1) (f1 := (110, [(0, .inr (.inr (some 158)))], [.inr (.inr (some 158))], H)) (C := []) rfl trivial ?_
    refine mw_cV (fun _ => rfl) (show mu_is H (some 158) 8 from (h.1.1.is rfl)) (pr_watch2 (d := (d + 3)) (C := C) (a0 := a0) (cn := cn) h e hat hcn hcb hsv ha hlp hlc hsh ht1 hbit) (fun Q1 q1 => ?_)
    obtain ⟨u1, r1, d1⟩ := q1
    have ht1 : ur m C H Q1 := (ur.refl m C H).trans r1
    refine mw_go mu_g343 (k := 3) (f1 := (125, [(0, .inr (.inr (some 158)))], [.inl (mu_i Q1 158 14)], Q1)) (C := [mu_is Q1 (some 158) 8]) rfl (show mu_is Q1 (some 158) 8 from (u1.1.1.is rfl)) ?_
    rw [(show mu_i Q1 158 14 = (0 : Int32) from (ud_i (U := (upI (upI (upI U 158 13 sv) 158 16 (nI (a0 + 1))) 158 14 (0 : Int32))) (m := m) (P := 158) (j := 14) d1 rfl))]
    refine mw_if (P := (0 : Int32) = 0) (a := 132) (b := 128) (fun _ => rfl) trivial (fun h2 => ?_) (fun h2 => absurd (by decide) h2)
    refine mw_go mu_g343 (k := 1) (f1 := (133, [(0, .inr (.inr (some 158)))], [.inl (0 : Int32)], Q1)) (C := []) rfl trivial ?_
    exact mw_of (fun _ => mu_ret rfl (Or.inl rfl) ⟨(0 : Int32), Q1, rfl, rfl, u1, ht1, d1⟩)
theorem pr_adv63 (h : um m H) (e : ud m H = U) (hta : U.2.1 158 14 = 6) (hat : U.2.1 158 16 = nI a0) (hcn : U.2.1 158 11 = nI cn) (hcb : cn ≤ 2000) (hsv : U.2.1 158 13 = sv) (ha : a0 + 1 = cn) (hlp : U.2.1 158 12 = -1) : mu_TI (mu_D (d + 6)) 343 [.inr (.inr (some 158))] H (fun x H1 => x = 0 ∧ um m H1 ∧ ur m C H H1 ∧ ud m H1 = (upI (upI (upI U 158 13 sv) 158 16 (nI (a0 + 1))) 158 14 (0 : Int32))) := by
  refine mu_meth (M := mu_m343) rfl rfl ?_
  refine mw_ht (mu_fn_of (show [0].Nodup by decide)) ?_
  refine mw_go mu_g343 (k := 2) (f1 := (4, [(0, .inr (.inr (some 158)))], [.inl (mu_i H 158 14)], H)) (C := [mu_is H (some 158) 8]) rfl (show mu_is H (some 158) 8 from (h.1.1.is rfl)) ?_
  rw [(show mu_i H 158 14 = (6 : Int32) from (ud_i (U := U) (m := m) (P := 158) (j := 14) e rfl).trans hta)]
  refine mw_tsw2 rfl (by decide) (fun hx => ?_) ⟨fun z => ?_, fun z => ?_, fun z => ?_, fun z => ?_, fun z => ?_, fun z => ?_, trivial⟩
  · -- None: 116
    exact absurd hx (by decide)
  · -- 1: 44
    exact absurd z (by decide)
  · -- 2: 116
    exact absurd z (by decide)
  · -- 3: 116
    exact absurd z (by decide)
  · -- 4: 59
    exact absurd z (by decide)
  · -- 5: 102
    exact absurd z (by decide)
  · -- 6: 109
    refine mw_go mu_g343 (k := 1) (f1 := (110, [(0, .inr (.inr (some 158)))], [.inr (.inr (some 158))], H)) (C := []) rfl trivial ?_
    refine mw_cV (fun _ => rfl) (show mu_is H (some 158) 8 from (h.1.1.is rfl)) (pr_watch3 (d := (d + 3)) (C := C) (a0 := a0) (cn := cn) h e hat hcn hcb hsv ha hlp) (fun Q1 q1 => ?_)
    obtain ⟨u1, r1, d1⟩ := q1
    have ht1 : ur m C H Q1 := (ur.refl m C H).trans r1
    refine mw_go mu_g343 (k := 3) (f1 := (125, [(0, .inr (.inr (some 158)))], [.inl (mu_i Q1 158 14)], Q1)) (C := [mu_is Q1 (some 158) 8]) rfl (show mu_is Q1 (some 158) 8 from (u1.1.1.is rfl)) ?_
    rw [(show mu_i Q1 158 14 = (0 : Int32) from (ud_i (U := (upI (upI (upI U 158 13 sv) 158 16 (nI (a0 + 1))) 158 14 (0 : Int32))) (m := m) (P := 158) (j := 14) d1 rfl))]
    refine mw_if (P := (0 : Int32) = 0) (a := 132) (b := 128) (fun _ => rfl) trivial (fun h2 => ?_) (fun h2 => absurd (by decide) h2)
    refine mw_go mu_g343 (k := 1) (f1 := (133, [(0, .inr (.inr (some 158)))], [.inl (0 : Int32)], Q1)) (C := []) rfl trivial ?_
    exact mw_of (fun _ => mu_ret rfl (Or.inl rfl) ⟨(0 : Int32), Q1, rfl, rfl, u1, ht1, d1⟩)
end Adv46
