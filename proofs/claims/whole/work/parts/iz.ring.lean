/-! PROVER: the ring goes on (ringOn, advance, seekPath) -/
section Ring
variable {H : mu_H} {U V : Ud} {m d wn g0 g1 gq L sp lst T R N fb a0 lg bg tb tc st id sx n : Nat} {C : Nat → Nat} {rx mb me W : Nat → Nat} {PL : Ud → mu_H → Prop}
/-- PathProver$Prover.ringOn()V -/
abbrev mu_m344 : ev_M := (3, none, [], ev_b344)
theorem mu_g344 : mu_good mu_m344 := mu_goodk ev_k344
theorem pr_ringN (h : um m H) (e : ud m H = U) (hmo : U.2.2.2.1 99 0 = some m) (hfb16 : (U.1 16).1 < 2147483648) (hlg : max 1 (U.1 16).1 = lg) (hlgb : lg < 2147483648) (hat : U.2.1 158 16 = nI a0) (hab : a0 < 2147483647) (htc : U.2.1 158 10 = nI tc) (htc1 : 1 ≤ tc) (htc2 : tc ≤ 2000) (hsx : (U.2.2.1 158 8).2 (tc - 1) = nI st) (hal : lg ≤ a0) (h19 : U.2.1 147 19 = -1) (hleg : ∀ Q, um m Q → ud m Q = (upI (upI U 158 21 (nI (tc - 1))) 158 16 (0 : Int32)) → mu_TV (mu_D (d + 4)) 347 [.inr (.inr (some 158))] Q (fun H1 => um m H1 ∧ ur m C Q H1 ∧ (ud m H1).2.1 158 14 = 5 ∧ PL U H1)) : mu_TV (mu_D (d + 5)) 344 [.inr (.inr (some 158))] H (fun H1 => um m H1 ∧ ur m C H H1 ∧ (ud m H1).2.1 158 14 = 5 ∧ PL U H1) := by
  refine mu_meth (M := mu_m344) rfl rfl ?_
  refine mw_ht (mu_fn_of (show [0].Nodup by decide)) ?_
  refine mw_go mu_g344 (k := 2) (f1 := (4, [(0, .inr (.inr (some 158)))], [.inr (.inr (mu_r H 158 1))], H)) (C := [mu_is H (some 158) 8]) rfl (show mu_is H (some 158) 8 from (h.1.1.is rfl)) ?_
  rw [(h.1.1.r (p := 158) (j := 1) (q := 147) rfl)]
  refine mw_go mu_g344 (k := 2) (f1 := (8, [(0, .inr (.inr (some 158)))], [.inr (.inr (mu_r H 158 8)), .inr (.inr (some 147))], H)) (C := [mu_is H (some 158) 8]) rfl (show mu_is H (some 158) 8 from (h.1.1.is rfl)) ?_
  rw [(h.1.1.r (p := 158) (j := 8) (q := 165) rfl)]
  refine mw_go mu_g344 (k := 2) (f1 := (12, [(0, .inr (.inr (some 158)))], [.inl (mu_i H 158 10), .inr (.inr (some 165)), .inr (.inr (some 147))], H)) (C := [mu_is H (some 158) 8]) rfl (show mu_is H (some 158) 8 from (h.1.1.is rfl)) ?_
  rw [(show mu_i H 158 10 = (nI tc) from (ud_i (U := U) (m := m) (P := 158) (j := 10) e rfl).trans htc)]
  refine mw_go mu_g344 (k := 2) (f1 := (14, [(0, .inr (.inr (some 158)))], [.inl ((nI tc) - (1 : Int32)), .inr (.inr (some 165)), .inr (.inr (some 147))], H)) (C := []) rfl trivial ?_
  rw [(show ((nI tc) - (1 : Int32)) = (nI (tc - 1)) from (nI_sub (a := tc) (b := 1) (by omega)))]
  refine mw_go mu_g344 (k := 1) (f1 := (15, [(0, .inr (.inr (some 158)))], [.inl (mu_i H 165 (nI (tc - 1)).toNatClampNeg), .inr (.inr (some 147))], H)) (C := [mu_isr H (some 165) 100, vp_in (nI (tc - 1)) (mu_n H 165)]) rfl (show (mu_isr H (some 165) 100) ∧ (vp_in (nI (tc - 1)) (mu_n H 165)) from ⟨((h.iA e rfl rfl ((ud_q (m := m) (P := 158) (j := 8) e rfl).symm.trans (h.1.1.r (p := 158) (j := 8) (q := 165) rfl)))).r, (by rw [show mu_n H 165 = 2001 from (h.1.1.a (p := 165) (x := (100, 2001)) rfl).2]; exact vp_in_nI (n := tc - 1) (by omega) (by decide))⟩) ?_
  rw [(show (mu_i H 165 (nI (tc - 1)).toNatClampNeg) = (nI st) from ((congrArg (mu_i H 165) (show (nI (tc - 1)).toNatClampNeg = tc - 1 from nI_clamp (by omega))).trans (h.gA e rfl rfl ((ud_q (m := m) (P := 158) (j := 8) e rfl).symm.trans (h.1.1.r (p := 158) (j := 8) (q := 165) rfl)))).trans ((congrArg (fun z => z.2 (tc - 1)) (show U.2.2.1 158 8 = (U.2.2.1 158 8) from rfl)).trans hsx))]
  refine mw_go mu_g344 (k := 2) (f1 := (19, [(0, .inr (.inr (some 158)))], [.inr (.inr (mu_r H 158 8)), .inl (nI st), .inr (.inr (some 147))], H)) (C := [mu_is H (some 158) 8]) rfl (show mu_is H (some 158) 8 from (h.1.1.is rfl)) ?_
  rw [(h.1.1.r (p := 158) (j := 8) (q := 165) rfl)]
  refine mw_go mu_g344 (k := 2) (f1 := (23, [(0, .inr (.inr (some 158)))], [.inl (mu_i H 158 10), .inr (.inr (some 165)), .inl (nI st), .inr (.inr (some 147))], H)) (C := [mu_is H (some 158) 8]) rfl (show mu_is H (some 158) 8 from (h.1.1.is rfl)) ?_
  rw [(show mu_i H 158 10 = (nI tc) from (ud_i (U := U) (m := m) (P := 158) (j := 10) e rfl).trans htc)]
  refine mw_cIe (fun _ => rfl) (show mu_is H (some 147) 2 from (h.1.1.is rfl)) ((gr_trail0 (d := (d + 3)) (st := st) (fr := tc) h e h19).imp (fun x H1 q => show x = nI 0 ∧ H1 = H from q)) ?_
  refine mw_go mu_g344 (k := 3) (f1 := (31, [(1, .inl (nI 0)), (0, .inr (.inr (some 158)))], [.inl (mu_i H 158 16)], H)) (C := [mu_is H (some 158) 8]) rfl (show mu_is H (some 158) 8 from (h.1.1.is rfl)) ?_
  rw [(show mu_i H 158 16 = (nI a0) from (ud_i (U := U) (m := m) (P := 158) (j := 16) e rfl).trans hat)]
  refine mw_go mu_g344 (k := 1) (f1 := (32, [(1, .inl (nI 0)), (0, .inr (.inr (some 158)))], [.inr (.inr (some 158)), .inl (nI a0)], H)) (C := []) rfl trivial ?_
  refine mw_cIe (fun _ => rfl) (show mu_is H (some 158) 8 from (h.1.1.is rfl)) (pr_legs (d := (d + 2)) h e hmo hfb16) ?_
  rw [show max 1 (U.1 16).1 = lg from hlg]
  refine mw_if (P := (nI a0) < (nI lg)) (a := 42) (b := 38) (fun _ => rfl) trivial (fun h3 => absurd h3 (fun z => absurd ((nI_ltI (by omega) (by omega)).mp z) (by omega))) (fun h3 => ?_)
  refine mw_go mu_g344 (k := 4) (f1 := (45, [(2, .inl (1 : Int32)), (1, .inl (nI 0)), (0, .inr (.inr (some 158)))], [.inl (1 : Int32)], H)) (C := []) rfl trivial ?_
  refine mw_if (P := (1 : Int32) = 0) (a := 70) (b := 48) (fun _ => rfl) trivial (fun h4 => absurd h4 (by decide)) (fun h4 => ?_)
  refine mw_go mu_g344 (k := 1) (f1 := (49, [(2, .inl (1 : Int32)), (1, .inl (nI 0)), (0, .inr (.inr (some 158)))], [.inl (nI 0)], H)) (C := []) rfl trivial ?_
  refine mw_if (P := (nI 0) = 0) (a := 52) (b := 70) (fun _ => rfl) trivial (fun h5 => ?_) (fun h5 => absurd rfl h5)
  refine mw_go mu_g344 (k := 3) (f1 := (57, [(2, .inl (1 : Int32)), (1, .inl (nI 0)), (0, .inr (.inr (some 158)))], [.inl (mu_i H 158 10), .inr (.inr (some 158))], H)) (C := [mu_is H (some 158) 8]) rfl (show mu_is H (some 158) 8 from (h.1.1.is rfl)) ?_
  rw [(show mu_i H 158 10 = (nI tc) from (ud_i (U := U) (m := m) (P := 158) (j := 10) e rfl).trans htc)]
  refine mw_go mu_g344 (k := 2) (f1 := (59, [(2, .inl (1 : Int32)), (1, .inl (nI 0)), (0, .inr (.inr (some 158)))], [.inl ((nI tc) - (1 : Int32)), .inr (.inr (some 158))], H)) (C := []) rfl trivial ?_
  rw [(show ((nI tc) - (1 : Int32)) = (nI (tc - 1)) from (nI_sub (a := tc) (b := 1) (by omega)))]
  refine mw_go mu_g344 (k := 1) (f1 := (62, [(2, .inl (1 : Int32)), (1, .inl (nI 0)), (0, .inr (.inr (some 158)))], [], (mu_si H 158 21 (nI (tc - 1))))) (C := [mu_is H (some 158) 8]) rfl (show mu_is H (some 158) 8 from (h.1.1.is rfl)) ?_
  obtain ⟨u6, r6, d6⟩ : um m (mu_si H 158 21 (nI (tc - 1))) ∧ ur m C H (mu_si H 158 21 (nI (tc - 1))) ∧ ud m (mu_si H 158 21 (nI (tc - 1))) = (upI U 158 21 (nI (tc - 1))) := h.sI (C := C) e rfl
  generalize (mu_si H 158 21 (nI (tc - 1))) = Q6 at u6 r6 d6 ⊢
  have ht6 : ur m C H Q6 := (ur.refl m C H).trans r6
  refine mw_go mu_g344 (k := 3) (f1 := (67, [(2, .inl (1 : Int32)), (1, .inl (nI 0)), (0, .inr (.inr (some 158)))], [], (mu_si Q6 158 16 (0 : Int32)))) (C := [mu_is Q6 (some 158) 8]) rfl (show mu_is Q6 (some 158) 8 from (u6.1.1.is rfl)) ?_
  obtain ⟨u7, r7, d7⟩ : um m (mu_si Q6 158 16 (0 : Int32)) ∧ ur m C Q6 (mu_si Q6 158 16 (0 : Int32)) ∧ ud m (mu_si Q6 158 16 (0 : Int32)) = (upI (upI U 158 21 (nI (tc - 1))) 158 16 (0 : Int32)) := u6.sI (C := C) d6 rfl
  generalize (mu_si Q6 158 16 (0 : Int32)) = Q7 at u7 r7 d7 ⊢
  have ht7 : ur m C H Q7 := ht6.trans r7
  refine mw_go mu_g344 (k := 2) (f1 := (101, [(2, .inl (1 : Int32)), (1, .inl (nI 0)), (0, .inr (.inr (some 158)))], [.inl (1 : Int32)], Q7)) (C := []) rfl trivial ?_
  refine mw_if (P := (1 : Int32) = 0) (a := 108) (b := 104) (fun _ => rfl) trivial (fun h8 => absurd h8 (by decide)) (fun h8 => ?_)
  refine mw_go mu_g344 (k := 1) (f1 := (105, [(2, .inl (1 : Int32)), (1, .inl (nI 0)), (0, .inr (.inr (some 158)))], [.inl (nI 0)], Q7)) (C := []) rfl trivial ?_
  refine mw_if (P := 0 < (nI 0)) (a := 126) (b := 108) (fun _ => rfl) trivial (fun h9 => absurd h9 (by decide)) (fun h9 => ?_)
  refine mw_go mu_g344 (k := 1) (f1 := (109, [(2, .inl (1 : Int32)), (1, .inl (nI 0)), (0, .inr (.inr (some 158)))], [.inl (1 : Int32)], Q7)) (C := []) rfl trivial ?_
  refine mw_if (P := (1 : Int32) = 0) (a := 112) (b := 116) (fun _ => rfl) trivial (fun h10 => absurd h10 (by decide)) (fun h10 => ?_)
  refine mw_go mu_g344 (k := 2) (f1 := (120, [(2, .inl (1 : Int32)), (1, .inl (nI 0)), (0, .inr (.inr (some 158)))], [.inl (mu_i Q7 158 10)], Q7)) (C := [mu_is Q7 (some 158) 8]) rfl (show mu_is Q7 (some 158) 8 from (u7.1.1.is rfl)) ?_
  rw [(show mu_i Q7 158 10 = (nI tc) from (ud_i (U := (upI (upI U 158 21 (nI (tc - 1))) 158 16 (0 : Int32))) (m := m) (P := 158) (j := 10) d7 rfl).trans htc)]
  refine mw_go mu_g344 (k := 1) (f1 := (123, [(2, .inl (1 : Int32)), (1, .inl (nI 0)), (0, .inr (.inr (some 158)))], [.inl (2000 : Int32), .inl (nI tc)], Q7)) (C := []) rfl trivial ?_
  refine mw_if (P := (2000 : Int32) < (nI tc)) (a := 126) (b := 134) (fun _ => rfl) trivial (fun h11 => absurd h11 (fun z => absurd ((nI_ltI (a := 2000) (by decide) (by omega)).mp z) (by omega))) (fun h11 => ?_)
  refine mw_go mu_g344 (k := 1) (f1 := (135, [(2, .inl (1 : Int32)), (1, .inl (nI 0)), (0, .inr (.inr (some 158)))], [.inr (.inr (some 158))], Q7)) (C := []) rfl trivial ?_
  refine mw_cV (fun _ => rfl) (show mu_is Q7 (some 158) 8 from (u7.1.1.is rfl)) (hleg Q7 u7 d7) (fun Q12 q12 => ?_)
  obtain ⟨u12, r12, k1412, kpl12⟩ := q12
  have ht12 : ur m C H Q12 := ht7.trans r12
  exact mw_of (fun _ => mu_ret rfl trivial ⟨Q12, rfl, u12, ht12, k1412, kpl12⟩)
theorem pr_ringE (h : um m H) (e : ud m H = U) (hmo : U.2.2.2.1 99 0 = some m) (hfb16 : (U.1 16).1 < 2147483648) (hlg : max 1 (U.1 16).1 = lg) (hlgb : lg < 2147483648) (hat : U.2.1 158 16 = nI a0) (hab : a0 < 2147483647) (htc : U.2.1 158 10 = nI tc) (htc1 : 1 ≤ tc) (htc2 : tc ≤ 2000) (hsx : (U.2.2.1 158 8).2 (tc - 1) = nI st) (hal : lg ≤ a0) (hG : GRB U T R wn rx mb me) (hW : TLD U T st n W) (hW0 : W 0 = st) (hn : 1 ≤ n) (hnb : n ≤ 16384) : mu_TV (mu_D (d + 5)) 344 [.inr (.inr (some 158))] H (fun H1 => um m H1 ∧ ur m C H H1 ∧ ∃ V, uq F312 U V ∧ (∀ j, (V.2.2.1 158 8).2 j = if tc ≤ j ∧ j < tc + n ∧ j < 2001 then nI (W (j - tc + 1)) else (U.2.2.1 158 8).2 j) ∧ ud m H1 = upI (upI (upI V 158 10 (nI (tc + (n - 1)))) 158 16 (nI (a0 + 1))) 158 14 0) := by
  refine mu_meth (M := mu_m344) rfl rfl ?_
  refine mw_ht (mu_fn_of (show [0].Nodup by decide)) ?_
  refine mw_go mu_g344 (k := 2) (f1 := (4, [(0, .inr (.inr (some 158)))], [.inr (.inr (mu_r H 158 1))], H)) (C := [mu_is H (some 158) 8]) rfl (show mu_is H (some 158) 8 from (h.1.1.is rfl)) ?_
  rw [(h.1.1.r (p := 158) (j := 1) (q := 147) rfl)]
  refine mw_go mu_g344 (k := 2) (f1 := (8, [(0, .inr (.inr (some 158)))], [.inr (.inr (mu_r H 158 8)), .inr (.inr (some 147))], H)) (C := [mu_is H (some 158) 8]) rfl (show mu_is H (some 158) 8 from (h.1.1.is rfl)) ?_
  rw [(h.1.1.r (p := 158) (j := 8) (q := 165) rfl)]
  refine mw_go mu_g344 (k := 2) (f1 := (12, [(0, .inr (.inr (some 158)))], [.inl (mu_i H 158 10), .inr (.inr (some 165)), .inr (.inr (some 147))], H)) (C := [mu_is H (some 158) 8]) rfl (show mu_is H (some 158) 8 from (h.1.1.is rfl)) ?_
  rw [(show mu_i H 158 10 = (nI tc) from (ud_i (U := U) (m := m) (P := 158) (j := 10) e rfl).trans htc)]
  refine mw_go mu_g344 (k := 2) (f1 := (14, [(0, .inr (.inr (some 158)))], [.inl ((nI tc) - (1 : Int32)), .inr (.inr (some 165)), .inr (.inr (some 147))], H)) (C := []) rfl trivial ?_
  rw [(show ((nI tc) - (1 : Int32)) = (nI (tc - 1)) from (nI_sub (a := tc) (b := 1) (by omega)))]
  refine mw_go mu_g344 (k := 1) (f1 := (15, [(0, .inr (.inr (some 158)))], [.inl (mu_i H 165 (nI (tc - 1)).toNatClampNeg), .inr (.inr (some 147))], H)) (C := [mu_isr H (some 165) 100, vp_in (nI (tc - 1)) (mu_n H 165)]) rfl (show (mu_isr H (some 165) 100) ∧ (vp_in (nI (tc - 1)) (mu_n H 165)) from ⟨((h.iA e rfl rfl ((ud_q (m := m) (P := 158) (j := 8) e rfl).symm.trans (h.1.1.r (p := 158) (j := 8) (q := 165) rfl)))).r, (by rw [show mu_n H 165 = 2001 from (h.1.1.a (p := 165) (x := (100, 2001)) rfl).2]; exact vp_in_nI (n := tc - 1) (by omega) (by decide))⟩) ?_
  rw [(show (mu_i H 165 (nI (tc - 1)).toNatClampNeg) = (nI st) from ((congrArg (mu_i H 165) (show (nI (tc - 1)).toNatClampNeg = tc - 1 from nI_clamp (by omega))).trans (h.gA e rfl rfl ((ud_q (m := m) (P := 158) (j := 8) e rfl).symm.trans (h.1.1.r (p := 158) (j := 8) (q := 165) rfl)))).trans ((congrArg (fun z => z.2 (tc - 1)) (show U.2.2.1 158 8 = (U.2.2.1 158 8) from rfl)).trans hsx))]
  refine mw_go mu_g344 (k := 2) (f1 := (19, [(0, .inr (.inr (some 158)))], [.inr (.inr (mu_r H 158 8)), .inl (nI st), .inr (.inr (some 147))], H)) (C := [mu_is H (some 158) 8]) rfl (show mu_is H (some 158) 8 from (h.1.1.is rfl)) ?_
  rw [(h.1.1.r (p := 158) (j := 8) (q := 165) rfl)]
  refine mw_go mu_g344 (k := 2) (f1 := (23, [(0, .inr (.inr (some 158)))], [.inl (mu_i H 158 10), .inr (.inr (some 165)), .inl (nI st), .inr (.inr (some 147))], H)) (C := [mu_is H (some 158) 8]) rfl (show mu_is H (some 158) 8 from (h.1.1.is rfl)) ?_
  rw [(show mu_i H 158 10 = (nI tc) from (ud_i (U := U) (m := m) (P := 158) (j := 10) e rfl).trans htc)]
  refine mw_cI (fun _ => rfl) (show mu_is H (some 147) 2 from (h.1.1.is rfl)) (gr_trail (d := (d + 3)) (C := C) (n := n) (W := W) (fr := tc) h e hG hW hW0 (by omega)) (fun x1 Q1 q1 => ?_)
  obtain ⟨rfl, u1, r1, z1, htr⟩ := q1
  have ht1 : ur m C H Q1 := (ur.refl m C H).trans r1
  obtain ⟨V1, d1⟩ : ∃ V, ud m Q1 = V := ⟨_, rfl⟩
  rw [d1] at z1 htr
  refine mw_go mu_g344 (k := 3) (f1 := (31, [(1, .inl (nI n)), (0, .inr (.inr (some 158)))], [.inl (mu_i Q1 158 16)], Q1)) (C := [mu_is Q1 (some 158) 8]) rfl (show mu_is Q1 (some 158) 8 from (u1.1.1.is rfl)) ?_
  rw [(show mu_i Q1 158 16 = (nI a0) from (ud_i (U := V1) (m := m) (P := 158) (j := 16) d1 rfl).trans ((z1.i 158 16 rfl).trans hat))]
  refine mw_go mu_g344 (k := 1) (f1 := (32, [(1, .inl (nI n)), (0, .inr (.inr (some 158)))], [.inr (.inr (some 158)), .inl (nI a0)], Q1)) (C := []) rfl trivial ?_
  refine mw_cIe (fun _ => rfl) (show mu_is Q1 (some 158) 8 from (u1.1.1.is rfl)) (pr_legs (d := (d + 2)) u1 d1 ((z1.r 99 0 rfl).trans hmo) (by rw [show V1.1 16 = U.1 16 from z1.t 16 rfl]; exact hfb16)) ?_
  rw [show max 1 (V1.1 16).1 = lg from (congrArg (fun y : Nat × (Nat → Nat → Int32) => max 1 y.1) (z1.t 16 rfl)).trans hlg]
  refine mw_if (P := (nI a0) < (nI lg)) (a := 42) (b := 38) (fun _ => rfl) trivial (fun h3 => absurd h3 (fun z => absurd ((nI_ltI (by omega) (by omega)).mp z) (by omega))) (fun h3 => ?_)
  refine mw_go mu_g344 (k := 4) (f1 := (45, [(2, .inl (1 : Int32)), (1, .inl (nI n)), (0, .inr (.inr (some 158)))], [.inl (1 : Int32)], Q1)) (C := []) rfl trivial ?_
  refine mw_if (P := (1 : Int32) = 0) (a := 70) (b := 48) (fun _ => rfl) trivial (fun h4 => absurd h4 (by decide)) (fun h4 => ?_)
  refine mw_go mu_g344 (k := 1) (f1 := (49, [(2, .inl (1 : Int32)), (1, .inl (nI n)), (0, .inr (.inr (some 158)))], [.inl (nI n)], Q1)) (C := []) rfl trivial ?_
  refine mw_if (P := (nI n) = 0) (a := 52) (b := 70) (fun _ => rfl) trivial (fun h5 => absurd h5 (fun z => absurd ((nI_eq (b := 0) (by omega) (by decide)).mp z) (by omega))) (fun h5 => ?_)
  refine mw_go mu_g344 (k := 3) (f1 := (75, [(2, .inl (1 : Int32)), (1, .inl (nI n)), (0, .inr (.inr (some 158)))], [.inl (mu_i Q1 158 10), .inr (.inr (some 158))], Q1)) (C := [mu_is Q1 (some 158) 8]) rfl (show mu_is Q1 (some 158) 8 from (u1.1.1.is rfl)) ?_
  rw [(show mu_i Q1 158 10 = (nI tc) from (ud_i (U := V1) (m := m) (P := 158) (j := 10) d1 rfl).trans ((z1.i 158 10 rfl).trans htc))]
  refine mw_go mu_g344 (k := 1) (f1 := (76, [(2, .inl (1 : Int32)), (1, .inl (nI n)), (0, .inr (.inr (some 158)))], [.inl (1 : Int32), .inl (nI tc), .inr (.inr (some 158))], Q1)) (C := []) rfl trivial ?_
  refine mw_if (P := (1 : Int32) = 0) (a := 85) (b := 79) (fun _ => rfl) trivial (fun h6 => absurd h6 (by decide)) (fun h6 => ?_)
  refine mw_go mu_g344 (k := 3) (f1 := (82, [(2, .inl (1 : Int32)), (1, .inl (nI n)), (0, .inr (.inr (some 158)))], [.inl ((nI n) - (1 : Int32)), .inl (nI tc), .inr (.inr (some 158))], Q1)) (C := []) rfl trivial ?_
  rw [(show ((nI n) - (1 : Int32)) = (nI (n - 1)) from (nI_sub (a := n) (b := 1) (by omega)))]
  refine mw_go mu_g344 (k := 2) (f1 := (87, [(2, .inl (1 : Int32)), (1, .inl (nI n)), (0, .inr (.inr (some 158)))], [.inl ((nI tc) + (nI (n - 1))), .inr (.inr (some 158))], Q1)) (C := []) rfl trivial ?_
  rw [(show ((nI tc) + (nI (n - 1))) = (nI (tc + (n - 1))) from (nI_add tc (n - 1)))]
  refine mw_go mu_g344 (k := 1) (f1 := (90, [(2, .inl (1 : Int32)), (1, .inl (nI n)), (0, .inr (.inr (some 158)))], [], (mu_si Q1 158 10 (nI (tc + (n - 1)))))) (C := [mu_is Q1 (some 158) 8]) rfl (show mu_is Q1 (some 158) 8 from (u1.1.1.is rfl)) ?_
  obtain ⟨u7, r7, d7⟩ : um m (mu_si Q1 158 10 (nI (tc + (n - 1)))) ∧ ur m C Q1 (mu_si Q1 158 10 (nI (tc + (n - 1)))) ∧ ud m (mu_si Q1 158 10 (nI (tc + (n - 1)))) = (upI V1 158 10 (nI (tc + (n - 1)))) := u1.sI (C := C) d1 rfl
  generalize (mu_si Q1 158 10 (nI (tc + (n - 1)))) = Q7 at u7 r7 d7 ⊢
  have ht7 : ur m C H Q7 := ht1.trans r7
  refine mw_go mu_g344 (k := 3) (f1 := (95, [(2, .inl (1 : Int32)), (1, .inl (nI n)), (0, .inr (.inr (some 158)))], [.inl (mu_i Q7 158 16), .inr (.inr (some 158))], Q7)) (C := [mu_is Q7 (some 158) 8]) rfl (show mu_is Q7 (some 158) 8 from (u7.1.1.is rfl)) ?_
  rw [(show mu_i Q7 158 16 = (nI a0) from (ud_i (U := (upI V1 158 10 (nI (tc + (n - 1))))) (m := m) (P := 158) (j := 16) d7 rfl).trans ((z1.i 158 16 rfl).trans hat))]
  refine mw_go mu_g344 (k := 2) (f1 := (97, [(2, .inl (1 : Int32)), (1, .inl (nI n)), (0, .inr (.inr (some 158)))], [.inl ((nI a0) + (1 : Int32)), .inr (.inr (some 158))], Q7)) (C := []) rfl trivial ?_
  rw [(show ((nI a0) + (1 : Int32)) = (nI (a0 + 1)) from (nI_add a0 1))]
  refine mw_go mu_g344 (k := 1) (f1 := (100, [(2, .inl (1 : Int32)), (1, .inl (nI n)), (0, .inr (.inr (some 158)))], [], (mu_si Q7 158 16 (nI (a0 + 1))))) (C := [mu_is Q7 (some 158) 8]) rfl (show mu_is Q7 (some 158) 8 from (u7.1.1.is rfl)) ?_
  obtain ⟨u8, r8, d8⟩ : um m (mu_si Q7 158 16 (nI (a0 + 1))) ∧ ur m C Q7 (mu_si Q7 158 16 (nI (a0 + 1))) ∧ ud m (mu_si Q7 158 16 (nI (a0 + 1))) = (upI (upI V1 158 10 (nI (tc + (n - 1)))) 158 16 (nI (a0 + 1))) := u7.sI (C := C) d7 rfl
  generalize (mu_si Q7 158 16 (nI (a0 + 1))) = Q8 at u8 r8 d8 ⊢
  have ht8 : ur m C H Q8 := ht7.trans r8
  refine mw_go mu_g344 (k := 1) (f1 := (101, [(2, .inl (1 : Int32)), (1, .inl (nI n)), (0, .inr (.inr (some 158)))], [.inl (1 : Int32)], Q8)) (C := []) rfl trivial ?_
  refine mw_if (P := (1 : Int32) = 0) (a := 108) (b := 104) (fun _ => rfl) trivial (fun h9 => absurd h9 (by decide)) (fun h9 => ?_)
  refine mw_go mu_g344 (k := 1) (f1 := (105, [(2, .inl (1 : Int32)), (1, .inl (nI n)), (0, .inr (.inr (some 158)))], [.inl (nI n)], Q8)) (C := []) rfl trivial ?_
  refine mw_if (P := 0 < (nI n)) (a := 126) (b := 108) (fun _ => rfl) trivial (fun h10 => ?_) (fun h10 => absurd ((nI_ltI (a := 0) (by decide) (by omega)).mpr (by omega)) h10)
  refine mw_go mu_g344 (k := 3) (f1 := (131, [(2, .inl (1 : Int32)), (1, .inl (nI n)), (0, .inr (.inr (some 158)))], [], (mu_si Q8 158 14 (0 : Int32)))) (C := [mu_is Q8 (some 158) 8]) rfl (show mu_is Q8 (some 158) 8 from (u8.1.1.is rfl)) ?_
  obtain ⟨u11, r11, d11⟩ : um m (mu_si Q8 158 14 (0 : Int32)) ∧ ur m C Q8 (mu_si Q8 158 14 (0 : Int32)) ∧ ud m (mu_si Q8 158 14 (0 : Int32)) = (upI (upI (upI V1 158 10 (nI (tc + (n - 1)))) 158 16 (nI (a0 + 1))) 158 14 (0 : Int32)) := u8.sI (C := C) d8 rfl
  generalize (mu_si Q8 158 14 (0 : Int32)) = Q11 at u11 r11 d11 ⊢
  have ht11 : ur m C H Q11 := ht8.trans r11
  refine mw_go mu_g344 (k := 1) (f1 := (138, [(2, .inl (1 : Int32)), (1, .inl (nI n)), (0, .inr (.inr (some 158)))], [], Q11)) (C := []) rfl trivial ?_
  exact mw_of (fun _ => mu_ret rfl trivial ⟨Q11, rfl, u11, ht11, V1, z1, htr, d11⟩)
theorem pr_ringL (h : um m H) (e : ud m H = U) (hmo : U.2.2.2.1 99 0 = some m) (hfb16 : (U.1 16).1 < 2147483648) (hlg : max 1 (U.1 16).1 = lg) (hlgb : lg < 2147483648) (hat : U.2.1 158 16 = nI a0) (hab : a0 < 2147483647) (htc : U.2.1 158 10 = nI tc) (htc1 : 1 ≤ tc) (htc2 : tc ≤ 2000) (hsx : (U.2.2.1 158 8).2 (tc - 1) = nI st) (hal : a0 < lg) (hG : GRB U T R wn rx mb me) (hW : TLD U T st n W) (hW0 : W 0 = st) (hn : 1 ≤ n) (hnb : tc + n ≤ 2000) (hleg : ∀ V Q, uq F312 U V → (∀ j, (V.2.2.1 158 8).2 j = if tc ≤ j ∧ j < tc + n ∧ j < 2001 then nI (W (j - tc + 1)) else (U.2.2.1 158 8).2 j) → um m Q → ud m Q = (upI (upI V 158 10 (nI (tc + n))) 158 16 (nI (a0 + 1))) → mu_TV (mu_D (d + 4)) 347 [.inr (.inr (some 158))] Q (fun H1 => um m H1 ∧ ur m C Q H1 ∧ (ud m H1).2.1 158 14 = 5 ∧ PL V H1)) : mu_TV (mu_D (d + 5)) 344 [.inr (.inr (some 158))] H (fun H1 => um m H1 ∧ ur m C H H1 ∧ (ud m H1).2.1 158 14 = 5 ∧ ∃ V, uq F312 U V ∧ (∀ j, (V.2.2.1 158 8).2 j = if tc ≤ j ∧ j < tc + n ∧ j < 2001 then nI (W (j - tc + 1)) else (U.2.2.1 158 8).2 j) ∧ PL V H1) := by
  refine mu_meth (M := mu_m344) rfl rfl ?_
  refine mw_ht (mu_fn_of (show [0].Nodup by decide)) ?_
  refine mw_go mu_g344 (k := 2) (f1 := (4, [(0, .inr (.inr (some 158)))], [.inr (.inr (mu_r H 158 1))], H)) (C := [mu_is H (some 158) 8]) rfl (show mu_is H (some 158) 8 from (h.1.1.is rfl)) ?_
  rw [(h.1.1.r (p := 158) (j := 1) (q := 147) rfl)]
  refine mw_go mu_g344 (k := 2) (f1 := (8, [(0, .inr (.inr (some 158)))], [.inr (.inr (mu_r H 158 8)), .inr (.inr (some 147))], H)) (C := [mu_is H (some 158) 8]) rfl (show mu_is H (some 158) 8 from (h.1.1.is rfl)) ?_
  rw [(h.1.1.r (p := 158) (j := 8) (q := 165) rfl)]
  refine mw_go mu_g344 (k := 2) (f1 := (12, [(0, .inr (.inr (some 158)))], [.inl (mu_i H 158 10), .inr (.inr (some 165)), .inr (.inr (some 147))], H)) (C := [mu_is H (some 158) 8]) rfl (show mu_is H (some 158) 8 from (h.1.1.is rfl)) ?_
  rw [(show mu_i H 158 10 = (nI tc) from (ud_i (U := U) (m := m) (P := 158) (j := 10) e rfl).trans htc)]
  refine mw_go mu_g344 (k := 2) (f1 := (14, [(0, .inr (.inr (some 158)))], [.inl ((nI tc) - (1 : Int32)), .inr (.inr (some 165)), .inr (.inr (some 147))], H)) (C := []) rfl trivial ?_
  rw [(show ((nI tc) - (1 : Int32)) = (nI (tc - 1)) from (nI_sub (a := tc) (b := 1) (by omega)))]
  refine mw_go mu_g344 (k := 1) (f1 := (15, [(0, .inr (.inr (some 158)))], [.inl (mu_i H 165 (nI (tc - 1)).toNatClampNeg), .inr (.inr (some 147))], H)) (C := [mu_isr H (some 165) 100, vp_in (nI (tc - 1)) (mu_n H 165)]) rfl (show (mu_isr H (some 165) 100) ∧ (vp_in (nI (tc - 1)) (mu_n H 165)) from ⟨((h.iA e rfl rfl ((ud_q (m := m) (P := 158) (j := 8) e rfl).symm.trans (h.1.1.r (p := 158) (j := 8) (q := 165) rfl)))).r, (by rw [show mu_n H 165 = 2001 from (h.1.1.a (p := 165) (x := (100, 2001)) rfl).2]; exact vp_in_nI (n := tc - 1) (by omega) (by decide))⟩) ?_
  rw [(show (mu_i H 165 (nI (tc - 1)).toNatClampNeg) = (nI st) from ((congrArg (mu_i H 165) (show (nI (tc - 1)).toNatClampNeg = tc - 1 from nI_clamp (by omega))).trans (h.gA e rfl rfl ((ud_q (m := m) (P := 158) (j := 8) e rfl).symm.trans (h.1.1.r (p := 158) (j := 8) (q := 165) rfl)))).trans ((congrArg (fun z => z.2 (tc - 1)) (show U.2.2.1 158 8 = (U.2.2.1 158 8) from rfl)).trans hsx))]
  refine mw_go mu_g344 (k := 2) (f1 := (19, [(0, .inr (.inr (some 158)))], [.inr (.inr (mu_r H 158 8)), .inl (nI st), .inr (.inr (some 147))], H)) (C := [mu_is H (some 158) 8]) rfl (show mu_is H (some 158) 8 from (h.1.1.is rfl)) ?_
  rw [(h.1.1.r (p := 158) (j := 8) (q := 165) rfl)]
  refine mw_go mu_g344 (k := 2) (f1 := (23, [(0, .inr (.inr (some 158)))], [.inl (mu_i H 158 10), .inr (.inr (some 165)), .inl (nI st), .inr (.inr (some 147))], H)) (C := [mu_is H (some 158) 8]) rfl (show mu_is H (some 158) 8 from (h.1.1.is rfl)) ?_
  rw [(show mu_i H 158 10 = (nI tc) from (ud_i (U := U) (m := m) (P := 158) (j := 10) e rfl).trans htc)]
  refine mw_cI (fun _ => rfl) (show mu_is H (some 147) 2 from (h.1.1.is rfl)) (gr_trail (d := (d + 3)) (C := C) (n := n) (W := W) (fr := tc) h e hG hW hW0 (by omega)) (fun x1 Q1 q1 => ?_)
  obtain ⟨rfl, u1, r1, z1, htr⟩ := q1
  have ht1 : ur m C H Q1 := (ur.refl m C H).trans r1
  obtain ⟨V1, d1⟩ : ∃ V, ud m Q1 = V := ⟨_, rfl⟩
  rw [d1] at z1 htr
  refine mw_go mu_g344 (k := 3) (f1 := (31, [(1, .inl (nI n)), (0, .inr (.inr (some 158)))], [.inl (mu_i Q1 158 16)], Q1)) (C := [mu_is Q1 (some 158) 8]) rfl (show mu_is Q1 (some 158) 8 from (u1.1.1.is rfl)) ?_
  rw [(show mu_i Q1 158 16 = (nI a0) from (ud_i (U := V1) (m := m) (P := 158) (j := 16) d1 rfl).trans ((z1.i 158 16 rfl).trans hat))]
  refine mw_go mu_g344 (k := 1) (f1 := (32, [(1, .inl (nI n)), (0, .inr (.inr (some 158)))], [.inr (.inr (some 158)), .inl (nI a0)], Q1)) (C := []) rfl trivial ?_
  refine mw_cIe (fun _ => rfl) (show mu_is Q1 (some 158) 8 from (u1.1.1.is rfl)) (pr_legs (d := (d + 2)) u1 d1 ((z1.r 99 0 rfl).trans hmo) (by rw [show V1.1 16 = U.1 16 from z1.t 16 rfl]; exact hfb16)) ?_
  rw [show max 1 (V1.1 16).1 = lg from (congrArg (fun y : Nat × (Nat → Nat → Int32) => max 1 y.1) (z1.t 16 rfl)).trans hlg]
  refine mw_if (P := (nI a0) < (nI lg)) (a := 42) (b := 38) (fun _ => rfl) trivial (fun h3 => ?_) (fun h3 => absurd ((nI_ltI (by omega) (by omega)).mpr (by omega)) h3)
  refine mw_go mu_g344 (k := 3) (f1 := (45, [(2, .inl (0 : Int32)), (1, .inl (nI n)), (0, .inr (.inr (some 158)))], [.inl (0 : Int32)], Q1)) (C := []) rfl trivial ?_
  refine mw_if (P := (0 : Int32) = 0) (a := 70) (b := 48) (fun _ => rfl) trivial (fun h4 => ?_) (fun h4 => absurd (by decide) h4)
  refine mw_go mu_g344 (k := 3) (f1 := (75, [(2, .inl (0 : Int32)), (1, .inl (nI n)), (0, .inr (.inr (some 158)))], [.inl (mu_i Q1 158 10), .inr (.inr (some 158))], Q1)) (C := [mu_is Q1 (some 158) 8]) rfl (show mu_is Q1 (some 158) 8 from (u1.1.1.is rfl)) ?_
  rw [(show mu_i Q1 158 10 = (nI tc) from (ud_i (U := V1) (m := m) (P := 158) (j := 10) d1 rfl).trans ((z1.i 158 10 rfl).trans htc))]
  refine mw_go mu_g344 (k := 1) (f1 := (76, [(2, .inl (0 : Int32)), (1, .inl (nI n)), (0, .inr (.inr (some 158)))], [.inl (0 : Int32), .inl (nI tc), .inr (.inr (some 158))], Q1)) (C := []) rfl trivial ?_
  refine mw_if (P := (0 : Int32) = 0) (a := 85) (b := 79) (fun _ => rfl) trivial (fun h5 => ?_) (fun h5 => absurd (by decide) h5)
  refine mw_go mu_g344 (k := 2) (f1 := (87, [(2, .inl (0 : Int32)), (1, .inl (nI n)), (0, .inr (.inr (some 158)))], [.inl ((nI tc) + (nI n)), .inr (.inr (some 158))], Q1)) (C := []) rfl trivial ?_
  rw [(show ((nI tc) + (nI n)) = (nI (tc + n)) from (nI_add tc n))]
  refine mw_go mu_g344 (k := 1) (f1 := (90, [(2, .inl (0 : Int32)), (1, .inl (nI n)), (0, .inr (.inr (some 158)))], [], (mu_si Q1 158 10 (nI (tc + n))))) (C := [mu_is Q1 (some 158) 8]) rfl (show mu_is Q1 (some 158) 8 from (u1.1.1.is rfl)) ?_
  obtain ⟨u6, r6, d6⟩ : um m (mu_si Q1 158 10 (nI (tc + n))) ∧ ur m C Q1 (mu_si Q1 158 10 (nI (tc + n))) ∧ ud m (mu_si Q1 158 10 (nI (tc + n))) = (upI V1 158 10 (nI (tc + n))) := u1.sI (C := C) d1 rfl
  generalize (mu_si Q1 158 10 (nI (tc + n))) = Q6 at u6 r6 d6 ⊢
  have ht6 : ur m C H Q6 := ht1.trans r6
  refine mw_go mu_g344 (k := 3) (f1 := (95, [(2, .inl (0 : Int32)), (1, .inl (nI n)), (0, .inr (.inr (some 158)))], [.inl (mu_i Q6 158 16), .inr (.inr (some 158))], Q6)) (C := [mu_is Q6 (some 158) 8]) rfl (show mu_is Q6 (some 158) 8 from (u6.1.1.is rfl)) ?_
  rw [(show mu_i Q6 158 16 = (nI a0) from (ud_i (U := (upI V1 158 10 (nI (tc + n)))) (m := m) (P := 158) (j := 16) d6 rfl).trans ((z1.i 158 16 rfl).trans hat))]
  refine mw_go mu_g344 (k := 2) (f1 := (97, [(2, .inl (0 : Int32)), (1, .inl (nI n)), (0, .inr (.inr (some 158)))], [.inl ((nI a0) + (1 : Int32)), .inr (.inr (some 158))], Q6)) (C := []) rfl trivial ?_
  rw [(show ((nI a0) + (1 : Int32)) = (nI (a0 + 1)) from (nI_add a0 1))]
  refine mw_go mu_g344 (k := 1) (f1 := (100, [(2, .inl (0 : Int32)), (1, .inl (nI n)), (0, .inr (.inr (some 158)))], [], (mu_si Q6 158 16 (nI (a0 + 1))))) (C := [mu_is Q6 (some 158) 8]) rfl (show mu_is Q6 (some 158) 8 from (u6.1.1.is rfl)) ?_
  obtain ⟨u7, r7, d7⟩ : um m (mu_si Q6 158 16 (nI (a0 + 1))) ∧ ur m C Q6 (mu_si Q6 158 16 (nI (a0 + 1))) ∧ ud m (mu_si Q6 158 16 (nI (a0 + 1))) = (upI (upI V1 158 10 (nI (tc + n))) 158 16 (nI (a0 + 1))) := u6.sI (C := C) d6 rfl
  generalize (mu_si Q6 158 16 (nI (a0 + 1))) = Q7 at u7 r7 d7 ⊢
  have ht7 : ur m C H Q7 := ht6.trans r7
  refine mw_go mu_g344 (k := 1) (f1 := (101, [(2, .inl (0 : Int32)), (1, .inl (nI n)), (0, .inr (.inr (some 158)))], [.inl (0 : Int32)], Q7)) (C := []) rfl trivial ?_
  refine mw_if (P := (0 : Int32) = 0) (a := 108) (b := 104) (fun _ => rfl) trivial (fun h8 => ?_) (fun h8 => absurd (by decide) h8)
  refine mw_go mu_g344 (k := 1) (f1 := (109, [(2, .inl (0 : Int32)), (1, .inl (nI n)), (0, .inr (.inr (some 158)))], [.inl (0 : Int32)], Q7)) (C := []) rfl trivial ?_
  refine mw_if (P := (0 : Int32) = 0) (a := 112) (b := 116) (fun _ => rfl) trivial (fun h9 => ?_) (fun h9 => absurd (by decide) h9)
  refine mw_go mu_g344 (k := 1) (f1 := (113, [(2, .inl (0 : Int32)), (1, .inl (nI n)), (0, .inr (.inr (some 158)))], [.inl (nI n)], Q7)) (C := []) rfl trivial ?_
  refine mw_if (P := (nI n) = 0) (a := 126) (b := 116) (fun _ => rfl) trivial (fun h10 => absurd h10 (fun z => absurd ((nI_eq (b := 0) (by omega) (by decide)).mp z) (by omega))) (fun h10 => ?_)
  refine mw_go mu_g344 (k := 2) (f1 := (120, [(2, .inl (0 : Int32)), (1, .inl (nI n)), (0, .inr (.inr (some 158)))], [.inl (mu_i Q7 158 10)], Q7)) (C := [mu_is Q7 (some 158) 8]) rfl (show mu_is Q7 (some 158) 8 from (u7.1.1.is rfl)) ?_
  rw [(show mu_i Q7 158 10 = (nI (tc + n)) from (ud_i (U := (upI (upI V1 158 10 (nI (tc + n))) 158 16 (nI (a0 + 1)))) (m := m) (P := 158) (j := 10) d7 rfl))]
  refine mw_go mu_g344 (k := 1) (f1 := (123, [(2, .inl (0 : Int32)), (1, .inl (nI n)), (0, .inr (.inr (some 158)))], [.inl (2000 : Int32), .inl (nI (tc + n))], Q7)) (C := []) rfl trivial ?_
  refine mw_if (P := (2000 : Int32) < (nI (tc + n))) (a := 126) (b := 134) (fun _ => rfl) trivial (fun h11 => absurd h11 (fun z => absurd ((nI_ltI (a := 2000) (by decide) (by omega)).mp z) (by omega))) (fun h11 => ?_)
  refine mw_go mu_g344 (k := 1) (f1 := (135, [(2, .inl (0 : Int32)), (1, .inl (nI n)), (0, .inr (.inr (some 158)))], [.inr (.inr (some 158))], Q7)) (C := []) rfl trivial ?_
  refine mw_cV (fun _ => rfl) (show mu_is Q7 (some 158) 8 from (u7.1.1.is rfl)) (hleg V1 Q7 z1 htr u7 d7) (fun Q12 q12 => ?_)
  obtain ⟨u12, r12, k1412, kpl12⟩ := q12
  have ht12 : ur m C H Q12 := ht7.trans r12
  exact mw_of (fun _ => mu_ret rfl trivial ⟨Q12, rfl, u12, ht12, k1412, V1, z1, htr, kpl12⟩)
theorem pr_ringX (h : um m H) (e : ud m H = U) (hmo : U.2.2.2.1 99 0 = some m) (hfb16 : (U.1 16).1 < 2147483648) (hlg : max 1 (U.1 16).1 = lg) (hlgb : lg < 2147483648) (hat : U.2.1 158 16 = nI a0) (hab : a0 < 2147483647) (htc : U.2.1 158 10 = nI tc) (htc1 : 1 ≤ tc) (htc2 : tc ≤ 2000) (hsx : (U.2.2.1 158 8).2 (tc - 1) = nI st) (hal : a0 < lg) (hG : GRB U T R wn rx mb me) (hW : TLD U T st n W) (hW0 : W 0 = st) (hn : 1 ≤ n) (hnb : n ≤ 16384) (hnx : 2000 < tc + n) : mu_TV (mu_D (d + 5)) 344 [.inr (.inr (some 158))] H (fun H1 => um m H1 ∧ ur m C H H1 ∧ ∃ V, uq F312 U V ∧ (∀ j, (V.2.2.1 158 8).2 j = if tc ≤ j ∧ j < tc + n ∧ j < 2001 then nI (W (j - tc + 1)) else (U.2.2.1 158 8).2 j) ∧ ud m H1 = upI (upI (upI V 158 10 (nI (tc + n))) 158 16 (nI (a0 + 1))) 158 14 0) := by
  refine mu_meth (M := mu_m344) rfl rfl ?_
  refine mw_ht (mu_fn_of (show [0].Nodup by decide)) ?_
  refine mw_go mu_g344 (k := 2) (f1 := (4, [(0, .inr (.inr (some 158)))], [.inr (.inr (mu_r H 158 1))], H)) (C := [mu_is H (some 158) 8]) rfl (show mu_is H (some 158) 8 from (h.1.1.is rfl)) ?_
  rw [(h.1.1.r (p := 158) (j := 1) (q := 147) rfl)]
  refine mw_go mu_g344 (k := 2) (f1 := (8, [(0, .inr (.inr (some 158)))], [.inr (.inr (mu_r H 158 8)), .inr (.inr (some 147))], H)) (C := [mu_is H (some 158) 8]) rfl (show mu_is H (some 158) 8 from (h.1.1.is rfl)) ?_
  rw [(h.1.1.r (p := 158) (j := 8) (q := 165) rfl)]
  refine mw_go mu_g344 (k := 2) (f1 := (12, [(0, .inr (.inr (some 158)))], [.inl (mu_i H 158 10), .inr (.inr (some 165)), .inr (.inr (some 147))], H)) (C := [mu_is H (some 158) 8]) rfl (show mu_is H (some 158) 8 from (h.1.1.is rfl)) ?_
  rw [(show mu_i H 158 10 = (nI tc) from (ud_i (U := U) (m := m) (P := 158) (j := 10) e rfl).trans htc)]
  refine mw_go mu_g344 (k := 2) (f1 := (14, [(0, .inr (.inr (some 158)))], [.inl ((nI tc) - (1 : Int32)), .inr (.inr (some 165)), .inr (.inr (some 147))], H)) (C := []) rfl trivial ?_
  rw [(show ((nI tc) - (1 : Int32)) = (nI (tc - 1)) from (nI_sub (a := tc) (b := 1) (by omega)))]
  refine mw_go mu_g344 (k := 1) (f1 := (15, [(0, .inr (.inr (some 158)))], [.inl (mu_i H 165 (nI (tc - 1)).toNatClampNeg), .inr (.inr (some 147))], H)) (C := [mu_isr H (some 165) 100, vp_in (nI (tc - 1)) (mu_n H 165)]) rfl (show (mu_isr H (some 165) 100) ∧ (vp_in (nI (tc - 1)) (mu_n H 165)) from ⟨((h.iA e rfl rfl ((ud_q (m := m) (P := 158) (j := 8) e rfl).symm.trans (h.1.1.r (p := 158) (j := 8) (q := 165) rfl)))).r, (by rw [show mu_n H 165 = 2001 from (h.1.1.a (p := 165) (x := (100, 2001)) rfl).2]; exact vp_in_nI (n := tc - 1) (by omega) (by decide))⟩) ?_
  rw [(show (mu_i H 165 (nI (tc - 1)).toNatClampNeg) = (nI st) from ((congrArg (mu_i H 165) (show (nI (tc - 1)).toNatClampNeg = tc - 1 from nI_clamp (by omega))).trans (h.gA e rfl rfl ((ud_q (m := m) (P := 158) (j := 8) e rfl).symm.trans (h.1.1.r (p := 158) (j := 8) (q := 165) rfl)))).trans ((congrArg (fun z => z.2 (tc - 1)) (show U.2.2.1 158 8 = (U.2.2.1 158 8) from rfl)).trans hsx))]
  refine mw_go mu_g344 (k := 2) (f1 := (19, [(0, .inr (.inr (some 158)))], [.inr (.inr (mu_r H 158 8)), .inl (nI st), .inr (.inr (some 147))], H)) (C := [mu_is H (some 158) 8]) rfl (show mu_is H (some 158) 8 from (h.1.1.is rfl)) ?_
  rw [(h.1.1.r (p := 158) (j := 8) (q := 165) rfl)]
  refine mw_go mu_g344 (k := 2) (f1 := (23, [(0, .inr (.inr (some 158)))], [.inl (mu_i H 158 10), .inr (.inr (some 165)), .inl (nI st), .inr (.inr (some 147))], H)) (C := [mu_is H (some 158) 8]) rfl (show mu_is H (some 158) 8 from (h.1.1.is rfl)) ?_
  rw [(show mu_i H 158 10 = (nI tc) from (ud_i (U := U) (m := m) (P := 158) (j := 10) e rfl).trans htc)]
  refine mw_cI (fun _ => rfl) (show mu_is H (some 147) 2 from (h.1.1.is rfl)) (gr_trail (d := (d + 3)) (C := C) (n := n) (W := W) (fr := tc) h e hG hW hW0 (by omega)) (fun x1 Q1 q1 => ?_)
  obtain ⟨rfl, u1, r1, z1, htr⟩ := q1
  have ht1 : ur m C H Q1 := (ur.refl m C H).trans r1
  obtain ⟨V1, d1⟩ : ∃ V, ud m Q1 = V := ⟨_, rfl⟩
  rw [d1] at z1 htr
  refine mw_go mu_g344 (k := 3) (f1 := (31, [(1, .inl (nI n)), (0, .inr (.inr (some 158)))], [.inl (mu_i Q1 158 16)], Q1)) (C := [mu_is Q1 (some 158) 8]) rfl (show mu_is Q1 (some 158) 8 from (u1.1.1.is rfl)) ?_
  rw [(show mu_i Q1 158 16 = (nI a0) from (ud_i (U := V1) (m := m) (P := 158) (j := 16) d1 rfl).trans ((z1.i 158 16 rfl).trans hat))]
  refine mw_go mu_g344 (k := 1) (f1 := (32, [(1, .inl (nI n)), (0, .inr (.inr (some 158)))], [.inr (.inr (some 158)), .inl (nI a0)], Q1)) (C := []) rfl trivial ?_
  refine mw_cIe (fun _ => rfl) (show mu_is Q1 (some 158) 8 from (u1.1.1.is rfl)) (pr_legs (d := (d + 2)) u1 d1 ((z1.r 99 0 rfl).trans hmo) (by rw [show V1.1 16 = U.1 16 from z1.t 16 rfl]; exact hfb16)) ?_
  rw [show max 1 (V1.1 16).1 = lg from (congrArg (fun y : Nat × (Nat → Nat → Int32) => max 1 y.1) (z1.t 16 rfl)).trans hlg]
  refine mw_if (P := (nI a0) < (nI lg)) (a := 42) (b := 38) (fun _ => rfl) trivial (fun h3 => ?_) (fun h3 => absurd ((nI_ltI (by omega) (by omega)).mpr (by omega)) h3)
  refine mw_go mu_g344 (k := 3) (f1 := (45, [(2, .inl (0 : Int32)), (1, .inl (nI n)), (0, .inr (.inr (some 158)))], [.inl (0 : Int32)], Q1)) (C := []) rfl trivial ?_
  refine mw_if (P := (0 : Int32) = 0) (a := 70) (b := 48) (fun _ => rfl) trivial (fun h4 => ?_) (fun h4 => absurd (by decide) h4)
  refine mw_go mu_g344 (k := 3) (f1 := (75, [(2, .inl (0 : Int32)), (1, .inl (nI n)), (0, .inr (.inr (some 158)))], [.inl (mu_i Q1 158 10), .inr (.inr (some 158))], Q1)) (C := [mu_is Q1 (some 158) 8]) rfl (show mu_is Q1 (some 158) 8 from (u1.1.1.is rfl)) ?_
  rw [(show mu_i Q1 158 10 = (nI tc) from (ud_i (U := V1) (m := m) (P := 158) (j := 10) d1 rfl).trans ((z1.i 158 10 rfl).trans htc))]
  refine mw_go mu_g344 (k := 1) (f1 := (76, [(2, .inl (0 : Int32)), (1, .inl (nI n)), (0, .inr (.inr (some 158)))], [.inl (0 : Int32), .inl (nI tc), .inr (.inr (some 158))], Q1)) (C := []) rfl trivial ?_
  refine mw_if (P := (0 : Int32) = 0) (a := 85) (b := 79) (fun _ => rfl) trivial (fun h5 => ?_) (fun h5 => absurd (by decide) h5)
  refine mw_go mu_g344 (k := 2) (f1 := (87, [(2, .inl (0 : Int32)), (1, .inl (nI n)), (0, .inr (.inr (some 158)))], [.inl ((nI tc) + (nI n)), .inr (.inr (some 158))], Q1)) (C := []) rfl trivial ?_
  rw [(show ((nI tc) + (nI n)) = (nI (tc + n)) from (nI_add tc n))]
  refine mw_go mu_g344 (k := 1) (f1 := (90, [(2, .inl (0 : Int32)), (1, .inl (nI n)), (0, .inr (.inr (some 158)))], [], (mu_si Q1 158 10 (nI (tc + n))))) (C := [mu_is Q1 (some 158) 8]) rfl (show mu_is Q1 (some 158) 8 from (u1.1.1.is rfl)) ?_
  obtain ⟨u6, r6, d6⟩ : um m (mu_si Q1 158 10 (nI (tc + n))) ∧ ur m C Q1 (mu_si Q1 158 10 (nI (tc + n))) ∧ ud m (mu_si Q1 158 10 (nI (tc + n))) = (upI V1 158 10 (nI (tc + n))) := u1.sI (C := C) d1 rfl
  generalize (mu_si Q1 158 10 (nI (tc + n))) = Q6 at u6 r6 d6 ⊢
  have ht6 : ur m C H Q6 := ht1.trans r6
  refine mw_go mu_g344 (k := 3) (f1 := (95, [(2, .inl (0 : Int32)), (1, .inl (nI n)), (0, .inr (.inr (some 158)))], [.inl (mu_i Q6 158 16), .inr (.inr (some 158))], Q6)) (C := [mu_is Q6 (some 158) 8]) rfl (show mu_is Q6 (some 158) 8 from (u6.1.1.is rfl)) ?_
  rw [(show mu_i Q6 158 16 = (nI a0) from (ud_i (U := (upI V1 158 10 (nI (tc + n)))) (m := m) (P := 158) (j := 16) d6 rfl).trans ((z1.i 158 16 rfl).trans hat))]
  refine mw_go mu_g344 (k := 2) (f1 := (97, [(2, .inl (0 : Int32)), (1, .inl (nI n)), (0, .inr (.inr (some 158)))], [.inl ((nI a0) + (1 : Int32)), .inr (.inr (some 158))], Q6)) (C := []) rfl trivial ?_
  rw [(show ((nI a0) + (1 : Int32)) = (nI (a0 + 1)) from (nI_add a0 1))]
  refine mw_go mu_g344 (k := 1) (f1 := (100, [(2, .inl (0 : Int32)), (1, .inl (nI n)), (0, .inr (.inr (some 158)))], [], (mu_si Q6 158 16 (nI (a0 + 1))))) (C := [mu_is Q6 (some 158) 8]) rfl (show mu_is Q6 (some 158) 8 from (u6.1.1.is rfl)) ?_
  obtain ⟨u7, r7, d7⟩ : um m (mu_si Q6 158 16 (nI (a0 + 1))) ∧ ur m C Q6 (mu_si Q6 158 16 (nI (a0 + 1))) ∧ ud m (mu_si Q6 158 16 (nI (a0 + 1))) = (upI (upI V1 158 10 (nI (tc + n))) 158 16 (nI (a0 + 1))) := u6.sI (C := C) d6 rfl
  generalize (mu_si Q6 158 16 (nI (a0 + 1))) = Q7 at u7 r7 d7 ⊢
  have ht7 : ur m C H Q7 := ht6.trans r7
  refine mw_go mu_g344 (k := 1) (f1 := (101, [(2, .inl (0 : Int32)), (1, .inl (nI n)), (0, .inr (.inr (some 158)))], [.inl (0 : Int32)], Q7)) (C := []) rfl trivial ?_
  refine mw_if (P := (0 : Int32) = 0) (a := 108) (b := 104) (fun _ => rfl) trivial (fun h8 => ?_) (fun h8 => absurd (by decide) h8)
  refine mw_go mu_g344 (k := 1) (f1 := (109, [(2, .inl (0 : Int32)), (1, .inl (nI n)), (0, .inr (.inr (some 158)))], [.inl (0 : Int32)], Q7)) (C := []) rfl trivial ?_
  refine mw_if (P := (0 : Int32) = 0) (a := 112) (b := 116) (fun _ => rfl) trivial (fun h9 => ?_) (fun h9 => absurd (by decide) h9)
  refine mw_go mu_g344 (k := 1) (f1 := (113, [(2, .inl (0 : Int32)), (1, .inl (nI n)), (0, .inr (.inr (some 158)))], [.inl (nI n)], Q7)) (C := []) rfl trivial ?_
  refine mw_if (P := (nI n) = 0) (a := 126) (b := 116) (fun _ => rfl) trivial (fun h10 => absurd h10 (fun z => absurd ((nI_eq (b := 0) (by omega) (by decide)).mp z) (by omega))) (fun h10 => ?_)
  refine mw_go mu_g344 (k := 2) (f1 := (120, [(2, .inl (0 : Int32)), (1, .inl (nI n)), (0, .inr (.inr (some 158)))], [.inl (mu_i Q7 158 10)], Q7)) (C := [mu_is Q7 (some 158) 8]) rfl (show mu_is Q7 (some 158) 8 from (u7.1.1.is rfl)) ?_
  rw [(show mu_i Q7 158 10 = (nI (tc + n)) from (ud_i (U := (upI (upI V1 158 10 (nI (tc + n))) 158 16 (nI (a0 + 1)))) (m := m) (P := 158) (j := 10) d7 rfl))]
  refine mw_go mu_g344 (k := 1) (f1 := (123, [(2, .inl (0 : Int32)), (1, .inl (nI n)), (0, .inr (.inr (some 158)))], [.inl (2000 : Int32), .inl (nI (tc + n))], Q7)) (C := []) rfl trivial ?_
  refine mw_if (P := (2000 : Int32) < (nI (tc + n))) (a := 126) (b := 134) (fun _ => rfl) trivial (fun h11 => ?_) (fun h11 => absurd ((nI_ltI (a := 2000) (by decide) (by omega)).mpr (by omega)) h11)
  refine mw_go mu_g344 (k := 3) (f1 := (131, [(2, .inl (0 : Int32)), (1, .inl (nI n)), (0, .inr (.inr (some 158)))], [], (mu_si Q7 158 14 (0 : Int32)))) (C := [mu_is Q7 (some 158) 8]) rfl (show mu_is Q7 (some 158) 8 from (u7.1.1.is rfl)) ?_
  obtain ⟨u12, r12, d12⟩ : um m (mu_si Q7 158 14 (0 : Int32)) ∧ ur m C Q7 (mu_si Q7 158 14 (0 : Int32)) ∧ ud m (mu_si Q7 158 14 (0 : Int32)) = (upI (upI (upI V1 158 10 (nI (tc + n))) 158 16 (nI (a0 + 1))) 158 14 (0 : Int32)) := u7.sI (C := C) d7 rfl
  generalize (mu_si Q7 158 14 (0 : Int32)) = Q12 at u12 r12 d12 ⊢
  have ht12 : ur m C H Q12 := ht7.trans r12
  refine mw_go mu_g344 (k := 1) (f1 := (138, [(2, .inl (0 : Int32)), (1, .inl (nI n)), (0, .inr (.inr (some 158)))], [], Q12)) (C := []) rfl trivial ?_
  exact mw_of (fun _ => mu_ret rfl trivial ⟨Q12, rfl, u12, ht12, V1, z1, htr, d12⟩)
theorem pr_adv5N (h : um m H) (e : ud m H = U) (hmo : U.2.2.2.1 99 0 = some m) (hfb16 : (U.1 16).1 < 2147483648) (hlg : max 1 (U.1 16).1 = lg) (hlgb : lg < 2147483648) (hat : U.2.1 158 16 = nI a0) (hab : a0 < 2147483647) (htc : U.2.1 158 10 = nI tc) (htc1 : 1 ≤ tc) (htc2 : tc ≤ 2000) (hsx : (U.2.2.1 158 8).2 (tc - 1) = nI st) (hta : U.2.1 158 14 = 5) (hal : lg ≤ a0) (h19 : U.2.1 147 19 = -1) (hleg : ∀ Q, um m Q → ud m Q = (upI (upI U 158 21 (nI (tc - 1))) 158 16 (0 : Int32)) → mu_TV (mu_D (d + 4)) 347 [.inr (.inr (some 158))] Q (fun H1 => um m H1 ∧ ur m C Q H1 ∧ (ud m H1).2.1 158 14 = 5 ∧ PL U H1)) : mu_TI (mu_D (d + 6)) 343 [.inr (.inr (some 158))] H (fun x H1 => x = 1 ∧ um m H1 ∧ ur m C H H1 ∧ (ud m H1).2.1 158 14 = 5 ∧ PL U H1) := by
  refine mu_meth (M := mu_m343) rfl rfl ?_
  refine mw_ht (mu_fn_of (show [0].Nodup by decide)) ?_
  refine mw_go mu_g343 (k := 2) (f1 := (4, [(0, .inr (.inr (some 158)))], [.inl (mu_i H 158 14)], H)) (C := [mu_is H (some 158) 8]) rfl (show mu_is H (some 158) 8 from (h.1.1.is rfl)) ?_
  rw [(show mu_i H 158 14 = (5 : Int32) from (ud_i (U := U) (m := m) (P := 158) (j := 14) e rfl).trans hta)]
  refine mw_tsw2 rfl (by decide) (fun hx => ?_) ⟨fun z => ?_, fun z => ?_, fun z => ?_, fun z => ?_, fun z => ?_, fun z => ?_, trivial⟩
  · -- None: 116
    exact absurd hx (by decide)
  · -- 1: 44
    exact absurd z (by decide)
  · -- 2: 116
    exact absurd z (by decide)
  · -- 3: 116
    exact absurd z (by decide)
  · -- 4: 59
    exact absurd z (by decide)
  · -- 5: 102
    refine mw_go mu_g343 (k := 1) (f1 := (103, [(0, .inr (.inr (some 158)))], [.inr (.inr (some 158))], H)) (C := []) rfl trivial ?_
    refine mw_cV (fun _ => rfl) (show mu_is H (some 158) 8 from (h.1.1.is rfl)) (pr_ringN (d := d) (C := C) h e hmo hfb16 hlg hlgb hat hab htc htc1 htc2 hsx hal h19 hleg) (fun Q1 q1 => ?_)
    obtain ⟨u1, r1, k141, kpl1⟩ := q1
    have ht1 : ur m C H Q1 := (ur.refl m C H).trans r1
    refine mw_go mu_g343 (k := 3) (f1 := (125, [(0, .inr (.inr (some 158)))], [.inl (mu_i Q1 158 14)], Q1)) (C := [mu_is Q1 (some 158) 8]) rfl (show mu_is Q1 (some 158) 8 from (u1.1.1.is rfl)) ?_
    rw [(show mu_i Q1 158 14 = (5 : Int32) from (ud_i (U := (ud m Q1)) (m := m) (P := 158) (j := 14) rfl rfl).trans k141)]
    refine mw_if (P := (5 : Int32) = 0) (a := 132) (b := 128) (fun _ => rfl) trivial (fun h2 => absurd h2 (by decide)) (fun h2 => ?_)
    refine mw_go mu_g343 (k := 2) (f1 := (133, [(0, .inr (.inr (some 158)))], [.inl (1 : Int32)], Q1)) (C := []) rfl trivial ?_
    exact mw_of (fun _ => mu_ret rfl (Or.inr rfl) ⟨(1 : Int32), Q1, rfl, rfl, u1, ht1, k141, kpl1⟩)
  · -- 6: 109
    exact absurd z (by decide)
theorem pr_adv5E (h : um m H) (e : ud m H = U) (hmo : U.2.2.2.1 99 0 = some m) (hfb16 : (U.1 16).1 < 2147483648) (hlg : max 1 (U.1 16).1 = lg) (hlgb : lg < 2147483648) (hat : U.2.1 158 16 = nI a0) (hab : a0 < 2147483647) (htc : U.2.1 158 10 = nI tc) (htc1 : 1 ≤ tc) (htc2 : tc ≤ 2000) (hsx : (U.2.2.1 158 8).2 (tc - 1) = nI st) (hta : U.2.1 158 14 = 5) (hal : lg ≤ a0) (hG : GRB U T R wn rx mb me) (hW : TLD U T st n W) (hW0 : W 0 = st) (hn : 1 ≤ n) (hnb : n ≤ 16384) : mu_TI (mu_D (d + 6)) 343 [.inr (.inr (some 158))] H (fun x H1 => x = 0 ∧ um m H1 ∧ ur m C H H1 ∧ ∃ V, uq F312 U V ∧ (∀ j, (V.2.2.1 158 8).2 j = if tc ≤ j ∧ j < tc + n ∧ j < 2001 then nI (W (j - tc + 1)) else (U.2.2.1 158 8).2 j) ∧ ud m H1 = upI (upI (upI V 158 10 (nI (tc + (n - 1)))) 158 16 (nI (a0 + 1))) 158 14 0) := by
  refine mu_meth (M := mu_m343) rfl rfl ?_
  refine mw_ht (mu_fn_of (show [0].Nodup by decide)) ?_
  refine mw_go mu_g343 (k := 2) (f1 := (4, [(0, .inr (.inr (some 158)))], [.inl (mu_i H 158 14)], H)) (C := [mu_is H (some 158) 8]) rfl (show mu_is H (some 158) 8 from (h.1.1.is rfl)) ?_
  rw [(show mu_i H 158 14 = (5 : Int32) from (ud_i (U := U) (m := m) (P := 158) (j := 14) e rfl).trans hta)]
  refine mw_tsw2 rfl (by decide) (fun hx => ?_) ⟨fun z => ?_, fun z => ?_, fun z => ?_, fun z => ?_, fun z => ?_, fun z => ?_, trivial⟩
  · -- None: 116
    exact absurd hx (by decide)
  · -- 1: 44
    exact absurd z (by decide)
  · -- 2: 116
    exact absurd z (by decide)
  · -- 3: 116
    exact absurd z (by decide)
  · -- 4: 59
    exact absurd z (by decide)
  · -- 5: 102
    refine mw_go mu_g343 (k := 1) (f1 := (103, [(0, .inr (.inr (some 158)))], [.inr (.inr (some 158))], H)) (C := []) rfl trivial ?_
    refine mw_cV (fun _ => rfl) (show mu_is H (some 158) 8 from (h.1.1.is rfl)) (pr_ringE (d := d) (C := C) h e hmo hfb16 hlg hlgb hat hab htc htc1 htc2 hsx hal hG hW hW0 hn hnb) (fun Q1 q1 => ?_)
    obtain ⟨u1, r1, V1, z1, htr, d1⟩ := q1
    have ht1 : ur m C H Q1 := (ur.refl m C H).trans r1
    refine mw_go mu_g343 (k := 3) (f1 := (125, [(0, .inr (.inr (some 158)))], [.inl (mu_i Q1 158 14)], Q1)) (C := [mu_is Q1 (some 158) 8]) rfl (show mu_is Q1 (some 158) 8 from (u1.1.1.is rfl)) ?_
    rw [(show mu_i Q1 158 14 = (0 : Int32) from (ud_i (U := (upI (upI (upI V1 158 10 (nI (tc + (n - 1)))) 158 16 (nI (a0 + 1))) 158 14 (0 : Int32))) (m := m) (P := 158) (j := 14) d1 rfl))]
    refine mw_if (P := (0 : Int32) = 0) (a := 132) (b := 128) (fun _ => rfl) trivial (fun h2 => ?_) (fun h2 => absurd (by decide) h2)
    refine mw_go mu_g343 (k := 1) (f1 := (133, [(0, .inr (.inr (some 158)))], [.inl (0 : Int32)], Q1)) (C := []) rfl trivial ?_
    exact mw_of (fun _ => mu_ret rfl (Or.inl rfl) ⟨(0 : Int32), Q1, rfl, rfl, u1, ht1, V1, z1, htr, d1⟩)
  · -- 6: 109
    exact absurd z (by decide)
theorem pr_adv5L (h : um m H) (e : ud m H = U) (hmo : U.2.2.2.1 99 0 = some m) (hfb16 : (U.1 16).1 < 2147483648) (hlg : max 1 (U.1 16).1 = lg) (hlgb : lg < 2147483648) (hat : U.2.1 158 16 = nI a0) (hab : a0 < 2147483647) (htc : U.2.1 158 10 = nI tc) (htc1 : 1 ≤ tc) (htc2 : tc ≤ 2000) (hsx : (U.2.2.1 158 8).2 (tc - 1) = nI st) (hta : U.2.1 158 14 = 5) (hal : a0 < lg) (hG : GRB U T R wn rx mb me) (hW : TLD U T st n W) (hW0 : W 0 = st) (hn : 1 ≤ n) (hnb : tc + n ≤ 2000) (hleg : ∀ V Q, uq F312 U V → (∀ j, (V.2.2.1 158 8).2 j = if tc ≤ j ∧ j < tc + n ∧ j < 2001 then nI (W (j - tc + 1)) else (U.2.2.1 158 8).2 j) → um m Q → ud m Q = (upI (upI V 158 10 (nI (tc + n))) 158 16 (nI (a0 + 1))) → mu_TV (mu_D (d + 4)) 347 [.inr (.inr (some 158))] Q (fun H1 => um m H1 ∧ ur m C Q H1 ∧ (ud m H1).2.1 158 14 = 5 ∧ PL V H1)) : mu_TI (mu_D (d + 6)) 343 [.inr (.inr (some 158))] H (fun x H1 => x = 1 ∧ um m H1 ∧ ur m C H H1 ∧ (ud m H1).2.1 158 14 = 5 ∧ ∃ V, uq F312 U V ∧ (∀ j, (V.2.2.1 158 8).2 j = if tc ≤ j ∧ j < tc + n ∧ j < 2001 then nI (W (j - tc + 1)) else (U.2.2.1 158 8).2 j) ∧ PL V H1) := by
  refine mu_meth (M := mu_m343) rfl rfl ?_
  refine mw_ht (mu_fn_of (show [0].Nodup by decide)) ?_
  refine mw_go mu_g343 (k := 2) (f1 := (4, [(0, .inr (.inr (some 158)))], [.inl (mu_i H 158 14)], H)) (C := [mu_is H (some 158) 8]) rfl (show mu_is H (some 158) 8 from (h.1.1.is rfl)) ?_
  rw [(show mu_i H 158 14 = (5 : Int32) from (ud_i (U := U) (m := m) (P := 158) (j := 14) e rfl).trans hta)]
  refine mw_tsw2 rfl (by decide) (fun hx => ?_) ⟨fun z => ?_, fun z => ?_, fun z => ?_, fun z => ?_, fun z => ?_, fun z => ?_, trivial⟩
  · -- None: 116
    exact absurd hx (by decide)
  · -- 1: 44
    exact absurd z (by decide)
  · -- 2: 116
    exact absurd z (by decide)
  · -- 3: 116
    exact absurd z (by decide)
  · -- 4: 59
    exact absurd z (by decide)
  · -- 5: 102
    refine mw_go mu_g343 (k := 1) (f1 := (103, [(0, .inr (.inr (some 158)))], [.inr (.inr (some 158))], H)) (C := []) rfl trivial ?_
    refine mw_cV (fun _ => rfl) (show mu_is H (some 158) 8 from (h.1.1.is rfl)) (pr_ringL (d := d) (C := C) h e hmo hfb16 hlg hlgb hat hab htc htc1 htc2 hsx hal hG hW hW0 hn hnb hleg) (fun Q1 q1 => ?_)
    obtain ⟨u1, r1, k141, V1, z1, htr, kpl1⟩ := q1
    have ht1 : ur m C H Q1 := (ur.refl m C H).trans r1
    refine mw_go mu_g343 (k := 3) (f1 := (125, [(0, .inr (.inr (some 158)))], [.inl (mu_i Q1 158 14)], Q1)) (C := [mu_is Q1 (some 158) 8]) rfl (show mu_is Q1 (some 158) 8 from (u1.1.1.is rfl)) ?_
    rw [(show mu_i Q1 158 14 = (5 : Int32) from (ud_i (U := (ud m Q1)) (m := m) (P := 158) (j := 14) rfl rfl).trans k141)]
    refine mw_if (P := (5 : Int32) = 0) (a := 132) (b := 128) (fun _ => rfl) trivial (fun h2 => absurd h2 (by decide)) (fun h2 => ?_)
    refine mw_go mu_g343 (k := 2) (f1 := (133, [(0, .inr (.inr (some 158)))], [.inl (1 : Int32)], Q1)) (C := []) rfl trivial ?_
    exact mw_of (fun _ => mu_ret rfl (Or.inr rfl) ⟨(1 : Int32), Q1, rfl, rfl, u1, ht1, k141, V1, z1, htr, kpl1⟩)
  · -- 6: 109
    exact absurd z (by decide)
theorem pr_adv5X (h : um m H) (e : ud m H = U) (hmo : U.2.2.2.1 99 0 = some m) (hfb16 : (U.1 16).1 < 2147483648) (hlg : max 1 (U.1 16).1 = lg) (hlgb : lg < 2147483648) (hat : U.2.1 158 16 = nI a0) (hab : a0 < 2147483647) (htc : U.2.1 158 10 = nI tc) (htc1 : 1 ≤ tc) (htc2 : tc ≤ 2000) (hsx : (U.2.2.1 158 8).2 (tc - 1) = nI st) (hta : U.2.1 158 14 = 5) (hal : a0 < lg) (hG : GRB U T R wn rx mb me) (hW : TLD U T st n W) (hW0 : W 0 = st) (hn : 1 ≤ n) (hnb : n ≤ 16384) (hnx : 2000 < tc + n) : mu_TI (mu_D (d + 6)) 343 [.inr (.inr (some 158))] H (fun x H1 => x = 0 ∧ um m H1 ∧ ur m C H H1 ∧ ∃ V, uq F312 U V ∧ (∀ j, (V.2.2.1 158 8).2 j = if tc ≤ j ∧ j < tc + n ∧ j < 2001 then nI (W (j - tc + 1)) else (U.2.2.1 158 8).2 j) ∧ ud m H1 = upI (upI (upI V 158 10 (nI (tc + n))) 158 16 (nI (a0 + 1))) 158 14 0) := by
  refine mu_meth (M := mu_m343) rfl rfl ?_
  refine mw_ht (mu_fn_of (show [0].Nodup by decide)) ?_
  refine mw_go mu_g343 (k := 2) (f1 := (4, [(0, .inr (.inr (some 158)))], [.inl (mu_i H 158 14)], H)) (C := [mu_is H (some 158) 8]) rfl (show mu_is H (some 158) 8 from (h.1.1.is rfl)) ?_
  rw [(show mu_i H 158 14 = (5 : Int32) from (ud_i (U := U) (m := m) (P := 158) (j := 14) e rfl).trans hta)]
  refine mw_tsw2 rfl (by decide) (fun hx => ?_) ⟨fun z => ?_, fun z => ?_, fun z => ?_, fun z => ?_, fun z => ?_, fun z => ?_, trivial⟩
  · -- None: 116
    exact absurd hx (by decide)
  · -- 1: 44
    exact absurd z (by decide)
  · -- 2: 116
    exact absurd z (by decide)
  · -- 3: 116
    exact absurd z (by decide)
  · -- 4: 59
    exact absurd z (by decide)
  · -- 5: 102
    refine mw_go mu_g343 (k := 1) (f1 := (103, [(0, .inr (.inr (some 158)))], [.inr (.inr (some 158))], H)) (C := []) rfl trivial ?_
    refine mw_cV (fun _ => rfl) (show mu_is H (some 158) 8 from (h.1.1.is rfl)) (pr_ringX (d := d) (C := C) h e hmo hfb16 hlg hlgb hat hab htc htc1 htc2 hsx hal hG hW hW0 hn hnb hnx) (fun Q1 q1 => ?_)
    obtain ⟨u1, r1, V1, z1, htr, d1⟩ := q1
    have ht1 : ur m C H Q1 := (ur.refl m C H).trans r1
    refine mw_go mu_g343 (k := 3) (f1 := (125, [(0, .inr (.inr (some 158)))], [.inl (mu_i Q1 158 14)], Q1)) (C := [mu_is Q1 (some 158) 8]) rfl (show mu_is Q1 (some 158) 8 from (u1.1.1.is rfl)) ?_
    rw [(show mu_i Q1 158 14 = (0 : Int32) from (ud_i (U := (upI (upI (upI V1 158 10 (nI (tc + n))) 158 16 (nI (a0 + 1))) 158 14 (0 : Int32))) (m := m) (P := 158) (j := 14) d1 rfl))]
    refine mw_if (P := (0 : Int32) = 0) (a := 132) (b := 128) (fun _ => rfl) trivial (fun h2 => ?_) (fun h2 => absurd (by decide) h2)
    refine mw_go mu_g343 (k := 1) (f1 := (133, [(0, .inr (.inr (some 158)))], [.inl (0 : Int32)], Q1)) (C := []) rfl trivial ?_
    exact mw_of (fun _ => mu_ret rfl (Or.inl rfl) ⟨(0 : Int32), Q1, rfl, rfl, u1, ht1, V1, z1, htr, d1⟩)
  · -- 6: 109
    exact absurd z (by decide)
end Ring
