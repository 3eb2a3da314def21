/-! PROVER: the legs of a ring (startLeg) -/
section Leg
variable {H : mu_H} {U V : Ud} {m d wn g0 g1 T R N fb a0 lg bg tb tc st id sx : Nat} {C : Nat → Nat} {rx mb me : Nat → Nat} {G : Nat → Nat → Prop} {fc : Nat → Int64} {S : Nat → Bool}
def FLEG : Uf := ⟨[], [], [], [], [148, 162], true⟩
/-- a leg is set out for: the goal is laid out in the first set, and what leads there is sought -/
def LEG (U W : Ud) (g : Nat → Prop) (wn : Nat) : Prop := uq FLEG U W ∧ GKP 161 0 U W ∧ ∀ t, t < 64 * wn → (bts (lgf W 161 0) t = true ↔ g t)
theorem bts_z {L : Nat → Int64} {t wn : Nat} (h : ∀ j, j < wn → L j = 0) (ht : t < 64 * wn) : bts L t = false := by
  unfold bts
  rw [h (t / 64) (by omega), btz_0]

/-- PathProver$Prover.startLeg()V -/
abbrev mu_m347 : ev_M := (3, none, [], ev_b347)
theorem mu_g347 : mu_good mu_m347 := mu_goodk ev_k347
theorem pr_legB (h : um m H) (e : ud m H = U) (hmo : U.2.2.2.1 99 0 = some m) (hfb16 : (U.1 16).1 < 2147483648) (hlg : max 1 (U.1 16).1 = lg) (hlgb : lg < 2147483648) (hat : U.2.1 158 16 = nI a0) (hab : a0 < 2147483648) (htc : U.2.1 158 10 = nI tc) (htc1 : 1 ≤ tc) (htc2 : tc ≤ 2001) (hsx : (U.2.2.1 158 8).2 (tc - 1) = nI st) (hw12 : U.2.1 99 12 = nI wn) (hwn : wn ≤ 256) (hl00 : LSN U 161 0 g0 256) (hl10 : LSN U 161 1 g1 256) (hst : st < T) (hTw : T ≤ 64 * wn) (hGR : GRB U T R wn rx mb me) (hN : U.2.1 113 2 = nI N) (hfb : U.2.1 113 8 = nI fb) (hfN : fb ≤ N) (hRN : R = N - fb) (hT1 : ∀ s, s < 64 * wn → bts (lgf U 161 1) s = true → s < T) (hal : lg ≤ a0) (hbg : U.2.1 158 21 = nI bg) (hbg2 : bg < 2001) (htb : (U.2.2.1 158 8).2 bg = nI tb) (htT : tb < T) : mu_TV (mu_D (d + 4)) 347 [.inr (.inr (some 158))] H (fun H1 => um m H1 ∧ ur m C H H1 ∧ ∃ W, LEG U W (fun t => t = tb) wn ∧ uq F314 W (ud m H1) ∧ NK W (ud m H1) ∧ ∃ hh, LPQ (ud m H1) G (fun t => t < T ∧ bts (lgf W 161 1) t = true) (fun t => t < T ∧ bts (lgf W 161 0) t = true) st rx (fun _ => st) (fun _ => 0) (fun _ => 0) T R wn 161 0 g0 1 hh) := by
  have hT0 : ∀ s, s < 64 * wn → (s = tb) → s < T := (fun s hs y => by rw [y]; exact htT)
  refine mu_meth (M := mu_m347) rfl rfl ?_
  refine mw_ht (mu_fn_of (show [0].Nodup by decide)) ?_
  refine mw_go mu_g347 (k := 2) (f1 := (4, [(0, .inr (.inr (some 158)))], [.inr (.inr (mu_r H 158 3))], H)) (C := [mu_is H (some 158) 8]) rfl (show mu_is H (some 158) 8 from (h.1.1.is rfl)) ?_
  rw [(h.1.1.r (p := 158) (j := 3) (q := 161) rfl)]
  refine mw_go mu_g347 (k := 1) (f1 := (5, [(0, .inr (.inr (some 158)))], [.inl (0 : Int32), .inr (.inr (some 161))], H)) (C := []) rfl trivial ?_
  have ka1 : mu_r H 161 0 = some g0 := (dR_pool e (Or.inl rfl) (plp161 (show 0 < 248 by omega))).trans (LSN.ref (show LSN U 161 0 g0 _ from hl00) (Or.inl rfl))
  refine mw_go mu_g347 (k := 1) (f1 := (6, [(0, .inr (.inr (some 158)))], [.inr (.inr (mu_r H 161 (0 : Int32).toNatClampNeg))], H)) (C := [mu_is H (some 161) (mu_k H 161), 103 ≤ mu_k H 161 ∧ mu_k H 161 ≤ 110 ∧ mu_k H 161 ≠ 108, vp_in (0 : Int32) (mu_n H 161)]) rfl (show (mu_is H (some 161) (mu_k H 161)) ∧ (103 ≤ mu_k H 161 ∧ mu_k H 161 ≤ 110 ∧ mu_k H 161 ≠ 108) ∧ (vp_in (0 : Int32) (mu_n H 161)) from ⟨(by have z := (h.1.1.a (p := 161) (x := (104, 248)) rfl).1; rw [show mu_k H 161 = 104 from z.2.2]; exact z), (by have z := (h.1.1.a (p := 161) (x := (104, 248)) rfl).1; rw [show mu_k H 161 = 104 from z.2.2]; decide), (by rw [show mu_n H 161 = 248 from (h.1.1.a (p := 161) (x := (104, 248)) rfl).2]; exact vp_in_nI (n := 0) (by omega) (by decide))⟩) ?_
  rw [show (mu_r H 161 (0 : Int32).toNatClampNeg) = (some g0) from (congrArg (mu_r H 161) (show (0 : Int32).toNatClampNeg = 0 from by decide)).trans ka1]
  refine mw_go mu_g347 (k := 3) (f1 := (11, [(1, .inr (.inr (some g0))), (0, .inr (.inr (some 158)))], [.inr (.inr (mu_r H 158 3))], H)) (C := [mu_is H (some 158) 8]) rfl (show mu_is H (some 158) 8 from (h.1.1.is rfl)) ?_
  rw [(h.1.1.r (p := 158) (j := 3) (q := 161) rfl)]
  refine mw_go mu_g347 (k := 1) (f1 := (12, [(1, .inr (.inr (some g0))), (0, .inr (.inr (some 158)))], [.inl (1 : Int32), .inr (.inr (some 161))], H)) (C := []) rfl trivial ?_
  have ka2 : mu_r H 161 1 = some g1 := (dR_pool e (Or.inl rfl) (plp161 (show 1 < 248 by omega))).trans (LSN.ref (show LSN U 161 1 g1 _ from hl10) (Or.inl rfl))
  refine mw_go mu_g347 (k := 1) (f1 := (13, [(1, .inr (.inr (some g0))), (0, .inr (.inr (some 158)))], [.inr (.inr (mu_r H 161 (1 : Int32).toNatClampNeg))], H)) (C := [mu_is H (some 161) (mu_k H 161), 103 ≤ mu_k H 161 ∧ mu_k H 161 ≤ 110 ∧ mu_k H 161 ≠ 108, vp_in (1 : Int32) (mu_n H 161)]) rfl (show (mu_is H (some 161) (mu_k H 161)) ∧ (103 ≤ mu_k H 161 ∧ mu_k H 161 ≤ 110 ∧ mu_k H 161 ≠ 108) ∧ (vp_in (1 : Int32) (mu_n H 161)) from ⟨(by have z := (h.1.1.a (p := 161) (x := (104, 248)) rfl).1; rw [show mu_k H 161 = 104 from z.2.2]; exact z), (by have z := (h.1.1.a (p := 161) (x := (104, 248)) rfl).1; rw [show mu_k H 161 = 104 from z.2.2]; decide), (by rw [show mu_n H 161 = 248 from (h.1.1.a (p := 161) (x := (104, 248)) rfl).2]; exact vp_in_nI (n := 1) (by omega) (by decide))⟩) ?_
  rw [show (mu_r H 161 (1 : Int32).toNatClampNeg) = (some g1) from (congrArg (mu_r H 161) (show (1 : Int32).toNatClampNeg = 1 from by decide)).trans ka2]
  refine mw_go mu_g347 (k := 3) (f1 := (18, [(2, .inr (.inr (some g1))), (1, .inr (.inr (some g0))), (0, .inr (.inr (some 158)))], [.inl (mu_i H 158 16)], H)) (C := [mu_is H (some 158) 8]) rfl (show mu_is H (some 158) 8 from (h.1.1.is rfl)) ?_
  rw [(show mu_i H 158 16 = (nI a0) from (ud_i (U := U) (m := m) (P := 158) (j := 16) e rfl).trans hat)]
  refine mw_go mu_g347 (k := 1) (f1 := (19, [(2, .inr (.inr (some g1))), (1, .inr (.inr (some g0))), (0, .inr (.inr (some 158)))], [.inr (.inr (some 158)), .inl (nI a0)], H)) (C := []) rfl trivial ?_
  refine mw_cIe (fun _ => rfl) (show mu_is H (some 158) 8 from (h.1.1.is rfl)) (pr_legs (d := (d + 1)) h e hmo hfb16) ?_
  rw [hlg]
  refine mw_if (P := (nI a0) < (nI lg)) (a := 69) (b := 25) (fun _ => rfl) trivial (fun h4 => absurd h4 (fun z => absurd ((nI_ltI (by omega) (by omega)).mp z) (by omega))) (fun h4 => ?_)
  refine mw_go mu_g347 (k := 4) (f1 := (31, [(2, .inr (.inr (some g1))), (1, .inr (.inr (some g0))), (0, .inr (.inr (some 158)))], [.inr (.inr (mu_r H 158 0)), .inl (0 : Int32), .inr (.inr (some g0))], H)) (C := [mu_is H (some 158) 8]) rfl (show mu_is H (some 158) 8 from (h.1.1.is rfl)) ?_
  rw [(h.1.1.r (p := 158) (j := 0) (q := 99) rfl)]
  refine mw_go mu_g347 (k := 1) (f1 := (34, [(2, .inr (.inr (some g1))), (1, .inr (.inr (some g0))), (0, .inr (.inr (some 158)))], [.inl (mu_i H 99 12), .inl (0 : Int32), .inr (.inr (some g0))], H)) (C := [mu_is H (some 99) 13]) rfl (show mu_is H (some 99) 13 from (h.1.1.is rfl)) ?_
  rw [(show mu_i H 99 12 = (nI wn) from (ud_i (U := U) (m := m) (P := 99) (j := 12) e rfl).trans hw12)]
  refine mw_go mu_g347 (k := 1) (f1 := (35, [(2, .inr (.inr (some g1))), (1, .inr (.inr (some g0))), (0, .inr (.inr (some 158)))], [.inr (.inl (0 : Int64)), .inl (nI wn), .inl (0 : Int32), .inr (.inr (some g0))], H)) (C := []) rfl trivial ?_
  refine mw_cV (fun _ => rfl) trivial (ar_fillN (d := (d + 1)) (C := C) (a := 0) (b := wn) (v := 0) h e (show LSN U 161 0 g0 256 from hl00) (Nat.zero_le _) hwn) (fun Q5 q5 => ?_)
  obtain ⟨u5, r5, z5, gk5, gl5, gf5⟩ := q5
  have ht5 : ur m C H Q5 := (ur.refl m C H).trans r5
  obtain ⟨V5, d5⟩ : ∃ V, ud m Q5 = V := ⟨_, rfl⟩
  rw [d5] at z5 gk5 gl5 gf5
  refine mw_go mu_g347 (k := 3) (f1 := (43, [(2, .inr (.inr (some g1))), (1, .inr (.inr (some g0))), (0, .inr (.inr (some 158)))], [.inr (.inr (mu_r Q5 158 8)), .inr (.inr (some g0))], Q5)) (C := [mu_is Q5 (some 158) 8]) rfl (show mu_is Q5 (some 158) 8 from (u5.1.1.is rfl)) ?_
  rw [(u5.1.1.r (p := 158) (j := 8) (q := 165) rfl)]
  refine mw_go mu_g347 (k := 2) (f1 := (47, [(2, .inr (.inr (some g1))), (1, .inr (.inr (some g0))), (0, .inr (.inr (some 158)))], [.inl (mu_i Q5 158 21), .inr (.inr (some 165)), .inr (.inr (some g0))], Q5)) (C := [mu_is Q5 (some 158) 8]) rfl (show mu_is Q5 (some 158) 8 from (u5.1.1.is rfl)) ?_
  rw [(show mu_i Q5 158 21 = (nI bg) from (ud_i (U := V5) (m := m) (P := 158) (j := 21) d5 rfl).trans ((z5.i 158 21 rfl).trans hbg))]
  refine mw_go mu_g347 (k := 1) (f1 := (48, [(2, .inr (.inr (some g1))), (1, .inr (.inr (some g0))), (0, .inr (.inr (some 158)))], [.inl (mu_i Q5 165 (nI bg).toNatClampNeg), .inr (.inr (some g0))], Q5)) (C := [mu_isr Q5 (some 165) 100, vp_in (nI bg) (mu_n Q5 165)]) rfl (show (mu_isr Q5 (some 165) 100) ∧ (vp_in (nI bg) (mu_n Q5 165)) from ⟨((u5.iA d5 rfl rfl ((ud_q (m := m) (P := 158) (j := 8) d5 rfl).symm.trans (u5.1.1.r (p := 158) (j := 8) (q := 165) rfl)))).r, (by rw [show mu_n Q5 165 = 2001 from (u5.1.1.a (p := 165) (x := (100, 2001)) rfl).2]; exact vp_in_nI (n := bg) (by omega) (by decide))⟩) ?_
  rw [(show (mu_i Q5 165 (nI bg).toNatClampNeg) = (nI tb) from ((congrArg (mu_i Q5 165) (show (nI bg).toNatClampNeg = bg from nI_clamp (by omega))).trans (u5.gA d5 rfl rfl ((ud_q (m := m) (P := 158) (j := 8) d5 rfl).symm.trans (u5.1.1.r (p := 158) (j := 8) (q := 165) rfl)))).trans ((congrArg (fun z => z.2 bg) (show V5.2.2.1 158 8 = (U.2.2.1 158 8) from (z5.a 158 8 rfl))).trans htb))]
  refine mw_go mu_g347 (k := 2) (f1 := (51, [(2, .inr (.inr (some g1))), (1, .inr (.inr (some g0))), (0, .inr (.inr (some 158)))], [.inl ((nI tb) >>> ((6 : Int32) &&& 31)), .inr (.inr (some g0))], Q5)) (C := []) rfl trivial ?_
  rw [(show ((nI tb) >>> ((6 : Int32) &&& 31)) = (nI (tb / 64)) from (nI_shr6 (a := tb) (by omega)))]
  refine mw_go mu_g347 (k := 1) (f1 := (52, [(2, .inr (.inr (some g1))), (1, .inr (.inr (some g0))), (0, .inr (.inr (some 158)))], [.inl (nI (tb / 64)), .inr (.inr (some g0)), .inl (nI (tb / 64)), .inr (.inr (some g0))], Q5)) (C := []) rfl trivial ?_
  obtain ⟨kb6, kc6, kd6⟩ := LSN.read u5 d5 (show LSN V5 161 0 g0 256 from (hl00.gk z5 (fun _ => rfl) (fun _ => rfl) gk5.toQ))
  refine mw_go mu_g347 (k := 1) (f1 := (53, [(2, .inr (.inr (some g1))), (1, .inr (.inr (some g0))), (0, .inr (.inr (some 158)))], [.inr (.inl (mu_l Q5 g0 (nI (tb / 64)).toNatClampNeg)), .inl (nI (tb / 64)), .inr (.inr (some g0))], Q5)) (C := [mu_isr Q5 (some g0) 102, vp_in (nI (tb / 64)) (mu_n Q5 g0)]) rfl (show (mu_isr Q5 (some g0) 102) ∧ (vp_in (nI (tb / 64)) (mu_n Q5 g0)) from ⟨kb6.r, (by rw [kc6]; exact vp_in_nI (n := tb / 64) (by omega) (by omega))⟩) ?_
  rw [show (mu_l Q5 g0 (nI (tb / 64)).toNatClampNeg) = (lgf V5 161 0 (tb / 64)) from (congrArg (mu_l Q5 g0) (show (nI (tb / 64)).toNatClampNeg = tb / 64 from nI_clamp (by omega))).trans (kd6 (tb / 64))]
  refine mw_go mu_g347 (k := 3) (f1 := (58, [(2, .inr (.inr (some g1))), (1, .inr (.inr (some g0))), (0, .inr (.inr (some 158)))], [.inr (.inr (mu_r Q5 158 8)), .inr (.inl (1 : Int64)), .inr (.inl (lgf V5 161 0 (tb / 64))), .inl (nI (tb / 64)), .inr (.inr (some g0))], Q5)) (C := [mu_is Q5 (some 158) 8]) rfl (show mu_is Q5 (some 158) 8 from (u5.1.1.is rfl)) ?_
  rw [(u5.1.1.r (p := 158) (j := 8) (q := 165) rfl)]
  refine mw_go mu_g347 (k := 2) (f1 := (62, [(2, .inr (.inr (some g1))), (1, .inr (.inr (some g0))), (0, .inr (.inr (some 158)))], [.inl (mu_i Q5 158 21), .inr (.inr (some 165)), .inr (.inl (1 : Int64)), .inr (.inl (lgf V5 161 0 (tb / 64))), .inl (nI (tb / 64)), .inr (.inr (some g0))], Q5)) (C := [mu_is Q5 (some 158) 8]) rfl (show mu_is Q5 (some 158) 8 from (u5.1.1.is rfl)) ?_
  rw [(show mu_i Q5 158 21 = (nI bg) from (ud_i (U := V5) (m := m) (P := 158) (j := 21) d5 rfl).trans ((z5.i 158 21 rfl).trans hbg))]
  refine mw_go mu_g347 (k := 1) (f1 := (63, [(2, .inr (.inr (some g1))), (1, .inr (.inr (some g0))), (0, .inr (.inr (some 158)))], [.inl (mu_i Q5 165 (nI bg).toNatClampNeg), .inr (.inl (1 : Int64)), .inr (.inl (lgf V5 161 0 (tb / 64))), .inl (nI (tb / 64)), .inr (.inr (some g0))], Q5)) (C := [mu_isr Q5 (some 165) 100, vp_in (nI bg) (mu_n Q5 165)]) rfl (show (mu_isr Q5 (some 165) 100) ∧ (vp_in (nI bg) (mu_n Q5 165)) from ⟨((u5.iA d5 rfl rfl ((ud_q (m := m) (P := 158) (j := 8) d5 rfl).symm.trans (u5.1.1.r (p := 158) (j := 8) (q := 165) rfl)))).r, (by rw [show mu_n Q5 165 = 2001 from (u5.1.1.a (p := 165) (x := (100, 2001)) rfl).2]; exact vp_in_nI (n := bg) (by omega) (by decide))⟩) ?_
  rw [(show (mu_i Q5 165 (nI bg).toNatClampNeg) = (nI tb) from ((congrArg (mu_i Q5 165) (show (nI bg).toNatClampNeg = bg from nI_clamp (by omega))).trans (u5.gA d5 rfl rfl ((ud_q (m := m) (P := 158) (j := 8) d5 rfl).symm.trans (u5.1.1.r (p := 158) (j := 8) (q := 165) rfl)))).trans ((congrArg (fun z => z.2 bg) (show V5.2.2.1 158 8 = (U.2.2.1 158 8) from (z5.a 158 8 rfl))).trans htb))]
  refine mw_go mu_g347 (k := 2) (f1 := (65, [(2, .inr (.inr (some g1))), (1, .inr (.inr (some g0))), (0, .inr (.inr (some 158)))], [.inr (.inl ((lgf V5 161 0 (tb / 64)) ||| ((1 : Int64) <<< ((nI tb).toInt64 &&& 63)))), .inl (nI (tb / 64)), .inr (.inr (some g0))], Q5)) (C := []) rfl trivial ?_
  obtain ⟨kb7, kc7, -⟩ := LSN.read u5 d5 (show LSN V5 161 0 g0 256 from (hl00.gk z5 (fun _ => rfl) (fun _ => rfl) gk5.toQ))
  refine mw_go mu_g347 (k := 1) (f1 := (66, [(2, .inr (.inr (some g1))), (1, .inr (.inr (some g0))), (0, .inr (.inr (some 158)))], [], (mu_sl Q5 g0 (nI (tb / 64)).toNatClampNeg ((lgf V5 161 0 (tb / 64)) ||| ((1 : Int64) <<< ((nI tb).toInt64 &&& 63)))))) (C := [mu_is Q5 (some g0) 102, vp_in (nI (tb / 64)) (mu_n Q5 g0)]) rfl (show (mu_is Q5 (some g0) 102) ∧ (vp_in (nI (tb / 64)) (mu_n Q5 g0)) from ⟨kb7, (by rw [kc7]; exact vp_in_nI (n := tb / 64) (by omega) (by decide))⟩) ?_
  rw [(show (nI (tb / 64)).toNatClampNeg = tb / 64 from nI_clamp (by omega))]
  obtain ⟨u7, r7, z7, gk7, gl7, gf7⟩ := LSN.write (C := C) (k := tb / 64) (v := ((lgf V5 161 0 (tb / 64)) ||| ((1 : Int64) <<< ((nI tb).toInt64 &&& 63)))) u5 d5 (show LSN V5 161 0 g0 256 from (hl00.gk z5 (fun _ => rfl) (fun _ => rfl) gk5.toQ))
  generalize (mu_sl Q5 g0 (tb / 64) ((lgf V5 161 0 (tb / 64)) ||| ((1 : Int64) <<< ((nI tb).toInt64 &&& 63)))) = Q7 at u7 r7 z7 gk7 gl7 gf7 ⊢
  obtain ⟨V7, d7⟩ : ∃ V, ud m Q7 = V := ⟨_, rfl⟩
  rw [d7] at z7 gk7 gl7 gf7
  have ht7 : ur m C H Q7 := ht5.trans r7
  refine mw_go mu_g347 (k := 3) (f1 := (157, [(2, .inr (.inr (some g1))), (1, .inr (.inr (some g0))), (0, .inr (.inr (some 158)))], [.inr (.inr (mu_r Q7 158 1))], Q7)) (C := [mu_is Q7 (some 158) 8]) rfl (show mu_is Q7 (some 158) 8 from (u7.1.1.is rfl)) ?_
  rw [(u7.1.1.r (p := 158) (j := 1) (q := 147) rfl)]
  refine mw_go mu_g347 (k := 2) (f1 := (161, [(2, .inr (.inr (some g1))), (1, .inr (.inr (some g0))), (0, .inr (.inr (some 158)))], [.inr (.inr (mu_r Q7 158 8)), .inr (.inr (some 147))], Q7)) (C := [mu_is Q7 (some 158) 8]) rfl (show mu_is Q7 (some 158) 8 from (u7.1.1.is rfl)) ?_
  rw [(u7.1.1.r (p := 158) (j := 8) (q := 165) rfl)]
  refine mw_go mu_g347 (k := 2) (f1 := (165, [(2, .inr (.inr (some g1))), (1, .inr (.inr (some g0))), (0, .inr (.inr (some 158)))], [.inl (mu_i Q7 158 10), .inr (.inr (some 165)), .inr (.inr (some 147))], Q7)) (C := [mu_is Q7 (some 158) 8]) rfl (show mu_is Q7 (some 158) 8 from (u7.1.1.is rfl)) ?_
  rw [(show mu_i Q7 158 10 = (nI tc) from (ud_i (U := V7) (m := m) (P := 158) (j := 10) d7 rfl).trans ((z7.i 158 10 rfl).trans ((z5.i 158 10 rfl).trans htc)))]
  refine mw_go mu_g347 (k := 2) (f1 := (167, [(2, .inr (.inr (some g1))), (1, .inr (.inr (some g0))), (0, .inr (.inr (some 158)))], [.inl ((nI tc) - (1 : Int32)), .inr (.inr (some 165)), .inr (.inr (some 147))], Q7)) (C := []) rfl trivial ?_
  rw [(show ((nI tc) - (1 : Int32)) = (nI (tc - 1)) from (nI_sub (a := tc) (b := 1) (by omega)))]
  refine mw_go mu_g347 (k := 1) (f1 := (168, [(2, .inr (.inr (some g1))), (1, .inr (.inr (some g0))), (0, .inr (.inr (some 158)))], [.inl (mu_i Q7 165 (nI (tc - 1)).toNatClampNeg), .inr (.inr (some 147))], Q7)) (C := [mu_isr Q7 (some 165) 100, vp_in (nI (tc - 1)) (mu_n Q7 165)]) rfl (show (mu_isr Q7 (some 165) 100) ∧ (vp_in (nI (tc - 1)) (mu_n Q7 165)) from ⟨((u7.iA d7 rfl rfl ((ud_q (m := m) (P := 158) (j := 8) d7 rfl).symm.trans (u7.1.1.r (p := 158) (j := 8) (q := 165) rfl)))).r, (by rw [show mu_n Q7 165 = 2001 from (u7.1.1.a (p := 165) (x := (100, 2001)) rfl).2]; exact vp_in_nI (n := tc - 1) (by omega) (by decide))⟩) ?_
  rw [(show (mu_i Q7 165 (nI (tc - 1)).toNatClampNeg) = (nI st) from ((congrArg (mu_i Q7 165) (show (nI (tc - 1)).toNatClampNeg = tc - 1 from nI_clamp (by omega))).trans (u7.gA d7 rfl rfl ((ud_q (m := m) (P := 158) (j := 8) d7 rfl).symm.trans (u7.1.1.r (p := 158) (j := 8) (q := 165) rfl)))).trans ((congrArg (fun z => z.2 (tc - 1)) (show V7.2.2.1 158 8 = (U.2.2.1 158 8) from ((z7.a 158 8 rfl).trans (z5.a 158 8 rfl)))).trans hsx))]
  refine mw_go mu_g347 (k := 2) (f1 := (170, [(2, .inr (.inr (some g1))), (1, .inr (.inr (some g0))), (0, .inr (.inr (some 158)))], [.inr (.inr (some g0)), .inr (.inr (some g1)), .inl (nI st), .inr (.inr (some 147))], Q7)) (C := []) rfl trivial ?_
  have hqL : uq FLEG U V7 := (uq.refl FLEG U).tr (z5.tr z7 rfl) rfl
  have hgL : GKP 161 0 U V7 := (gk5.trans gk7)
  have hbL : ∀ t, t < 64 * wn → (bts (lgf V7 161 0) t = true ↔ t = tb) := (fun t ht => by rw [show lgf V7 161 0 = fun j => if j = tb / 64 then lgf V5 161 0 (tb / 64) ||| ((1 : Int64) <<< ((nI tb).toInt64 &&& 63)) else lgf V5 161 0 j from funext gf7, bts_seton (by omega), bts_z (wn := wn) (fun j hj => (gf5 j).trans (if_pos ⟨Nat.zero_le _, hj⟩)) ht]; exact ⟨fun y => y.elim (fun q => by cases q) (fun q => q), Or.inr⟩)
  have h1L : lgf V7 161 1 = lgf U 161 1 := lgf_ne hgL.toQ ⟨by decide, fun z => absurd z.2 (by decide)⟩
  refine mw_cV (fun _ => rfl) (show mu_is Q7 (some 147) 2 from (u7.1.1.is rfl)) (gr_lead (d := d) (C := C) (G := G) (T := T) (R := R) (wn := wn) (rx := rx) (mb := mb) (me := me) (N := N) (fb := fb) (ga := 161) (gi := 0) (gb := 161) (gj := 1) (st := st) u7 d7 (hGR.keep (F := FLEG) hqL rfl (NK.of_eq (hqL.a 147 10 rfl))) (show V7.2.1 113 2 = nI N from (hqL.i 113 2 rfl).trans hN) (show V7.2.1 113 8 = nI fb from (hqL.i 113 8 rfl).trans hfb) hfN hRN (show LSN V7 161 0 g0 256 from ((hl00.gk z5 (fun _ => rfl) (fun _ => rfl) gk5.toQ).gk z7 (fun _ => rfl) (fun _ => rfl) gk7.toQ)) (show LSN V7 161 1 g1 256 from ((hl10.gk z5 (fun _ => rfl) (fun _ => rfl) gk5.toQ).gk z7 (fun _ => rfl) (fun _ => rfl) gk7.toQ)) hst (fun s hs y => y.elim (fun y => hT1 s hs (by rw [h1L] at y; exact y)) (fun y => hT0 s hs ((hbL s hs).mp y)))) (fun Q8 q8 => ?_)
  obtain ⟨u8, r8, z8, hnk, hlp⟩ := q8
  have ht8 : ur m C H Q8 := ht7.trans r8
  obtain ⟨V8, d8⟩ : ∃ V, ud m Q8 = V := ⟨_, rfl⟩
  rw [d8] at z8 hnk hlp
  exact mw_of (fun _ => mu_ret rfl trivial ⟨Q8, rfl, u8, ht8, V7, ⟨hqL, hgL, hbL⟩, (by rw [d8]; exact z8), (by rw [d8]; exact hnk), (by rw [d8]; exact hlp)⟩)

theorem pr_legN (h : um m H) (e : ud m H = U) (hmo : U.2.2.2.1 99 0 = some m) (hfb16 : (U.1 16).1 < 2147483648) (hlg : max 1 (U.1 16).1 = lg) (hlgb : lg < 2147483648) (hat : U.2.1 158 16 = nI a0) (hab : a0 < 2147483648) (htc : U.2.1 158 10 = nI tc) (htc1 : 1 ≤ tc) (htc2 : tc ≤ 2001) (hsx : (U.2.2.1 158 8).2 (tc - 1) = nI st) (hw12 : U.2.1 99 12 = nI wn) (hwn : wn ≤ 256) (hl00 : LSN U 161 0 g0 256) (hl10 : LSN U 161 1 g1 256) (hst : st < T) (hTw : T ≤ 64 * wn) (hGR : GRB U T R wn rx mb me) (hN : U.2.1 113 2 = nI N) (hfb : U.2.1 113 8 = nI fb) (hfN : fb ≤ N) (hRN : R = N - fb) (hT1 : ∀ s, s < 64 * wn → bts (lgf U 161 1) s = true → s < T) (hal : a0 < lg) (h160 : (U.1 16).1 = 0) : mu_TV (mu_D (d + 4)) 347 [.inr (.inr (some 158))] H (fun H1 => um m H1 ∧ ur m C H H1 ∧ ∃ W, LEG U W (fun t => bts (lgf U 161 1) t = true) wn ∧ uq F314 W (ud m H1) ∧ NK W (ud m H1) ∧ ∃ hh, LPQ (ud m H1) G (fun t => t < T ∧ bts (lgf W 161 1) t = true) (fun t => t < T ∧ bts (lgf W 161 0) t = true) st rx (fun _ => st) (fun _ => 0) (fun _ => 0) T R wn 161 0 g0 1 hh) := by
  have hT0 : ∀ s, s < 64 * wn → (bts (lgf U 161 1) s = true) → s < T := (fun s hs y => hT1 s hs y)
  refine mu_meth (M := mu_m347) rfl rfl ?_
  refine mw_ht (mu_fn_of (show [0].Nodup by decide)) ?_
  refine mw_go mu_g347 (k := 2) (f1 := (4, [(0, .inr (.inr (some 158)))], [.inr (.inr (mu_r H 158 3))], H)) (C := [mu_is H (some 158) 8]) rfl (show mu_is H (some 158) 8 from (h.1.1.is rfl)) ?_
  rw [(h.1.1.r (p := 158) (j := 3) (q := 161) rfl)]
  refine mw_go mu_g347 (k := 1) (f1 := (5, [(0, .inr (.inr (some 158)))], [.inl (0 : Int32), .inr (.inr (some 161))], H)) (C := []) rfl trivial ?_
  have ka1 : mu_r H 161 0 = some g0 := (dR_pool e (Or.inl rfl) (plp161 (show 0 < 248 by omega))).trans (LSN.ref (show LSN U 161 0 g0 _ from hl00) (Or.inl rfl))
  refine mw_go mu_g347 (k := 1) (f1 := (6, [(0, .inr (.inr (some 158)))], [.inr (.inr (mu_r H 161 (0 : Int32).toNatClampNeg))], H)) (C := [mu_is H (some 161) (mu_k H 161), 103 ≤ mu_k H 161 ∧ mu_k H 161 ≤ 110 ∧ mu_k H 161 ≠ 108, vp_in (0 : Int32) (mu_n H 161)]) rfl (show (mu_is H (some 161) (mu_k H 161)) ∧ (103 ≤ mu_k H 161 ∧ mu_k H 161 ≤ 110 ∧ mu_k H 161 ≠ 108) ∧ (vp_in (0 : Int32) (mu_n H 161)) from ⟨(by have z := (h.1.1.a (p := 161) (x := (104, 248)) rfl).1; rw [show mu_k H 161 = 104 from z.2.2]; exact z), (by have z := (h.1.1.a (p := 161) (x := (104, 248)) rfl).1; rw [show mu_k H 161 = 104 from z.2.2]; decide), (by rw [show mu_n H 161 = 248 from (h.1.1.a (p := 161) (x := (104, 248)) rfl).2]; exact vp_in_nI (n := 0) (by omega) (by decide))⟩) ?_
  rw [show (mu_r H 161 (0 : Int32).toNatClampNeg) = (some g0) from (congrArg (mu_r H 161) (show (0 : Int32).toNatClampNeg = 0 from by decide)).trans ka1]
  refine mw_go mu_g347 (k := 3) (f1 := (11, [(1, .inr (.inr (some g0))), (0, .inr (.inr (some 158)))], [.inr (.inr (mu_r H 158 3))], H)) (C := [mu_is H (some 158) 8]) rfl (show mu_is H (some 158) 8 from (h.1.1.is rfl)) ?_
  rw [(h.1.1.r (p := 158) (j := 3) (q := 161) rfl)]
  refine mw_go mu_g347 (k := 1) (f1 := (12, [(1, .inr (.inr (some g0))), (0, .inr (.inr (some 158)))], [.inl (1 : Int32), .inr (.inr (some 161))], H)) (C := []) rfl trivial ?_
  have ka2 : mu_r H 161 1 = some g1 := (dR_pool e (Or.inl rfl) (plp161 (show 1 < 248 by omega))).trans (LSN.ref (show LSN U 161 1 g1 _ from hl10) (Or.inl rfl))
  refine mw_go mu_g347 (k := 1) (f1 := (13, [(1, .inr (.inr (some g0))), (0, .inr (.inr (some 158)))], [.inr (.inr (mu_r H 161 (1 : Int32).toNatClampNeg))], H)) (C := [mu_is H (some 161) (mu_k H 161), 103 ≤ mu_k H 161 ∧ mu_k H 161 ≤ 110 ∧ mu_k H 161 ≠ 108, vp_in (1 : Int32) (mu_n H 161)]) rfl (show (mu_is H (some 161) (mu_k H 161)) ∧ (103 ≤ mu_k H 161 ∧ mu_k H 161 ≤ 110 ∧ mu_k H 161 ≠ 108) ∧ (vp_in (1 : Int32) (mu_n H 161)) from ⟨(by have z := (h.1.1.a (p := 161) (x := (104, 248)) rfl).1; rw [show mu_k H 161 = 104 from z.2.2]; exact z), (by have z := (h.1.1.a (p := 161) (x := (104, 248)) rfl).1; rw [show mu_k H 161 = 104 from z.2.2]; decide), (by rw [show mu_n H 161 = 248 from (h.1.1.a (p := 161) (x := (104, 248)) rfl).2]; exact vp_in_nI (n := 1) (by omega) (by decide))⟩) ?_
  rw [show (mu_r H 161 (1 : Int32).toNatClampNeg) = (some g1) from (congrArg (mu_r H 161) (show (1 : Int32).toNatClampNeg = 1 from by decide)).trans ka2]
  refine mw_go mu_g347 (k := 3) (f1 := (18, [(2, .inr (.inr (some g1))), (1, .inr (.inr (some g0))), (0, .inr (.inr (some 158)))], [.inl (mu_i H 158 16)], H)) (C := [mu_is H (some 158) 8]) rfl (show mu_is H (some 158) 8 from (h.1.1.is rfl)) ?_
  rw [(show mu_i H 158 16 = (nI a0) from (ud_i (U := U) (m := m) (P := 158) (j := 16) e rfl).trans hat)]
  refine mw_go mu_g347 (k := 1) (f1 := (19, [(2, .inr (.inr (some g1))), (1, .inr (.inr (some g0))), (0, .inr (.inr (some 158)))], [.inr (.inr (some 158)), .inl (nI a0)], H)) (C := []) rfl trivial ?_
  refine mw_cIe (fun _ => rfl) (show mu_is H (some 158) 8 from (h.1.1.is rfl)) (pr_legs (d := (d + 1)) h e hmo hfb16) ?_
  rw [hlg]
  refine mw_if (P := (nI a0) < (nI lg)) (a := 69) (b := 25) (fun _ => rfl) trivial (fun h4 => ?_) (fun h4 => absurd ((nI_ltI (by omega) (by omega)).mpr (by omega)) h4)
  refine mw_go mu_g347 (k := 2) (f1 := (73, [(2, .inr (.inr (some g1))), (1, .inr (.inr (some g0))), (0, .inr (.inr (some 158)))], [.inr (.inr (mu_r H 158 0))], H)) (C := [mu_is H (some 158) 8]) rfl (show mu_is H (some 158) 8 from (h.1.1.is rfl)) ?_
  rw [(h.1.1.r (p := 158) (j := 0) (q := 99) rfl)]
  refine mw_go mu_g347 (k := 1) (f1 := (76, [(2, .inr (.inr (some g1))), (1, .inr (.inr (some g0))), (0, .inr (.inr (some 158)))], [.inr (.inr (mu_r H 99 0))], H)) (C := [mu_is H (some 99) 13]) rfl (show mu_is H (some 99) 13 from (h.1.1.is rfl)) ?_
  rw [(show mu_r H 99 0 = (some m) from (ud_q (U := U) (m := m) (P := 99) (j := 0) e rfl).trans hmo)]
  refine mw_go mu_g347 (k := 1) (f1 := (79, [(2, .inr (.inr (some g1))), (1, .inr (.inr (some g0))), (0, .inr (.inr (some 158)))], [.inr (.inr (mu_r H m 16))], H)) (C := [mu_is H (some m) 6]) rfl (show mu_is H (some m) 6 from (show mu_is H (some m) 6 from gi_im h.1.1 h.2)) ?_
  rw [(show mu_r H m 16 = some (m + 33) from (gi_mr h.1.1 h.2 (j := 16) (by decide)).trans (congrArg some (by omega)))]
  refine mw_go mu_g347 (k := 1) (f1 := (82, [(2, .inr (.inr (some g1))), (1, .inr (.inr (some g0))), (0, .inr (.inr (some 158)))], [.inl (mu_i H (m + 33) 2)], H)) (C := [mu_is H (some (m + 33)) 10]) rfl (show mu_is H (some (m + 33)) 10 from ((h.1.1.w (md_w16 h.2)).1)) ?_
  rw [(show mu_i H (m + 33) 2 = (nI (U.1 16).1) from (h.size e (j := 16) (by decide) rfl).trans (congrArg (fun z => nI z.1) (show U.1 16 = (U.1 16) from rfl)))]
  refine mw_if (P := (nI (U.1 16).1) = 0) (a := 85) (b := 102) (fun _ => rfl) trivial (fun h5 => ?_) (fun h5 => absurd (by rw [h160]; rfl) h5)
  refine mw_go mu_g347 (k := 6) (f1 := (93, [(2, .inr (.inr (some g1))), (1, .inr (.inr (some g0))), (0, .inr (.inr (some 158)))], [.inr (.inr (mu_r H 158 0)), .inl (0 : Int32), .inr (.inr (some g0)), .inl (0 : Int32), .inr (.inr (some g1))], H)) (C := [mu_is H (some 158) 8]) rfl (show mu_is H (some 158) 8 from (h.1.1.is rfl)) ?_
  rw [(h.1.1.r (p := 158) (j := 0) (q := 99) rfl)]
  refine mw_go mu_g347 (k := 1) (f1 := (96, [(2, .inr (.inr (some g1))), (1, .inr (.inr (some g0))), (0, .inr (.inr (some 158)))], [.inl (mu_i H 99 12), .inl (0 : Int32), .inr (.inr (some g0)), .inl (0 : Int32), .inr (.inr (some g1))], H)) (C := [mu_is H (some 99) 13]) rfl (show mu_is H (some 99) 13 from (h.1.1.is rfl)) ?_
  rw [(show mu_i H 99 12 = (nI wn) from (ud_i (U := U) (m := m) (P := 99) (j := 12) e rfl).trans hw12)]
  obtain ⟨ca6, cb6, -⟩ := LSN.read h e (show LSN U 161 1 g1 256 from hl10)
  obtain ⟨ce6, cf6, -⟩ := LSN.read h e (show LSN U 161 0 g0 256 from hl00)
  refine mw_copyL rfl (show mu_is H (some g1) 102 from ca6) (show mu_is H (some g0) 102 from ce6) (by decide) (by decide) (nI_pos (by omega)) (by rw [show mu_n H (mu_p (some g1)) = 256 from cb6, (show (0 : Int32).toNatClampNeg = 0 from by decide), (show (nI wn).toNatClampNeg = wn from nI_clamp (by omega))]; omega) (by rw [show mu_n H (mu_p (some g0)) = 256 from cf6, (show (0 : Int32).toNatClampNeg = 0 from by decide), (show (nI wn).toNatClampNeg = wn from nI_clamp (by omega))]; omega) (by decide) ?_
  rw [(show (0 : Int32).toNatClampNeg = 0 from by decide), (show (nI wn).toNatClampNeg = wn from nI_clamp (by omega))]
  show mu_W _ _ (99, [(2, .inr (.inr (some g1))), (1, .inr (.inr (some g0))), (0, .inr (.inr (some 158)))], [], (mu_cpl H g1 0 g0 0 wn)) _
  obtain ⟨u6, r6, z6, gk6, gl6, gf6⟩ := LSN.copy (C := C) (n := wn) h e (show LSN U 161 1 g1 256 from hl10) (show LSN U 161 0 g0 256 from hl00)
  generalize (mu_cpl H g1 0 g0 0 wn) = Q6 at u6 r6 z6 gk6 gl6 gf6 ⊢
  obtain ⟨V6, d6⟩ : ∃ V, ud m Q6 = V := ⟨_, rfl⟩
  rw [d6] at z6 gk6 gl6 gf6
  have ht6 : ur m C H Q6 := (ur.refl m C H).trans r6
  refine mw_go mu_g347 (k := 3) (f1 := (157, [(2, .inr (.inr (some g1))), (1, .inr (.inr (some g0))), (0, .inr (.inr (some 158)))], [.inr (.inr (mu_r Q6 158 1))], Q6)) (C := [mu_is Q6 (some 158) 8]) rfl (show mu_is Q6 (some 158) 8 from (u6.1.1.is rfl)) ?_
  rw [(u6.1.1.r (p := 158) (j := 1) (q := 147) rfl)]
  refine mw_go mu_g347 (k := 2) (f1 := (161, [(2, .inr (.inr (some g1))), (1, .inr (.inr (some g0))), (0, .inr (.inr (some 158)))], [.inr (.inr (mu_r Q6 158 8)), .inr (.inr (some 147))], Q6)) (C := [mu_is Q6 (some 158) 8]) rfl (show mu_is Q6 (some 158) 8 from (u6.1.1.is rfl)) ?_
  rw [(u6.1.1.r (p := 158) (j := 8) (q := 165) rfl)]
  refine mw_go mu_g347 (k := 2) (f1 := (165, [(2, .inr (.inr (some g1))), (1, .inr (.inr (some g0))), (0, .inr (.inr (some 158)))], [.inl (mu_i Q6 158 10), .inr (.inr (some 165)), .inr (.inr (some 147))], Q6)) (C := [mu_is Q6 (some 158) 8]) rfl (show mu_is Q6 (some 158) 8 from (u6.1.1.is rfl)) ?_
  rw [(show mu_i Q6 158 10 = (nI tc) from (ud_i (U := V6) (m := m) (P := 158) (j := 10) d6 rfl).trans ((z6.i 158 10 rfl).trans htc))]
  refine mw_go mu_g347 (k := 2) (f1 := (167, [(2, .inr (.inr (some g1))), (1, .inr (.inr (some g0))), (0, .inr (.inr (some 158)))], [.inl ((nI tc) - (1 : Int32)), .inr (.inr (some 165)), .inr (.inr (some 147))], Q6)) (C := []) rfl trivial ?_
  rw [(show ((nI tc) - (1 : Int32)) = (nI (tc - 1)) from (nI_sub (a := tc) (b := 1) (by omega)))]
  refine mw_go mu_g347 (k := 1) (f1 := (168, [(2, .inr (.inr (some g1))), (1, .inr (.inr (some g0))), (0, .inr (.inr (some 158)))], [.inl (mu_i Q6 165 (nI (tc - 1)).toNatClampNeg), .inr (.inr (some 147))], Q6)) (C := [mu_isr Q6 (some 165) 100, vp_in (nI (tc - 1)) (mu_n Q6 165)]) rfl (show (mu_isr Q6 (some 165) 100) ∧ (vp_in (nI (tc - 1)) (mu_n Q6 165)) from ⟨((u6.iA d6 rfl rfl ((ud_q (m := m) (P := 158) (j := 8) d6 rfl).symm.trans (u6.1.1.r (p := 158) (j := 8) (q := 165) rfl)))).r, (by rw [show mu_n Q6 165 = 2001 from (u6.1.1.a (p := 165) (x := (100, 2001)) rfl).2]; exact vp_in_nI (n := tc - 1) (by omega) (by decide))⟩) ?_
  rw [(show (mu_i Q6 165 (nI (tc - 1)).toNatClampNeg) = (nI st) from ((congrArg (mu_i Q6 165) (show (nI (tc - 1)).toNatClampNeg = tc - 1 from nI_clamp (by omega))).trans (u6.gA d6 rfl rfl ((ud_q (m := m) (P := 158) (j := 8) d6 rfl).symm.trans (u6.1.1.r (p := 158) (j := 8) (q := 165) rfl)))).trans ((congrArg (fun z => z.2 (tc - 1)) (show V6.2.2.1 158 8 = (U.2.2.1 158 8) from (z6.a 158 8 rfl))).trans hsx))]
  refine mw_go mu_g347 (k := 2) (f1 := (170, [(2, .inr (.inr (some g1))), (1, .inr (.inr (some g0))), (0, .inr (.inr (some 158)))], [.inr (.inr (some g0)), .inr (.inr (some g1)), .inl (nI st), .inr (.inr (some 147))], Q6)) (C := []) rfl trivial ?_
  have hqL : uq FLEG U V6 := (uq.refl FLEG U).tr z6 rfl
  have hgL : GKP 161 0 U V6 := gk6
  have hbL : ∀ t, t < 64 * wn → (bts (lgf V6 161 0) t = true ↔ bts (lgf U 161 1) t = true) := (fun t ht => by unfold bts; rw [gf6, if_pos (show t / 64 < wn by omega)])
  have h1L : lgf V6 161 1 = lgf U 161 1 := lgf_ne hgL.toQ ⟨by decide, fun z => absurd z.2 (by decide)⟩
  refine mw_cV (fun _ => rfl) (show mu_is Q6 (some 147) 2 from (u6.1.1.is rfl)) (gr_lead (d := d) (C := C) (G := G) (T := T) (R := R) (wn := wn) (rx := rx) (mb := mb) (me := me) (N := N) (fb := fb) (ga := 161) (gi := 0) (gb := 161) (gj := 1) (st := st) u6 d6 (hGR.keep (F := FLEG) hqL rfl (NK.of_eq (hqL.a 147 10 rfl))) (show V6.2.1 113 2 = nI N from (hqL.i 113 2 rfl).trans hN) (show V6.2.1 113 8 = nI fb from (hqL.i 113 8 rfl).trans hfb) hfN hRN (show LSN V6 161 0 g0 256 from (hl00.gk z6 (fun _ => rfl) (fun _ => rfl) gk6.toQ)) (show LSN V6 161 1 g1 256 from (hl10.gk z6 (fun _ => rfl) (fun _ => rfl) gk6.toQ)) hst (fun s hs y => y.elim (fun y => hT1 s hs (by rw [h1L] at y; exact y)) (fun y => hT0 s hs ((hbL s hs).mp y)))) (fun Q7 q7 => ?_)
  obtain ⟨u7, r7, z7, hnk, hlp⟩ := q7
  have ht7 : ur m C H Q7 := ht6.trans r7
  obtain ⟨V7, d7⟩ : ∃ V, ud m Q7 = V := ⟨_, rfl⟩
  rw [d7] at z7 hnk hlp
  exact mw_of (fun _ => mu_ret rfl trivial ⟨Q7, rfl, u7, ht7, V6, ⟨hqL, hgL, hbL⟩, (by rw [d7]; exact z7), (by rw [d7]; exact hnk), (by rw [d7]; exact hlp)⟩)

theorem pr_legF (h : um m H) (e : ud m H = U) (hmo : U.2.2.2.1 99 0 = some m) (hfb16 : (U.1 16).1 < 2147483648) (hlg : max 1 (U.1 16).1 = lg) (hlgb : lg < 2147483648) (hat : U.2.1 158 16 = nI a0) (hab : a0 < 2147483648) (htc : U.2.1 158 10 = nI tc) (htc1 : 1 ≤ tc) (htc2 : tc ≤ 2001) (hsx : (U.2.2.1 158 8).2 (tc - 1) = nI st) (hw12 : U.2.1 99 12 = nI wn) (hwn : wn ≤ 256) (hl00 : LSN U 161 0 g0 256) (hl10 : LSN U 161 1 g1 256) (hst : st < T) (hTw : T ≤ 64 * wn) (hGR : GRB U T R wn rx mb me) (hN : U.2.1 113 2 = nI N) (hfb : U.2.1 113 8 = nI fb) (hfN : fb ≤ N) (hRN : R = N - fb) (hT1 : ∀ s, s < 64 * wn → bts (lgf U 161 1) s = true → s < T) (hal : a0 < lg) (h160 : ¬ (U.1 16).1 = 0) (hid : (U.1 16).2 a0 3 = nI id) (hsat : sat U id sx fc) (hstz : stz fc sx S) (hSx : ∀ x, S x = true → x < 16384) : mu_TV (mu_D (d + 4)) 347 [.inr (.inr (some 158))] H (fun H1 => um m H1 ∧ ur m C H H1 ∧ ∃ W, LEG U W (fun t => S t = true ∧ bts (lgf U 161 1) t = true) wn ∧ uq F314 W (ud m H1) ∧ NK W (ud m H1) ∧ ∃ hh, LPQ (ud m H1) G (fun t => t < T ∧ bts (lgf W 161 1) t = true) (fun t => t < T ∧ bts (lgf W 161 0) t = true) st rx (fun _ => st) (fun _ => 0) (fun _ => 0) T R wn 161 0 g0 1 hh) := by
  have hT0 : ∀ s, s < 64 * wn → (S s = true ∧ bts (lgf U 161 1) s = true) → s < T := (fun s hs y => hT1 s hs y.2)
  refine mu_meth (M := mu_m347) rfl rfl ?_
  refine mw_ht (mu_fn_of (show [0].Nodup by decide)) ?_
  refine mw_go mu_g347 (k := 2) (f1 := (4, [(0, .inr (.inr (some 158)))], [.inr (.inr (mu_r H 158 3))], H)) (C := [mu_is H (some 158) 8]) rfl (show mu_is H (some 158) 8 from (h.1.1.is rfl)) ?_
  rw [(h.1.1.r (p := 158) (j := 3) (q := 161) rfl)]
  refine mw_go mu_g347 (k := 1) (f1 := (5, [(0, .inr (.inr (some 158)))], [.inl (0 : Int32), .inr (.inr (some 161))], H)) (C := []) rfl trivial ?_
  have ka1 : mu_r H 161 0 = some g0 := (dR_pool e (Or.inl rfl) (plp161 (show 0 < 248 by omega))).trans (LSN.ref (show LSN U 161 0 g0 _ from hl00) (Or.inl rfl))
  refine mw_go mu_g347 (k := 1) (f1 := (6, [(0, .inr (.inr (some 158)))], [.inr (.inr (mu_r H 161 (0 : Int32).toNatClampNeg))], H)) (C := [mu_is H (some 161) (mu_k H 161), 103 ≤ mu_k H 161 ∧ mu_k H 161 ≤ 110 ∧ mu_k H 161 ≠ 108, vp_in (0 : Int32) (mu_n H 161)]) rfl (show (mu_is H (some 161) (mu_k H 161)) ∧ (103 ≤ mu_k H 161 ∧ mu_k H 161 ≤ 110 ∧ mu_k H 161 ≠ 108) ∧ (vp_in (0 : Int32) (mu_n H 161)) from ⟨(by have z := (h.1.1.a (p := 161) (x := (104, 248)) rfl).1; rw [show mu_k H 161 = 104 from z.2.2]; exact z), (by have z := (h.1.1.a (p := 161) (x := (104, 248)) rfl).1; rw [show mu_k H 161 = 104 from z.2.2]; decide), (by rw [show mu_n H 161 = 248 from (h.1.1.a (p := 161) (x := (104, 248)) rfl).2]; exact vp_in_nI (n := 0) (by omega) (by decide))⟩) ?_
  rw [show (mu_r H 161 (0 : Int32).toNatClampNeg) = (some g0) from (congrArg (mu_r H 161) (show (0 : Int32).toNatClampNeg = 0 from by decide)).trans ka1]
  refine mw_go mu_g347 (k := 3) (f1 := (11, [(1, .inr (.inr (some g0))), (0, .inr (.inr (some 158)))], [.inr (.inr (mu_r H 158 3))], H)) (C := [mu_is H (some 158) 8]) rfl (show mu_is H (some 158) 8 from (h.1.1.is rfl)) ?_
  rw [(h.1.1.r (p := 158) (j := 3) (q := 161) rfl)]
  refine mw_go mu_g347 (k := 1) (f1 := (12, [(1, .inr (.inr (some g0))), (0, .inr (.inr (some 158)))], [.inl (1 : Int32), .inr (.inr (some 161))], H)) (C := []) rfl trivial ?_
  have ka2 : mu_r H 161 1 = some g1 := (dR_pool e (Or.inl rfl) (plp161 (show 1 < 248 by omega))).trans (LSN.ref (show LSN U 161 1 g1 _ from hl10) (Or.inl rfl))
  refine mw_go mu_g347 (k := 1) (f1 := (13, [(1, .inr (.inr (some g0))), (0, .inr (.inr (some 158)))], [.inr (.inr (mu_r H 161 (1 : Int32).toNatClampNeg))], H)) (C := [mu_is H (some 161) (mu_k H 161), 103 ≤ mu_k H 161 ∧ mu_k H 161 ≤ 110 ∧ mu_k H 161 ≠ 108, vp_in (1 : Int32) (mu_n H 161)]) rfl (show (mu_is H (some 161) (mu_k H 161)) ∧ (103 ≤ mu_k H 161 ∧ mu_k H 161 ≤ 110 ∧ mu_k H 161 ≠ 108) ∧ (vp_in (1 : Int32) (mu_n H 161)) from ⟨(by have z := (h.1.1.a (p := 161) (x := (104, 248)) rfl).1; rw [show mu_k H 161 = 104 from z.2.2]; exact z), (by have z := (h.1.1.a (p := 161) (x := (104, 248)) rfl).1; rw [show mu_k H 161 = 104 from z.2.2]; decide), (by rw [show mu_n H 161 = 248 from (h.1.1.a (p := 161) (x := (104, 248)) rfl).2]; exact vp_in_nI (n := 1) (by omega) (by decide))⟩) ?_
  rw [show (mu_r H 161 (1 : Int32).toNatClampNeg) = (some g1) from (congrArg (mu_r H 161) (show (1 : Int32).toNatClampNeg = 1 from by decide)).trans ka2]
  refine mw_go mu_g347 (k := 3) (f1 := (18, [(2, .inr (.inr (some g1))), (1, .inr (.inr (some g0))), (0, .inr (.inr (some 158)))], [.inl (mu_i H 158 16)], H)) (C := [mu_is H (some 158) 8]) rfl (show mu_is H (some 158) 8 from (h.1.1.is rfl)) ?_
  rw [(show mu_i H 158 16 = (nI a0) from (ud_i (U := U) (m := m) (P := 158) (j := 16) e rfl).trans hat)]
  refine mw_go mu_g347 (k := 1) (f1 := (19, [(2, .inr (.inr (some g1))), (1, .inr (.inr (some g0))), (0, .inr (.inr (some 158)))], [.inr (.inr (some 158)), .inl (nI a0)], H)) (C := []) rfl trivial ?_
  refine mw_cIe (fun _ => rfl) (show mu_is H (some 158) 8 from (h.1.1.is rfl)) (pr_legs (d := (d + 1)) h e hmo hfb16) ?_
  rw [hlg]
  refine mw_if (P := (nI a0) < (nI lg)) (a := 69) (b := 25) (fun _ => rfl) trivial (fun h4 => ?_) (fun h4 => absurd ((nI_ltI (by omega) (by omega)).mpr (by omega)) h4)
  refine mw_go mu_g347 (k := 2) (f1 := (73, [(2, .inr (.inr (some g1))), (1, .inr (.inr (some g0))), (0, .inr (.inr (some 158)))], [.inr (.inr (mu_r H 158 0))], H)) (C := [mu_is H (some 158) 8]) rfl (show mu_is H (some 158) 8 from (h.1.1.is rfl)) ?_
  rw [(h.1.1.r (p := 158) (j := 0) (q := 99) rfl)]
  refine mw_go mu_g347 (k := 1) (f1 := (76, [(2, .inr (.inr (some g1))), (1, .inr (.inr (some g0))), (0, .inr (.inr (some 158)))], [.inr (.inr (mu_r H 99 0))], H)) (C := [mu_is H (some 99) 13]) rfl (show mu_is H (some 99) 13 from (h.1.1.is rfl)) ?_
  rw [(show mu_r H 99 0 = (some m) from (ud_q (U := U) (m := m) (P := 99) (j := 0) e rfl).trans hmo)]
  refine mw_go mu_g347 (k := 1) (f1 := (79, [(2, .inr (.inr (some g1))), (1, .inr (.inr (some g0))), (0, .inr (.inr (some 158)))], [.inr (.inr (mu_r H m 16))], H)) (C := [mu_is H (some m) 6]) rfl (show mu_is H (some m) 6 from (show mu_is H (some m) 6 from gi_im h.1.1 h.2)) ?_
  rw [(show mu_r H m 16 = some (m + 33) from (gi_mr h.1.1 h.2 (j := 16) (by decide)).trans (congrArg some (by omega)))]
  refine mw_go mu_g347 (k := 1) (f1 := (82, [(2, .inr (.inr (some g1))), (1, .inr (.inr (some g0))), (0, .inr (.inr (some 158)))], [.inl (mu_i H (m + 33) 2)], H)) (C := [mu_is H (some (m + 33)) 10]) rfl (show mu_is H (some (m + 33)) 10 from ((h.1.1.w (md_w16 h.2)).1)) ?_
  rw [(show mu_i H (m + 33) 2 = (nI (U.1 16).1) from (h.size e (j := 16) (by decide) rfl).trans (congrArg (fun z => nI z.1) (show U.1 16 = (U.1 16) from rfl)))]
  refine mw_if (P := (nI (U.1 16).1) = 0) (a := 85) (b := 102) (fun _ => rfl) trivial (fun h5 => absurd h5 (fun z => absurd ((nI_eq (b := 0) (by omega) (by decide)).mp z) (by omega))) (fun h5 => ?_)
  refine mw_go mu_g347 (k := 4) (f1 := (108, [(2, .inr (.inr (some g1))), (1, .inr (.inr (some g0))), (0, .inr (.inr (some 158)))], [.inr (.inr (mu_r H 158 0)), .inl (0 : Int32), .inr (.inr (some g0))], H)) (C := [mu_is H (some 158) 8]) rfl (show mu_is H (some 158) 8 from (h.1.1.is rfl)) ?_
  rw [(h.1.1.r (p := 158) (j := 0) (q := 99) rfl)]
  refine mw_go mu_g347 (k := 1) (f1 := (111, [(2, .inr (.inr (some g1))), (1, .inr (.inr (some g0))), (0, .inr (.inr (some 158)))], [.inl (mu_i H 99 12), .inl (0 : Int32), .inr (.inr (some g0))], H)) (C := [mu_is H (some 99) 13]) rfl (show mu_is H (some 99) 13 from (h.1.1.is rfl)) ?_
  rw [(show mu_i H 99 12 = (nI wn) from (ud_i (U := U) (m := m) (P := 99) (j := 12) e rfl).trans hw12)]
  refine mw_go mu_g347 (k := 1) (f1 := (112, [(2, .inr (.inr (some g1))), (1, .inr (.inr (some g0))), (0, .inr (.inr (some 158)))], [.inr (.inl (0 : Int64)), .inl (nI wn), .inl (0 : Int32), .inr (.inr (some g0))], H)) (C := []) rfl trivial ?_
  refine mw_cV (fun _ => rfl) trivial (ar_fillN (d := (d + 1)) (C := C) (a := 0) (b := wn) (v := 0) h e (show LSN U 161 0 g0 256 from hl00) (Nat.zero_le _) hwn) (fun Q6 q6 => ?_)
  obtain ⟨u6, r6, z6, gk6, gl6, gf6⟩ := q6
  have ht6 : ur m C H Q6 := (ur.refl m C H).trans r6
  obtain ⟨V6, d6⟩ : ∃ V, ud m Q6 = V := ⟨_, rfl⟩
  rw [d6] at z6 gk6 gl6 gf6
  refine mw_go mu_g347 (k := 2) (f1 := (119, [(2, .inr (.inr (some g1))), (1, .inr (.inr (some g0))), (0, .inr (.inr (some 158)))], [.inr (.inr (mu_r Q6 158 0))], Q6)) (C := [mu_is Q6 (some 158) 8]) rfl (show mu_is Q6 (some 158) 8 from (u6.1.1.is rfl)) ?_
  rw [(u6.1.1.r (p := 158) (j := 0) (q := 99) rfl)]
  refine mw_go mu_g347 (k := 1) (f1 := (122, [(2, .inr (.inr (some g1))), (1, .inr (.inr (some g0))), (0, .inr (.inr (some 158)))], [.inr (.inr (mu_r Q6 99 2))], Q6)) (C := [mu_is Q6 (some 99) 13]) rfl (show mu_is Q6 (some 99) 13 from (u6.1.1.is rfl)) ?_
  rw [(u6.1.1.r (p := 99) (j := 2) (q := 113) rfl)]
  refine mw_go mu_g347 (k := 2) (f1 := (126, [(2, .inr (.inr (some g1))), (1, .inr (.inr (some g0))), (0, .inr (.inr (some 158)))], [.inr (.inr (mu_r Q6 158 0)), .inr (.inr (some 113))], Q6)) (C := [mu_is Q6 (some 158) 8]) rfl (show mu_is Q6 (some 158) 8 from (u6.1.1.is rfl)) ?_
  rw [(u6.1.1.r (p := 158) (j := 0) (q := 99) rfl)]
  refine mw_go mu_g347 (k := 1) (f1 := (129, [(2, .inr (.inr (some g1))), (1, .inr (.inr (some g0))), (0, .inr (.inr (some 158)))], [.inr (.inr (mu_r Q6 99 0)), .inr (.inr (some 113))], Q6)) (C := [mu_is Q6 (some 99) 13]) rfl (show mu_is Q6 (some 99) 13 from (u6.1.1.is rfl)) ?_
  rw [(show mu_r Q6 99 0 = (some m) from (ud_q (U := V6) (m := m) (P := 99) (j := 0) d6 rfl).trans ((z6.r 99 0 rfl).trans hmo))]
  refine mw_go mu_g347 (k := 1) (f1 := (132, [(2, .inr (.inr (some g1))), (1, .inr (.inr (some g0))), (0, .inr (.inr (some 158)))], [.inr (.inr (mu_r Q6 m 16)), .inr (.inr (some 113))], Q6)) (C := [mu_is Q6 (some m) 6]) rfl (show mu_is Q6 (some m) 6 from (show mu_is Q6 (some m) 6 from gi_im u6.1.1 u6.2)) ?_
  rw [(show mu_r Q6 m 16 = some (m + 33) from (gi_mr u6.1.1 u6.2 (j := 16) (by decide)).trans (congrArg some (by omega)))]
  refine mw_go mu_g347 (k := 2) (f1 := (136, [(2, .inr (.inr (some g1))), (1, .inr (.inr (some g0))), (0, .inr (.inr (some 158)))], [.inl (mu_i Q6 158 16), .inr (.inr (some (m + 33))), .inr (.inr (some 113))], Q6)) (C := [mu_is Q6 (some 158) 8]) rfl (show mu_is Q6 (some 158) 8 from (u6.1.1.is rfl)) ?_
  rw [(show mu_i Q6 158 16 = (nI a0) from (ud_i (U := V6) (m := m) (P := 158) (j := 16) d6 rfl).trans ((z6.i 158 16 rfl).trans hat))]
  refine mw_go mu_g347 (k := 1) (f1 := (137, [(2, .inr (.inr (some g1))), (1, .inr (.inr (some g0))), (0, .inr (.inr (some 158)))], [.inl (3 : Int32), .inl (nI a0), .inr (.inr (some (m + 33))), .inr (.inr (some 113))], Q6)) (C := []) rfl trivial ?_
  refine mw_cIe (fun _ => rfl) (show mu_is Q6 (some (m + 33)) 10 from ((u6.1.1.w (md_w16 u6.2)).1)) (u6.getr (d := (d + 2)) d6 (j := 16) (by decide) rfl (nI a0) (c := 3) (by decide)) ?_
  rw [show (tget (V6.1 16) (nI a0) 3) = (nI id) from ((congrArg (fun z => tget z (nI a0) 3) (show V6.1 16 = (U.1 16) from (z6.t 16 rfl))).trans (tget_nI (by first | omega | decide))).trans (show (U.1 16).2 a0 3 = _ from hid)]
  refine mw_go mu_g347 (k := 1) (f1 := (141, [(2, .inr (.inr (some g1))), (1, .inr (.inr (some g0))), (0, .inr (.inr (some 158)))], [.inr (.inr (some g0)), .inl (nI id), .inr (.inr (some 113))], Q6)) (C := []) rfl trivial ?_
  refine mw_cV (fun _ => rfl) (show mu_is Q6 (some 113) 11 from (u6.1.1.is rfl)) (st_unpN (d := d) (C := C) (S := S) (id := id) u6 d6 (hsat.g z6 rfl gk6 (by decide)) (show LSN V6 161 0 g0 256 from (hl00.gk z6 (fun _ => rfl) (fun _ => rfl) gk6.toQ)) hstz hSx) (fun Q8 q8 => ?_)
  obtain ⟨u8, r8, z8, gk8, gl8, gf8⟩ := q8
  have ht8 : ur m C H Q8 := ht6.trans r8
  obtain ⟨V8, d8⟩ : ∃ V, ud m Q8 = V := ⟨_, rfl⟩
  rw [d8] at z8 gk8 gl8 gf8
  refine mw_go mu_g347 (k := 2) (f1 := (148, [(2, .inr (.inr (some g1))), (1, .inr (.inr (some g0))), (0, .inr (.inr (some 158)))], [.inr (.inr (mu_r Q8 158 0))], Q8)) (C := [mu_is Q8 (some 158) 8]) rfl (show mu_is Q8 (some 158) 8 from (u8.1.1.is rfl)) ?_
  rw [(u8.1.1.r (p := 158) (j := 0) (q := 99) rfl)]
  refine mw_go mu_g347 (k := 2) (f1 := (150, [(2, .inr (.inr (some g1))), (1, .inr (.inr (some g0))), (0, .inr (.inr (some 158)))], [.inr (.inr (some g1)), .inr (.inr (some g0)), .inr (.inr (some 99))], Q8)) (C := []) rfl trivial ?_
  refine mw_cV (fun _ => rfl) (show mu_is Q8 (some 99) 13 from (u8.1.1.is rfl)) (sp_common2 (d := (d + 2)) (C := C) (wn := wn) (jo := 0) (jb := 1) u8 d8 (show V8.2.1 99 12 = nI wn from ((z8.i 99 12 rfl).trans ((z6.i 99 12 rfl).trans hw12))) hwn (show LSN V8 161 0 g0 256 from ((hl00.gk z6 (fun _ => rfl) (fun _ => rfl) gk6.toQ).gk z8 (fun _ => rfl) (fun _ => rfl) gk8.toQ)) (show LSN V8 161 1 g1 256 from ((hl10.gk z6 (fun _ => rfl) (fun _ => rfl) gk6.toQ).gk z8 (fun _ => rfl) (fun _ => rfl) gk8.toQ)) (by decide)) (fun Q9 q9 => ?_)
  obtain ⟨u9, r9, z9, gl9, gk9, gf9⟩ := q9
  have ht9 : ur m C H Q9 := ht8.trans r9
  obtain ⟨V9, d9⟩ : ∃ V, ud m Q9 = V := ⟨_, rfl⟩
  rw [d9] at z9 gk9 gl9 gf9
  refine mw_go mu_g347 (k := 2) (f1 := (157, [(2, .inr (.inr (some g1))), (1, .inr (.inr (some g0))), (0, .inr (.inr (some 158)))], [.inr (.inr (mu_r Q9 158 1))], Q9)) (C := [mu_is Q9 (some 158) 8]) rfl (show mu_is Q9 (some 158) 8 from (u9.1.1.is rfl)) ?_
  rw [(u9.1.1.r (p := 158) (j := 1) (q := 147) rfl)]
  refine mw_go mu_g347 (k := 2) (f1 := (161, [(2, .inr (.inr (some g1))), (1, .inr (.inr (some g0))), (0, .inr (.inr (some 158)))], [.inr (.inr (mu_r Q9 158 8)), .inr (.inr (some 147))], Q9)) (C := [mu_is Q9 (some 158) 8]) rfl (show mu_is Q9 (some 158) 8 from (u9.1.1.is rfl)) ?_
  rw [(u9.1.1.r (p := 158) (j := 8) (q := 165) rfl)]
  refine mw_go mu_g347 (k := 2) (f1 := (165, [(2, .inr (.inr (some g1))), (1, .inr (.inr (some g0))), (0, .inr (.inr (some 158)))], [.inl (mu_i Q9 158 10), .inr (.inr (some 165)), .inr (.inr (some 147))], Q9)) (C := [mu_is Q9 (some 158) 8]) rfl (show mu_is Q9 (some 158) 8 from (u9.1.1.is rfl)) ?_
  rw [(show mu_i Q9 158 10 = (nI tc) from (ud_i (U := V9) (m := m) (P := 158) (j := 10) d9 rfl).trans ((z9.i 158 10 rfl).trans ((z8.i 158 10 rfl).trans ((z6.i 158 10 rfl).trans htc))))]
  refine mw_go mu_g347 (k := 2) (f1 := (167, [(2, .inr (.inr (some g1))), (1, .inr (.inr (some g0))), (0, .inr (.inr (some 158)))], [.inl ((nI tc) - (1 : Int32)), .inr (.inr (some 165)), .inr (.inr (some 147))], Q9)) (C := []) rfl trivial ?_
  rw [(show ((nI tc) - (1 : Int32)) = (nI (tc - 1)) from (nI_sub (a := tc) (b := 1) (by omega)))]
  refine mw_go mu_g347 (k := 1) (f1 := (168, [(2, .inr (.inr (some g1))), (1, .inr (.inr (some g0))), (0, .inr (.inr (some 158)))], [.inl (mu_i Q9 165 (nI (tc - 1)).toNatClampNeg), .inr (.inr (some 147))], Q9)) (C := [mu_isr Q9 (some 165) 100, vp_in (nI (tc - 1)) (mu_n Q9 165)]) rfl (show (mu_isr Q9 (some 165) 100) ∧ (vp_in (nI (tc - 1)) (mu_n Q9 165)) from ⟨((u9.iA d9 rfl rfl ((ud_q (m := m) (P := 158) (j := 8) d9 rfl).symm.trans (u9.1.1.r (p := 158) (j := 8) (q := 165) rfl)))).r, (by rw [show mu_n Q9 165 = 2001 from (u9.1.1.a (p := 165) (x := (100, 2001)) rfl).2]; exact vp_in_nI (n := tc - 1) (by omega) (by decide))⟩) ?_
  rw [(show (mu_i Q9 165 (nI (tc - 1)).toNatClampNeg) = (nI st) from ((congrArg (mu_i Q9 165) (show (nI (tc - 1)).toNatClampNeg = tc - 1 from nI_clamp (by omega))).trans (u9.gA d9 rfl rfl ((ud_q (m := m) (P := 158) (j := 8) d9 rfl).symm.trans (u9.1.1.r (p := 158) (j := 8) (q := 165) rfl)))).trans ((congrArg (fun z => z.2 (tc - 1)) (show V9.2.2.1 158 8 = (U.2.2.1 158 8) from ((z9.a 158 8 rfl).trans ((z8.a 158 8 rfl).trans (z6.a 158 8 rfl))))).trans hsx))]
  refine mw_go mu_g347 (k := 2) (f1 := (170, [(2, .inr (.inr (some g1))), (1, .inr (.inr (some g0))), (0, .inr (.inr (some 158)))], [.inr (.inr (some g0)), .inr (.inr (some g1)), .inl (nI st), .inr (.inr (some 147))], Q9)) (C := []) rfl trivial ?_
  have hqL : uq FLEG U V9 := (uq.refl FLEG U).tr ((z6.tr z8 rfl).tr z9 rfl) rfl
  have hgL : GKP 161 0 U V9 := ((gk6.trans gk8).trans gk9)
  have hbL : ∀ t, t < 64 * wn → (bts (lgf V9 161 0) t = true ↔ S t = true ∧ bts (lgf U 161 1) t = true) := (fun t ht => by unfold bts; rw [gf9 (t / 64) (by omega), btz_and, Bool.and_eq_true, lgf_ne (a := 161) (i := 1) gk8.toQ ⟨by decide, fun z => absurd z.2 (by decide)⟩, lgf_ne (a := 161) (i := 1) gk6.toQ ⟨by decide, fun z => absurd z.2 (by decide)⟩]; have y := gf8 t (fun _ _ => bts_z (wn := wn) (fun j hj => (gf6 j).trans (if_pos ⟨Nat.zero_le _, hj⟩)) ht); rw [bts_z (wn := wn) (fun j hj => (gf6 j).trans (if_pos ⟨Nat.zero_le _, hj⟩)) ht] at y; exact and_congr (y.trans ⟨fun q => q.elim (fun q => by cases q) (fun q => q), Or.inr⟩) Iff.rfl)
  have h1L : lgf V9 161 1 = lgf U 161 1 := lgf_ne hgL.toQ ⟨by decide, fun z => absurd z.2 (by decide)⟩
  refine mw_cV (fun _ => rfl) (show mu_is Q9 (some 147) 2 from (u9.1.1.is rfl)) (gr_lead (d := d) (C := C) (G := G) (T := T) (R := R) (wn := wn) (rx := rx) (mb := mb) (me := me) (N := N) (fb := fb) (ga := 161) (gi := 0) (gb := 161) (gj := 1) (st := st) u9 d9 (hGR.keep (F := FLEG) hqL rfl (NK.of_eq (hqL.a 147 10 rfl))) (show V9.2.1 113 2 = nI N from (hqL.i 113 2 rfl).trans hN) (show V9.2.1 113 8 = nI fb from (hqL.i 113 8 rfl).trans hfb) hfN hRN (show LSN V9 161 0 g0 256 from (((hl00.gk z6 (fun _ => rfl) (fun _ => rfl) gk6.toQ).gk z8 (fun _ => rfl) (fun _ => rfl) gk8.toQ).gk z9 (fun _ => rfl) (fun _ => rfl) gk9.toQ)) (show LSN V9 161 1 g1 256 from (((hl10.gk z6 (fun _ => rfl) (fun _ => rfl) gk6.toQ).gk z8 (fun _ => rfl) (fun _ => rfl) gk8.toQ).gk z9 (fun _ => rfl) (fun _ => rfl) gk9.toQ)) hst (fun s hs y => y.elim (fun y => hT1 s hs (by rw [h1L] at y; exact y)) (fun y => hT0 s hs ((hbL s hs).mp y)))) (fun Q10 q10 => ?_)
  obtain ⟨u10, r10, z10, hnk, hlp⟩ := q10
  have ht10 : ur m C H Q10 := ht9.trans r10
  obtain ⟨V10, d10⟩ : ∃ V, ud m Q10 = V := ⟨_, rfl⟩
  rw [d10] at z10 hnk hlp
  exact mw_of (fun _ => mu_ret rfl trivial ⟨Q10, rfl, u10, ht10, V9, ⟨hqL, hgL, hbL⟩, (by rw [d10]; exact z10), (by rw [d10]; exact hnk), (by rw [d10]; exact hlp)⟩)
end Leg
