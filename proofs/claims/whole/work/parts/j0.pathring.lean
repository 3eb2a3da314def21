/-! PROVER: a ring is set out for (seekPath for EG and AF) -/
section PathRing
variable {H : mu_H} {U V : Ud} {m d sp lst wn L gq g0 g1 st : Nat} {C : Nat → Nat} {PL : Ud → mu_H → Prop}
theorem pr_pathG12 (h : um m H) (e : ud m H = U) (hmo : U.2.2.2.1 99 0 = some m) (hsp : sp < 2147483648) (h171 : (U.1 17).2 sp 1 = nI (lst + 1)) (hlb : lst < 2147483646) (hou : (U.1 0).2 lst 0 = nI 12) (hw12 : U.2.1 99 12 = nI wn) (hwn : wn ≤ 256) (hl00 : LSN U 161 0 g0 256) (hl10 : LSN U 161 1 g1 256) (hlk0 : LSN U 163 (sp % 64) gq L) (hwL : wn ≤ L) (hLb : L ≤ 256) (hleg : ∀ W Q, AIMW U W 12 sp wn → um m Q → ud m Q = upI (upI (upI (TRB W st) 158 14 5) 158 21 0) 158 16 0 → mu_TV (mu_D (d + 4)) 347 [.inr (.inr (some 158))] Q (fun H1 => um m H1 ∧ ur m C Q H1 ∧ PL W H1)) : mu_TV (mu_D (d + 5)) 368 [.inr (.inr (some 158)), .inl (nI sp), .inl (nI st)] H (fun H1 => um m H1 ∧ ur m C H H1 ∧ ∃ W, AIMW U W 12 sp wn ∧ PL W H1) := by
  refine mu_meth (M := mu_m368) rfl rfl ?_
  refine mw_ht (mu_fn_of (show [0, 1, 2].Nodup by decide)) ?_
  refine mw_go mu_g368 (k := 2) (f1 := (2, [(0, .inr (.inr (some 158))), (1, .inl (nI sp)), (2, .inl (nI st))], [.inl (nI sp), .inr (.inr (some 158))], H)) (C := []) rfl trivial ?_
  refine mw_cIe (fun _ => rfl) (show mu_is H (some 158) 8 from (h.1.1.is rfl)) (pr_outer (d := (d + 2)) (i := sp) (to := lst + 1) h e hmo hsp h171 (by omega) (by omega)) ?_
  rw [show ((U.1 0).2 (lst + 1 - 1) 0) = nI 12 from hou]
  refine mw_go mu_g368 (k := 3) (f1 := (9, [(3, .inl (nI 12)), (0, .inr (.inr (some 158))), (1, .inl (nI sp)), (2, .inl (nI st))], [.inl (28 : Int32), .inl (nI 12)], H)) (C := []) rfl trivial ?_
  refine mw_if (P := (nI 12) = (28 : Int32)) (a := 24) (b := 12) (fun _ => rfl) trivial (fun h2 => absurd h2 (by decide)) (fun h2 => ?_)
  refine mw_go mu_g368 (k := 2) (f1 := (15, [(3, .inl (nI 12)), (0, .inr (.inr (some 158))), (1, .inl (nI sp)), (2, .inl (nI st))], [.inl (11 : Int32), .inl (nI 12)], H)) (C := []) rfl trivial ?_
  refine mw_if (P := (nI 12) = (11 : Int32)) (a := 24) (b := 18) (fun _ => rfl) trivial (fun h3 => absurd h3 (by decide)) (fun h3 => ?_)
  refine mw_go mu_g368 (k := 2) (f1 := (21, [(3, .inl (nI 12)), (0, .inr (.inr (some 158))), (1, .inl (nI sp)), (2, .inl (nI st))], [.inl (15 : Int32), .inl (nI 12)], H)) (C := []) rfl trivial ?_
  refine mw_if (P := (nI 12) = (15 : Int32)) (a := 24) (b := 28) (fun _ => rfl) trivial (fun h4 => absurd h4 (by decide)) (fun h4 => ?_)
  refine mw_go mu_g368 (k := 4) (f1 := (33, [(4, .inl (0 : Int32)), (3, .inl (nI 12)), (0, .inr (.inr (some 158))), (1, .inl (nI sp)), (2, .inl (nI st))], [.inl (nI sp), .inr (.inr (some 158))], H)) (C := []) rfl trivial ?_
  refine mw_cV (fun _ => rfl) (show mu_is H (some 158) 8 from (h.1.1.is rfl)) (pr_aim12 (d := d) (C := C) h e hmo hsp h171 hlb hou hw12 hwn hl00 hl10 hlk0 hwL hLb) (fun Q5 q5 => ?_)
  obtain ⟨u5, r5, z5, hgk, ha48, ha62, haw⟩ := q5
  have ht5 : ur m C H Q5 := (ur.refl m C H).trans r5
  obtain ⟨V5, d5⟩ : ∃ V, ud m Q5 = V := ⟨_, rfl⟩
  rw [d5] at z5 hgk ha48 ha62 haw
  refine mw_go mu_g368 (k := 2) (f1 := (40, [(4, .inl (0 : Int32)), (3, .inl (nI 12)), (0, .inr (.inr (some 158))), (1, .inl (nI sp)), (2, .inl (nI st))], [.inr (.inr (mu_r Q5 158 8))], Q5)) (C := [mu_is Q5 (some 158) 8]) rfl (show mu_is Q5 (some 158) 8 from (u5.1.1.is rfl)) ?_
  rw [(u5.1.1.r (p := 158) (j := 8) (q := 165) rfl)]
  refine mw_go mu_g368 (k := 3) (f1 := (43, [(4, .inl (0 : Int32)), (3, .inl (nI 12)), (0, .inr (.inr (some 158))), (1, .inl (nI sp)), (2, .inl (nI st))], [], (mu_si Q5 165 (0 : Int32).toNatClampNeg (nI st)))) (C := [mu_is Q5 (some 165) 100, vp_in (0 : Int32) (mu_n Q5 165)]) rfl (show (mu_is Q5 (some 165) 100) ∧ (vp_in (0 : Int32) (mu_n Q5 165)) from ⟨(u5.iA d5 rfl rfl ((ud_q (m := m) (P := 158) (j := 8) d5 rfl).symm.trans (u5.1.1.r (p := 158) (j := 8) (q := 165) rfl))), (by rw [show mu_n Q5 165 = 2001 from (u5.1.1.a (p := 165) (x := (100, 2001)) rfl).2]; exact vp_in_nI (n := 0) (by omega) (by decide))⟩) ?_
  rw [(show (0 : Int32).toNatClampNeg = 0 from by decide)]
  obtain ⟨u6, r6, d6⟩ : um m (mu_si Q5 165 0 (nI st)) ∧ ur m C Q5 (mu_si Q5 165 0 (nI st)) ∧ ud m (mu_si Q5 165 0 (nI st)) = (upA V5 158 8 0 (nI st)) := u5.sA (C := C) d5 rfl rfl ((ud_q (m := m) (P := 158) (j := 8) d5 rfl).symm.trans (u5.1.1.r (p := 158) (j := 8) (q := 165) rfl))
  generalize (mu_si Q5 165 0 (nI st)) = Q6 at u6 r6 d6 ⊢
  have ht6 : ur m C H Q6 := ht5.trans r6
  refine mw_go mu_g368 (k := 3) (f1 := (48, [(4, .inl (0 : Int32)), (3, .inl (nI 12)), (0, .inr (.inr (some 158))), (1, .inl (nI sp)), (2, .inl (nI st))], [], (mu_si Q6 158 10 (1 : Int32)))) (C := [mu_is Q6 (some 158) 8]) rfl (show mu_is Q6 (some 158) 8 from (u6.1.1.is rfl)) ?_
  obtain ⟨u7, r7, d7⟩ : um m (mu_si Q6 158 10 (1 : Int32)) ∧ ur m C Q6 (mu_si Q6 158 10 (1 : Int32)) ∧ ud m (mu_si Q6 158 10 (1 : Int32)) = (upI (upA V5 158 8 0 (nI st)) 158 10 (1 : Int32)) := u6.sI (C := C) d6 rfl
  generalize (mu_si Q6 158 10 (1 : Int32)) = Q7 at u7 r7 d7 ⊢
  have ht7 : ur m C H Q7 := ht6.trans r7
  refine mw_go mu_g368 (k := 3) (f1 := (53, [(4, .inl (0 : Int32)), (3, .inl (nI 12)), (0, .inr (.inr (some 158))), (1, .inl (nI sp)), (2, .inl (nI st))], [], (mu_si Q7 158 21 (-1 : Int32)))) (C := [mu_is Q7 (some 158) 8]) rfl (show mu_is Q7 (some 158) 8 from (u7.1.1.is rfl)) ?_
  obtain ⟨u8, r8, d8⟩ : um m (mu_si Q7 158 21 (-1 : Int32)) ∧ ur m C Q7 (mu_si Q7 158 21 (-1 : Int32)) ∧ ud m (mu_si Q7 158 21 (-1 : Int32)) = (upI (upI (upA V5 158 8 0 (nI st)) 158 10 (1 : Int32)) 158 21 (-1 : Int32)) := u7.sI (C := C) d7 rfl
  generalize (mu_si Q7 158 21 (-1 : Int32)) = Q8 at u8 r8 d8 ⊢
  have ht8 : ur m C H Q8 := ht7.trans r8
  refine mw_go mu_g368 (k := 2) (f1 := (56, [(4, .inl (0 : Int32)), (3, .inl (nI 12)), (0, .inr (.inr (some 158))), (1, .inl (nI sp)), (2, .inl (nI st))], [.inl (12 : Int32), .inl (nI 12)], Q8)) (C := []) rfl trivial ?_
  refine mw_if (P := (nI 12) = (12 : Int32)) (a := 65) (b := 59) (fun _ => rfl) trivial (fun h9 => ?_) (fun h9 => absurd rfl h9)
  refine mw_go mu_g368 (k := 3) (f1 := (70, [(4, .inl (0 : Int32)), (3, .inl (nI 12)), (0, .inr (.inr (some 158))), (1, .inl (nI sp)), (2, .inl (nI st))], [], (mu_si Q8 158 14 (5 : Int32)))) (C := [mu_is Q8 (some 158) 8]) rfl (show mu_is Q8 (some 158) 8 from (u8.1.1.is rfl)) ?_
  obtain ⟨u10, r10, d10⟩ : um m (mu_si Q8 158 14 (5 : Int32)) ∧ ur m C Q8 (mu_si Q8 158 14 (5 : Int32)) ∧ ud m (mu_si Q8 158 14 (5 : Int32)) = (upI (upI (upI (upA V5 158 8 0 (nI st)) 158 10 (1 : Int32)) 158 21 (-1 : Int32)) 158 14 (5 : Int32)) := u8.sI (C := C) d8 rfl
  generalize (mu_si Q8 158 14 (5 : Int32)) = Q10 at u10 r10 d10 ⊢
  have ht10 : ur m C H Q10 := ht8.trans r10
  refine mw_go mu_g368 (k := 3) (f1 := (75, [(4, .inl (0 : Int32)), (3, .inl (nI 12)), (0, .inr (.inr (some 158))), (1, .inl (nI sp)), (2, .inl (nI st))], [], (mu_si Q10 158 21 (0 : Int32)))) (C := [mu_is Q10 (some 158) 8]) rfl (show mu_is Q10 (some 158) 8 from (u10.1.1.is rfl)) ?_
  obtain ⟨u11, r11, d11⟩ : um m (mu_si Q10 158 21 (0 : Int32)) ∧ ur m C Q10 (mu_si Q10 158 21 (0 : Int32)) ∧ ud m (mu_si Q10 158 21 (0 : Int32)) = (upI (upI (upI (upI (upA V5 158 8 0 (nI st)) 158 10 (1 : Int32)) 158 21 (-1 : Int32)) 158 14 (5 : Int32)) 158 21 (0 : Int32)) := u10.sI (C := C) d10 rfl
  generalize (mu_si Q10 158 21 (0 : Int32)) = Q11 at u11 r11 d11 ⊢
  have ht11 : ur m C H Q11 := ht10.trans r11
  refine mw_go mu_g368 (k := 3) (f1 := (80, [(4, .inl (0 : Int32)), (3, .inl (nI 12)), (0, .inr (.inr (some 158))), (1, .inl (nI sp)), (2, .inl (nI st))], [], (mu_si Q11 158 16 (0 : Int32)))) (C := [mu_is Q11 (some 158) 8]) rfl (show mu_is Q11 (some 158) 8 from (u11.1.1.is rfl)) ?_
  obtain ⟨u12, r12, d12⟩ : um m (mu_si Q11 158 16 (0 : Int32)) ∧ ur m C Q11 (mu_si Q11 158 16 (0 : Int32)) ∧ ud m (mu_si Q11 158 16 (0 : Int32)) = (upI (upI (upI (upI (upI (upA V5 158 8 0 (nI st)) 158 10 (1 : Int32)) 158 21 (-1 : Int32)) 158 14 (5 : Int32)) 158 21 (0 : Int32)) 158 16 (0 : Int32)) := u11.sI (C := C) d11 rfl
  generalize (mu_si Q11 158 16 (0 : Int32)) = Q12 at u12 r12 d12 ⊢
  have ht12 : ur m C H Q12 := ht11.trans r12
  refine mw_go mu_g368 (k := 1) (f1 := (81, [(4, .inl (0 : Int32)), (3, .inl (nI 12)), (0, .inr (.inr (some 158))), (1, .inl (nI sp)), (2, .inl (nI st))], [.inr (.inr (some 158))], Q12)) (C := []) rfl trivial ?_
  refine mw_cV (fun _ => rfl) (show mu_is Q12 (some 158) 8 from (u12.1.1.is rfl)) (hleg V5 Q12 ⟨z5, hgk, ⟨ha48, ha62⟩, haw⟩ u12 d12) (fun Q13 q13 => ?_)
  obtain ⟨u13, r13, kpl13⟩ := q13
  have ht13 : ur m C H Q13 := ht12.trans r13
  refine mw_go mu_g368 (k := 1) (f1 := (130, [(4, .inl (0 : Int32)), (3, .inl (nI 12)), (0, .inr (.inr (some 158))), (1, .inl (nI sp)), (2, .inl (nI st))], [], Q13)) (C := []) rfl trivial ?_
  exact mw_of (fun _ => mu_ret rfl trivial ⟨Q13, rfl, u13, ht13, V5, ⟨z5, hgk, ⟨ha48, ha62⟩, haw⟩, kpl13⟩)
theorem pr_pathG14 (h : um m H) (e : ud m H = U) (hmo : U.2.2.2.1 99 0 = some m) (hsp : sp < 2147483648) (h171 : (U.1 17).2 sp 1 = nI (lst + 1)) (hlb : lst < 2147483646) (hou : (U.1 0).2 lst 0 = nI 14) (hw12 : U.2.1 99 12 = nI wn) (hwn : wn ≤ 256) (hl00 : LSN U 161 0 g0 256) (hl10 : LSN U 161 1 g1 256) (hlk0 : LSN U 163 (sp % 64) gq L) (hwL : wn ≤ L) (hLb : L ≤ 256) (hleg : ∀ W Q, AIMW U W 14 sp wn → um m Q → ud m Q = upI (upI (upI (TRB W st) 158 14 5) 158 21 0) 158 16 0 → mu_TV (mu_D (d + 4)) 347 [.inr (.inr (some 158))] Q (fun H1 => um m H1 ∧ ur m C Q H1 ∧ PL W H1)) : mu_TV (mu_D (d + 5)) 368 [.inr (.inr (some 158)), .inl (nI sp), .inl (nI st)] H (fun H1 => um m H1 ∧ ur m C H H1 ∧ ∃ W, AIMW U W 14 sp wn ∧ PL W H1) := by
  refine mu_meth (M := mu_m368) rfl rfl ?_
  refine mw_ht (mu_fn_of (show [0, 1, 2].Nodup by decide)) ?_
  refine mw_go mu_g368 (k := 2) (f1 := (2, [(0, .inr (.inr (some 158))), (1, .inl (nI sp)), (2, .inl (nI st))], [.inl (nI sp), .inr (.inr (some 158))], H)) (C := []) rfl trivial ?_
  refine mw_cIe (fun _ => rfl) (show mu_is H (some 158) 8 from (h.1.1.is rfl)) (pr_outer (d := (d + 2)) (i := sp) (to := lst + 1) h e hmo hsp h171 (by omega) (by omega)) ?_
  rw [show ((U.1 0).2 (lst + 1 - 1) 0) = nI 14 from hou]
  refine mw_go mu_g368 (k := 3) (f1 := (9, [(3, .inl (nI 14)), (0, .inr (.inr (some 158))), (1, .inl (nI sp)), (2, .inl (nI st))], [.inl (28 : Int32), .inl (nI 14)], H)) (C := []) rfl trivial ?_
  refine mw_if (P := (nI 14) = (28 : Int32)) (a := 24) (b := 12) (fun _ => rfl) trivial (fun h2 => absurd h2 (by decide)) (fun h2 => ?_)
  refine mw_go mu_g368 (k := 2) (f1 := (15, [(3, .inl (nI 14)), (0, .inr (.inr (some 158))), (1, .inl (nI sp)), (2, .inl (nI st))], [.inl (11 : Int32), .inl (nI 14)], H)) (C := []) rfl trivial ?_
  refine mw_if (P := (nI 14) = (11 : Int32)) (a := 24) (b := 18) (fun _ => rfl) trivial (fun h3 => absurd h3 (by decide)) (fun h3 => ?_)
  refine mw_go mu_g368 (k := 2) (f1 := (21, [(3, .inl (nI 14)), (0, .inr (.inr (some 158))), (1, .inl (nI sp)), (2, .inl (nI st))], [.inl (15 : Int32), .inl (nI 14)], H)) (C := []) rfl trivial ?_
  refine mw_if (P := (nI 14) = (15 : Int32)) (a := 24) (b := 28) (fun _ => rfl) trivial (fun h4 => absurd h4 (by decide)) (fun h4 => ?_)
  refine mw_go mu_g368 (k := 4) (f1 := (33, [(4, .inl (0 : Int32)), (3, .inl (nI 14)), (0, .inr (.inr (some 158))), (1, .inl (nI sp)), (2, .inl (nI st))], [.inl (nI sp), .inr (.inr (some 158))], H)) (C := []) rfl trivial ?_
  refine mw_cV (fun _ => rfl) (show mu_is H (some 158) 8 from (h.1.1.is rfl)) (pr_aim14 (d := d) (C := C) h e hmo hsp h171 hlb hou hw12 hwn hl00 hl10 hlk0 hwL hLb) (fun Q5 q5 => ?_)
  obtain ⟨u5, r5, z5, hgk, ha48, ha62, haw⟩ := q5
  have ht5 : ur m C H Q5 := (ur.refl m C H).trans r5
  obtain ⟨V5, d5⟩ : ∃ V, ud m Q5 = V := ⟨_, rfl⟩
  rw [d5] at z5 hgk ha48 ha62 haw
  refine mw_go mu_g368 (k := 2) (f1 := (40, [(4, .inl (0 : Int32)), (3, .inl (nI 14)), (0, .inr (.inr (some 158))), (1, .inl (nI sp)), (2, .inl (nI st))], [.inr (.inr (mu_r Q5 158 8))], Q5)) (C := [mu_is Q5 (some 158) 8]) rfl (show mu_is Q5 (some 158) 8 from (u5.1.1.is rfl)) ?_
  rw [(u5.1.1.r (p := 158) (j := 8) (q := 165) rfl)]
  refine mw_go mu_g368 (k := 3) (f1 := (43, [(4, .inl (0 : Int32)), (3, .inl (nI 14)), (0, .inr (.inr (some 158))), (1, .inl (nI sp)), (2, .inl (nI st))], [], (mu_si Q5 165 (0 : Int32).toNatClampNeg (nI st)))) (C := [mu_is Q5 (some 165) 100, vp_in (0 : Int32) (mu_n Q5 165)]) rfl (show (mu_is Q5 (some 165) 100) ∧ (vp_in (0 : Int32) (mu_n Q5 165)) from ⟨(u5.iA d5 rfl rfl ((ud_q (m := m) (P := 158) (j := 8) d5 rfl).symm.trans (u5.1.1.r (p := 158) (j := 8) (q := 165) rfl))), (by rw [show mu_n Q5 165 = 2001 from (u5.1.1.a (p := 165) (x := (100, 2001)) rfl).2]; exact vp_in_nI (n := 0) (by omega) (by decide))⟩) ?_
  rw [(show (0 : Int32).toNatClampNeg = 0 from by decide)]
  obtain ⟨u6, r6, d6⟩ : um m (mu_si Q5 165 0 (nI st)) ∧ ur m C Q5 (mu_si Q5 165 0 (nI st)) ∧ ud m (mu_si Q5 165 0 (nI st)) = (upA V5 158 8 0 (nI st)) := u5.sA (C := C) d5 rfl rfl ((ud_q (m := m) (P := 158) (j := 8) d5 rfl).symm.trans (u5.1.1.r (p := 158) (j := 8) (q := 165) rfl))
  generalize (mu_si Q5 165 0 (nI st)) = Q6 at u6 r6 d6 ⊢
  have ht6 : ur m C H Q6 := ht5.trans r6
  refine mw_go mu_g368 (k := 3) (f1 := (48, [(4, .inl (0 : Int32)), (3, .inl (nI 14)), (0, .inr (.inr (some 158))), (1, .inl (nI sp)), (2, .inl (nI st))], [], (mu_si Q6 158 10 (1 : Int32)))) (C := [mu_is Q6 (some 158) 8]) rfl (show mu_is Q6 (some 158) 8 from (u6.1.1.is rfl)) ?_
  obtain ⟨u7, r7, d7⟩ : um m (mu_si Q6 158 10 (1 : Int32)) ∧ ur m C Q6 (mu_si Q6 158 10 (1 : Int32)) ∧ ud m (mu_si Q6 158 10 (1 : Int32)) = (upI (upA V5 158 8 0 (nI st)) 158 10 (1 : Int32)) := u6.sI (C := C) d6 rfl
  generalize (mu_si Q6 158 10 (1 : Int32)) = Q7 at u7 r7 d7 ⊢
  have ht7 : ur m C H Q7 := ht6.trans r7
  refine mw_go mu_g368 (k := 3) (f1 := (53, [(4, .inl (0 : Int32)), (3, .inl (nI 14)), (0, .inr (.inr (some 158))), (1, .inl (nI sp)), (2, .inl (nI st))], [], (mu_si Q7 158 21 (-1 : Int32)))) (C := [mu_is Q7 (some 158) 8]) rfl (show mu_is Q7 (some 158) 8 from (u7.1.1.is rfl)) ?_
  obtain ⟨u8, r8, d8⟩ : um m (mu_si Q7 158 21 (-1 : Int32)) ∧ ur m C Q7 (mu_si Q7 158 21 (-1 : Int32)) ∧ ud m (mu_si Q7 158 21 (-1 : Int32)) = (upI (upI (upA V5 158 8 0 (nI st)) 158 10 (1 : Int32)) 158 21 (-1 : Int32)) := u7.sI (C := C) d7 rfl
  generalize (mu_si Q7 158 21 (-1 : Int32)) = Q8 at u8 r8 d8 ⊢
  have ht8 : ur m C H Q8 := ht7.trans r8
  refine mw_go mu_g368 (k := 2) (f1 := (56, [(4, .inl (0 : Int32)), (3, .inl (nI 14)), (0, .inr (.inr (some 158))), (1, .inl (nI sp)), (2, .inl (nI st))], [.inl (12 : Int32), .inl (nI 14)], Q8)) (C := []) rfl trivial ?_
  refine mw_if (P := (nI 14) = (12 : Int32)) (a := 65) (b := 59) (fun _ => rfl) trivial (fun h9 => absurd h9 (by decide)) (fun h9 => ?_)
  refine mw_go mu_g368 (k := 2) (f1 := (62, [(4, .inl (0 : Int32)), (3, .inl (nI 14)), (0, .inr (.inr (some 158))), (1, .inl (nI sp)), (2, .inl (nI st))], [.inl (14 : Int32), .inl (nI 14)], Q8)) (C := []) rfl trivial ?_
  refine mw_if (P := (nI 14) = (14 : Int32)) (a := 65) (b := 87) (fun _ => rfl) trivial (fun h10 => ?_) (fun h10 => absurd rfl h10)
  refine mw_go mu_g368 (k := 3) (f1 := (70, [(4, .inl (0 : Int32)), (3, .inl (nI 14)), (0, .inr (.inr (some 158))), (1, .inl (nI sp)), (2, .inl (nI st))], [], (mu_si Q8 158 14 (5 : Int32)))) (C := [mu_is Q8 (some 158) 8]) rfl (show mu_is Q8 (some 158) 8 from (u8.1.1.is rfl)) ?_
  obtain ⟨u11, r11, d11⟩ : um m (mu_si Q8 158 14 (5 : Int32)) ∧ ur m C Q8 (mu_si Q8 158 14 (5 : Int32)) ∧ ud m (mu_si Q8 158 14 (5 : Int32)) = (upI (upI (upI (upA V5 158 8 0 (nI st)) 158 10 (1 : Int32)) 158 21 (-1 : Int32)) 158 14 (5 : Int32)) := u8.sI (C := C) d8 rfl
  generalize (mu_si Q8 158 14 (5 : Int32)) = Q11 at u11 r11 d11 ⊢
  have ht11 : ur m C H Q11 := ht8.trans r11
  refine mw_go mu_g368 (k := 3) (f1 := (75, [(4, .inl (0 : Int32)), (3, .inl (nI 14)), (0, .inr (.inr (some 158))), (1, .inl (nI sp)), (2, .inl (nI st))], [], (mu_si Q11 158 21 (0 : Int32)))) (C := [mu_is Q11 (some 158) 8]) rfl (show mu_is Q11 (some 158) 8 from (u11.1.1.is rfl)) ?_
  obtain ⟨u12, r12, d12⟩ : um m (mu_si Q11 158 21 (0 : Int32)) ∧ ur m C Q11 (mu_si Q11 158 21 (0 : Int32)) ∧ ud m (mu_si Q11 158 21 (0 : Int32)) = (upI (upI (upI (upI (upA V5 158 8 0 (nI st)) 158 10 (1 : Int32)) 158 21 (-1 : Int32)) 158 14 (5 : Int32)) 158 21 (0 : Int32)) := u11.sI (C := C) d11 rfl
  generalize (mu_si Q11 158 21 (0 : Int32)) = Q12 at u12 r12 d12 ⊢
  have ht12 : ur m C H Q12 := ht11.trans r12
  refine mw_go mu_g368 (k := 3) (f1 := (80, [(4, .inl (0 : Int32)), (3, .inl (nI 14)), (0, .inr (.inr (some 158))), (1, .inl (nI sp)), (2, .inl (nI st))], [], (mu_si Q12 158 16 (0 : Int32)))) (C := [mu_is Q12 (some 158) 8]) rfl (show mu_is Q12 (some 158) 8 from (u12.1.1.is rfl)) ?_
  obtain ⟨u13, r13, d13⟩ : um m (mu_si Q12 158 16 (0 : Int32)) ∧ ur m C Q12 (mu_si Q12 158 16 (0 : Int32)) ∧ ud m (mu_si Q12 158 16 (0 : Int32)) = (upI (upI (upI (upI (upI (upA V5 158 8 0 (nI st)) 158 10 (1 : Int32)) 158 21 (-1 : Int32)) 158 14 (5 : Int32)) 158 21 (0 : Int32)) 158 16 (0 : Int32)) := u12.sI (C := C) d12 rfl
  generalize (mu_si Q12 158 16 (0 : Int32)) = Q13 at u13 r13 d13 ⊢
  have ht13 : ur m C H Q13 := ht12.trans r13
  refine mw_go mu_g368 (k := 1) (f1 := (81, [(4, .inl (0 : Int32)), (3, .inl (nI 14)), (0, .inr (.inr (some 158))), (1, .inl (nI sp)), (2, .inl (nI st))], [.inr (.inr (some 158))], Q13)) (C := []) rfl trivial ?_
  refine mw_cV (fun _ => rfl) (show mu_is Q13 (some 158) 8 from (u13.1.1.is rfl)) (hleg V5 Q13 ⟨z5, hgk, ⟨ha48, ha62⟩, haw⟩ u13 d13) (fun Q14 q14 => ?_)
  obtain ⟨u14, r14, kpl14⟩ := q14
  have ht14 : ur m C H Q14 := ht13.trans r14
  refine mw_go mu_g368 (k := 1) (f1 := (130, [(4, .inl (0 : Int32)), (3, .inl (nI 14)), (0, .inr (.inr (some 158))), (1, .inl (nI sp)), (2, .inl (nI st))], [], Q14)) (C := []) rfl trivial ?_
  exact mw_of (fun _ => mu_ret rfl trivial ⟨Q14, rfl, u14, ht14, V5, ⟨z5, hgk, ⟨ha48, ha62⟩, haw⟩, kpl14⟩)
end PathRing
