/-! PROVER: a path is shown and watched; sets to go through and to go to -/
/-- what aim lays out: the goal, and what is gone through -/
def amg (o : Nat) (x f1 : Int64) : Int64 := (if 13 ≤ o ∧ o ≤ 15 then x ^^^ (-1 : Int64) else x) &&& f1
def amt (o : Nat) (y k1 e1 : Int64) : Int64 := if o = 12 then k1 else if o = 14 then e1 &&& (k1 ^^^ (-1 : Int64)) else if o = 10 ∨ o = 13 then 0 else if o = 28 then y else e1
/-- all sets of the pools but the first two stay -/
def GK2 (U V : Ud) : Prop := (∀ b c, ¬ (161 = b ∧ (0 = c ∨ 1 = c)) → V.2.2.2.2.2 b c = U.2.2.2.2.2 b c) ∧ (V.2.2.2.2.2 161 0).map (fun x => x.1) = (U.2.2.2.2.2 161 0).map (fun x => x.1) ∧ (V.2.2.2.2.2 161 1).map (fun x => x.1) = (U.2.2.2.2.2 161 1).map (fun x => x.1)
section Shown
variable {H : mu_H} {U V W : Ud} {m d o sp lst T wn L gq g0 g1 tc s0 at0 cn lp t1 a i q L1 : Nat} {C : Nat → Nat} {bgv : Int32} {F : Uf}
theorem GK2.refl (U : Ud) : GK2 U U := ⟨fun _ _ _ => rfl, rfl, rfl⟩
theorem GK2.trans (h : GK2 U V) (h' : GK2 V W) : GK2 U W := ⟨fun b c hn => (h'.1 b c hn).trans (h.1 b c hn), h'.2.1.trans h.2.1, h'.2.2.trans h.2.2⟩
theorem GKQ.two0 (h : GKQ 161 0 U V) : GK2 U V := ⟨fun b c hn => h.1 b c (fun z => hn ⟨z.1, Or.inl z.2⟩), h.2, by rw [h.1 161 1 (fun z => absurd z.2 (by decide))]⟩
theorem GKQ.two1 (h : GKQ 161 1 U V) : GK2 U V := ⟨fun b c hn => h.1 b c (fun z => hn ⟨z.1, Or.inr z.2⟩), by rw [h.1 161 0 (fun z => absurd z.2 (by decide))], h.2⟩
theorem LSN.g2 (h : LSN U a i q L) (hq : uq F U V) (h1 : ∀ c, in2 F.n 161 c = false) (h2 : ∀ c, in2 F.n 163 c = false) (hk : GK2 U V) : LSN V a i q L := by
  refine h.keep (fun b c hb => ?_) ?_
  · rcases hb with rfl | rfl
    · exact hq.r 161 c (h1 c)
    · exact hq.r 163 c (h2 c)
  · by_cases y : 161 = a ∧ (0 = i ∨ 1 = i)
    · obtain ⟨rfl, rfl | rfl⟩ := y
      · exact hk.2.1
      · exact hk.2.2
    · rw [hk.1 a i y]
theorem lgf_g2 (hk : GK2 U V) (hn : ¬ a = 0 ∧ ¬ (161 = a ∧ (0 = i ∨ 1 = i))) : lgf V a i = lgf U a i := by
  funext k
  unfold lgf
  rw [if_neg hn.1, if_neg hn.1, hk.1 a i hn.2]
/-- PathProver$Prover.display()I -/
abbrev mu_m369 : ev_M := (1, (some .int), [], ev_b369)
theorem mu_g369 : mu_good mu_m369 := mu_goodk ev_k369
theorem pr_displayM (h : um m H) (e : ud m H = U) (htc : U.2.1 158 10 = nI tc) (hm : 2000 < tc) (htb : tc < 2147483648) : mu_TI (mu_D (d + 2)) 369 [.inr (.inr (some 158))] H (fun x H1 => x = nI tc ∧ H1 = H) := by
  refine mu_meth (M := mu_m369) rfl rfl ?_
  refine mw_ht (mu_fn_of (show [0].Nodup by decide)) ?_
  refine mw_go mu_g369 (k := 2) (f1 := (4, [(0, .inr (.inr (some 158)))], [.inl (mu_i H 158 10)], H)) (C := [mu_is H (some 158) 8]) rfl (show mu_is H (some 158) 8 from (h.1.1.is rfl)) ?_
  rw [(show mu_i H 158 10 = (nI tc) from (ud_i (U := U) (m := m) (P := 158) (j := 10) e rfl).trans htc)]
  refine mw_go mu_g369 (k := 1) (f1 := (7, [(0, .inr (.inr (some 158)))], [.inl (2000 : Int32), .inl (nI tc)], H)) (C := []) rfl trivial ?_
  refine mw_if (P := (2000 : Int32) < (nI tc)) (a := 67) (b := 10) (fun _ => rfl) trivial (fun h1 => ?_) (fun h1 => absurd (show (2000 : Int32) < nI tc from (nI_ltI (a := 2000) (by decide) (by omega)).mpr hm) h1)
  refine mw_go mu_g369 (k := 2) (f1 := (71, [(0, .inr (.inr (some 158)))], [.inl (mu_i H 158 10)], H)) (C := [mu_is H (some 158) 8]) rfl (show mu_is H (some 158) 8 from (h.1.1.is rfl)) ?_
  rw [(show mu_i H 158 10 = (nI tc) from (ud_i (U := U) (m := m) (P := 158) (j := 10) e rfl).trans htc)]
  exact mw_of (fun _ => mu_ret rfl trivial ⟨(nI tc), H, rfl, rfl, rfl⟩)
theorem pr_display (h : um m H) (e : ud m H = U) (htc : U.2.1 158 10 = nI tc) (hm : tc ≤ 2000) (ht1 : 1 ≤ tc) (hbg : U.2.1 158 21 = bgv) (hs0 : (U.2.2.1 158 8).2 0 = nI s0) (hs6 : s0 < (U.2.2.1 129 6).1) (h6b : (U.2.2.1 129 6).1 ≤ 16777216) : mu_TI (mu_D (d + 2)) 369 [.inr (.inr (some 158))] H (fun x H1 => x = nI tc ∧ um m H1 ∧ ur m C H H1 ∧ ud m H1 = (upI (upI (upI (upI (upI (upI (upF U 158 9 0 (fun i => (U.2.2.1 158 8).2 (0 + i)) tc) 158 11 (nI tc)) 158 12 bgv) 158 14 (6 : Int32)) 158 16 (0 : Int32)) 147 14 (6 : Int32)) 147 15 (((upI (upI (upI (upI (upF U 158 9 0 (fun i => (U.2.2.1 158 8).2 (0 + i)) tc) 158 11 (nI tc)) 158 12 bgv) 158 14 (6 : Int32)) 158 16 (0 : Int32)).2.2.1 129 6).2 s0))) := by
  refine mu_meth (M := mu_m369) rfl rfl ?_
  refine mw_ht (mu_fn_of (show [0].Nodup by decide)) ?_
  refine mw_go mu_g369 (k := 2) (f1 := (4, [(0, .inr (.inr (some 158)))], [.inl (mu_i H 158 10)], H)) (C := [mu_is H (some 158) 8]) rfl (show mu_is H (some 158) 8 from (h.1.1.is rfl)) ?_
  rw [(show mu_i H 158 10 = (nI tc) from (ud_i (U := U) (m := m) (P := 158) (j := 10) e rfl).trans htc)]
  refine mw_go mu_g369 (k := 1) (f1 := (7, [(0, .inr (.inr (some 158)))], [.inl (2000 : Int32), .inl (nI tc)], H)) (C := []) rfl trivial ?_
  refine mw_if (P := (2000 : Int32) < (nI tc)) (a := 67) (b := 10) (fun _ => rfl) trivial (fun h1 => absurd h1 (fun z => absurd ((nI_ltI (a := 2000) (b := tc) (by decide) (by omega)).mp z) (by omega))) (fun h1 => ?_)
  refine mw_go mu_g369 (k := 2) (f1 := (14, [(0, .inr (.inr (some 158)))], [.inr (.inr (mu_r H 158 8))], H)) (C := [mu_is H (some 158) 8]) rfl (show mu_is H (some 158) 8 from (h.1.1.is rfl)) ?_
  rw [(h.1.1.r (p := 158) (j := 8) (q := 165) rfl)]
  refine mw_go mu_g369 (k := 3) (f1 := (19, [(0, .inr (.inr (some 158)))], [.inr (.inr (mu_r H 158 9)), .inl (0 : Int32), .inr (.inr (some 165))], H)) (C := [mu_is H (some 158) 8]) rfl (show mu_is H (some 158) 8 from (h.1.1.is rfl)) ?_
  rw [(h.1.1.r (p := 158) (j := 9) (q := 166) rfl)]
  refine mw_go mu_g369 (k := 3) (f1 := (24, [(0, .inr (.inr (some 158)))], [.inl (mu_i H 158 10), .inl (0 : Int32), .inr (.inr (some 166)), .inl (0 : Int32), .inr (.inr (some 165))], H)) (C := [mu_is H (some 158) 8]) rfl (show mu_is H (some 158) 8 from (h.1.1.is rfl)) ?_
  rw [(show mu_i H 158 10 = (nI tc) from (ud_i (U := U) (m := m) (P := 158) (j := 10) e rfl).trans htc)]
  refine mw_copyI (t := 0) rfl (show mu_is H (some 165) 100 from (h.iA e rfl rfl ((ud_q (m := m) (P := 158) (j := 8) e rfl).symm.trans (h.1.1.r (p := 158) (j := 8) (q := 165) rfl)))) (show mu_is H (some 166) 100 from (h.iA e rfl rfl ((ud_q (m := m) (P := 158) (j := 9) e rfl).symm.trans (h.1.1.r (p := 158) (j := 9) (q := 166) rfl)))) (by decide) (by decide) (by decide) (nI_pos (by omega)) (by rw [show mu_n H (mu_p (some 165)) = 2001 from (h.1.1.a (p := 165) (x := (100, 2001)) rfl).2, (show (0 : Int32).toNatClampNeg = 0 from by decide), (show (nI tc).toNatClampNeg = tc from nI_clamp (by omega))]; omega) (by rw [show mu_n H (mu_p (some 166)) = 2000 from (h.1.1.a (p := 166) (x := (100, 2000)) rfl).2, (show (0 : Int32).toNatClampNeg = 0 from by decide), (show (nI tc).toNatClampNeg = tc from nI_clamp (by omega))]; omega) (fun z => by cases z) (by decide) ?_
  rw [(show (0 : Int32).toNatClampNeg = 0 from by decide), (show (nI tc).toNatClampNeg = tc from nI_clamp (by omega))]
  show mu_W _ _ (27, [(0, .inr (.inr (some 158)))], [], (mu_cpi H 165 0 166 0 tc)) _
  obtain ⟨u2, r2, d2⟩ : um m (mu_cpi H 165 0 166 0 tc) ∧ ur m C H (mu_cpi H 165 0 166 0 tc) ∧ ud m (mu_cpi H 165 0 166 0 tc) = (upF U 158 9 0 (fun i => (U.2.2.1 158 8).2 (0 + i)) tc) := h.cA (C := C) e rfl rfl ((ud_q (m := m) (P := 158) (j := 8) e rfl).symm.trans (h.1.1.r (p := 158) (j := 8) (q := 165) rfl)) rfl rfl ((ud_q (m := m) (P := 158) (j := 9) e rfl).symm.trans (h.1.1.r (p := 158) (j := 9) (q := 166) rfl))
  generalize (mu_cpi H 165 0 166 0 tc) = Q2 at u2 r2 d2 ⊢
  have ht2 : ur m C H Q2 := (ur.refl m C H).trans r2
  refine mw_go mu_g369 (k := 3) (f1 := (32, [(0, .inr (.inr (some 158)))], [.inl (mu_i Q2 158 10), .inr (.inr (some 158))], Q2)) (C := [mu_is Q2 (some 158) 8]) rfl (show mu_is Q2 (some 158) 8 from (u2.1.1.is rfl)) ?_
  rw [(show mu_i Q2 158 10 = (nI tc) from (ud_i (U := (upF U 158 9 0 (fun i => (U.2.2.1 158 8).2 (0 + i)) tc)) (m := m) (P := 158) (j := 10) d2 rfl).trans htc)]
  refine mw_go mu_g369 (k := 1) (f1 := (35, [(0, .inr (.inr (some 158)))], [], (mu_si Q2 158 11 (nI tc)))) (C := [mu_is Q2 (some 158) 8]) rfl (show mu_is Q2 (some 158) 8 from (u2.1.1.is rfl)) ?_
  obtain ⟨u3, r3, d3⟩ : um m (mu_si Q2 158 11 (nI tc)) ∧ ur m C Q2 (mu_si Q2 158 11 (nI tc)) ∧ ud m (mu_si Q2 158 11 (nI tc)) = (upI (upF U 158 9 0 (fun i => (U.2.2.1 158 8).2 (0 + i)) tc) 158 11 (nI tc)) := u2.sI (C := C) d2 rfl
  generalize (mu_si Q2 158 11 (nI tc)) = Q3 at u3 r3 d3 ⊢
  have ht3 : ur m C H Q3 := ht2.trans r3
  refine mw_go mu_g369 (k := 3) (f1 := (40, [(0, .inr (.inr (some 158)))], [.inl (mu_i Q3 158 21), .inr (.inr (some 158))], Q3)) (C := [mu_is Q3 (some 158) 8]) rfl (show mu_is Q3 (some 158) 8 from (u3.1.1.is rfl)) ?_
  rw [(show mu_i Q3 158 21 = bgv from (ud_i (U := (upI (upF U 158 9 0 (fun i => (U.2.2.1 158 8).2 (0 + i)) tc) 158 11 (nI tc))) (m := m) (P := 158) (j := 21) d3 rfl).trans hbg)]
  refine mw_go mu_g369 (k := 1) (f1 := (43, [(0, .inr (.inr (some 158)))], [], (mu_si Q3 158 12 bgv))) (C := [mu_is Q3 (some 158) 8]) rfl (show mu_is Q3 (some 158) 8 from (u3.1.1.is rfl)) ?_
  obtain ⟨u4, r4, d4⟩ : um m (mu_si Q3 158 12 bgv) ∧ ur m C Q3 (mu_si Q3 158 12 bgv) ∧ ud m (mu_si Q3 158 12 bgv) = (upI (upI (upF U 158 9 0 (fun i => (U.2.2.1 158 8).2 (0 + i)) tc) 158 11 (nI tc)) 158 12 bgv) := u3.sI (C := C) d3 rfl
  generalize (mu_si Q3 158 12 bgv) = Q4 at u4 r4 d4 ⊢
  have ht4 : ur m C H Q4 := ht3.trans r4
  refine mw_go mu_g369 (k := 3) (f1 := (49, [(0, .inr (.inr (some 158)))], [], (mu_si Q4 158 14 (6 : Int32)))) (C := [mu_is Q4 (some 158) 8]) rfl (show mu_is Q4 (some 158) 8 from (u4.1.1.is rfl)) ?_
  obtain ⟨u5, r5, d5⟩ : um m (mu_si Q4 158 14 (6 : Int32)) ∧ ur m C Q4 (mu_si Q4 158 14 (6 : Int32)) ∧ ud m (mu_si Q4 158 14 (6 : Int32)) = (upI (upI (upI (upF U 158 9 0 (fun i => (U.2.2.1 158 8).2 (0 + i)) tc) 158 11 (nI tc)) 158 12 bgv) 158 14 (6 : Int32)) := u4.sI (C := C) d4 rfl
  generalize (mu_si Q4 158 14 (6 : Int32)) = Q5 at u5 r5 d5 ⊢
  have ht5 : ur m C H Q5 := ht4.trans r5
  refine mw_go mu_g369 (k := 3) (f1 := (54, [(0, .inr (.inr (some 158)))], [], (mu_si Q5 158 16 (0 : Int32)))) (C := [mu_is Q5 (some 158) 8]) rfl (show mu_is Q5 (some 158) 8 from (u5.1.1.is rfl)) ?_
  obtain ⟨u6, r6, d6⟩ : um m (mu_si Q5 158 16 (0 : Int32)) ∧ ur m C Q5 (mu_si Q5 158 16 (0 : Int32)) ∧ ud m (mu_si Q5 158 16 (0 : Int32)) = (upI (upI (upI (upI (upF U 158 9 0 (fun i => (U.2.2.1 158 8).2 (0 + i)) tc) 158 11 (nI tc)) 158 12 bgv) 158 14 (6 : Int32)) 158 16 (0 : Int32)) := u5.sI (C := C) d5 rfl
  generalize (mu_si Q5 158 16 (0 : Int32)) = Q6 at u6 r6 d6 ⊢
  have ht6 : ur m C H Q6 := ht5.trans r6
  refine mw_go mu_g369 (k := 2) (f1 := (58, [(0, .inr (.inr (some 158)))], [.inr (.inr (mu_r Q6 158 1))], Q6)) (C := [mu_is Q6 (some 158) 8]) rfl (show mu_is Q6 (some 158) 8 from (u6.1.1.is rfl)) ?_
  rw [(u6.1.1.r (p := 158) (j := 1) (q := 147) rfl)]
  refine mw_go mu_g369 (k := 2) (f1 := (62, [(0, .inr (.inr (some 158)))], [.inr (.inr (mu_r Q6 158 9)), .inr (.inr (some 147))], Q6)) (C := [mu_is Q6 (some 158) 8]) rfl (show mu_is Q6 (some 158) 8 from (u6.1.1.is rfl)) ?_
  rw [(u6.1.1.r (p := 158) (j := 9) (q := 166) rfl)]
  refine mw_go mu_g369 (k := 2) (f1 := (64, [(0, .inr (.inr (some 158)))], [.inl (mu_i Q6 166 (0 : Int32).toNatClampNeg), .inr (.inr (some 147))], Q6)) (C := [mu_isr Q6 (some 166) 100, vp_in (0 : Int32) (mu_n Q6 166)]) rfl (show (mu_isr Q6 (some 166) 100) ∧ (vp_in (0 : Int32) (mu_n Q6 166)) from ⟨((u6.iA d6 rfl rfl ((ud_q (m := m) (P := 158) (j := 9) d6 rfl).symm.trans (u6.1.1.r (p := 158) (j := 9) (q := 166) rfl)))).r, (by rw [show mu_n Q6 166 = 2000 from (u6.1.1.a (p := 166) (x := (100, 2000)) rfl).2]; exact vp_in_nI (n := 0) (by omega) (by decide))⟩) ?_
  rw [(show (mu_i Q6 166 (0 : Int32).toNatClampNeg) = (nI s0) from ((congrArg (mu_i Q6 166) (show (0 : Int32).toNatClampNeg = 0 from by decide)).trans (u6.gA d6 rfl rfl ((ud_q (m := m) (P := 158) (j := 9) d6 rfl).symm.trans (u6.1.1.r (p := 158) (j := 9) (q := 166) rfl)))).trans ((congrArg (fun z => z.2 0) (show (upI (upI (upI (upI (upF U 158 9 0 (fun i => (U.2.2.1 158 8).2 (0 + i)) tc) 158 11 (nI tc)) 158 12 bgv) 158 14 (6 : Int32)) 158 16 (0 : Int32)).2.2.1 158 9 = ((upI (upI (upI (upI (upF U 158 9 0 (fun i => (U.2.2.1 158 8).2 (0 + i)) tc) 158 11 (nI tc)) 158 12 bgv) 158 14 (6 : Int32)) 158 16 (0 : Int32)).2.2.1 158 9) from rfl)).trans (show _ = nI s0 from (if_pos (by omega)).trans hs0)))]
  refine mw_cV (fun _ => rfl) (show mu_is Q6 (some 147) 2 from (u6.1.1.is rfl)) (gr_fetch (d := d) (C := C) (s := s0) u6 d6 hs6 h6b) (fun Q7 q7 => ?_)
  obtain ⟨u7, r7, d7⟩ := q7
  have ht7 : ur m C H Q7 := ht6.trans r7
  refine mw_go mu_g369 (k := 2) (f1 := (71, [(0, .inr (.inr (some 158)))], [.inl (mu_i Q7 158 10)], Q7)) (C := [mu_is Q7 (some 158) 8]) rfl (show mu_is Q7 (some 158) 8 from (u7.1.1.is rfl)) ?_
  rw [(show mu_i Q7 158 10 = (nI tc) from (ud_i (U := (upI (upI (upI (upI (upI (upI (upF U 158 9 0 (fun i => (U.2.2.1 158 8).2 (0 + i)) tc) 158 11 (nI tc)) 158 12 bgv) 158 14 (6 : Int32)) 158 16 (0 : Int32)) 147 14 (6 : Int32)) 147 15 (((upI (upI (upI (upI (upF U 158 9 0 (fun i => (U.2.2.1 158 8).2 (0 + i)) tc) 158 11 (nI tc)) 158 12 bgv) 158 14 (6 : Int32)) 158 16 (0 : Int32)).2.2.1 129 6).2 s0))) (m := m) (P := 158) (j := 10) d7 rfl).trans htc)]
  exact mw_of (fun _ => mu_ret rfl trivial ⟨(nI tc), Q7, rfl, rfl, u7, ht7, d7⟩)
end Shown
