/-! RELATION: putAside, the table of a factor -/
section Aside
variable {H : mu_H} {U V : Ud} {m d P K nw nf nb ou : Nat} {C : Nat → Nat} {bo : Nat → Nat → Nat} {f bs : Nat → Nat} {nm tm : Nat → Int32} {a b w pv fm mk tk lw : Int32}
/-- PathProver$Relation.putAside(II)V -/
abbrev mu_m308 : ev_M := (6, none, [], ev_b308)
theorem mu_g308 : mu_good mu_m308 := mu_goodk ev_k308
theorem rl_aside (h : um m H) (e : ud m H = U) (hK : (U.1 21).1 = K + 1) (hKb : K ≤ 67108864) (h0 : (U.1 21).2 K 0 = a) (h1 : (U.1 21).2 K 1 = b) (h2 : (U.1 21).2 K 2 = w) (hn : (U.1 25).1 = nw) (hC1 : 2 * ((nw + 1) * 5) + 5 ≤ C 25) (hC2 : C 25 ≤ 8388608) : mu_TV (mu_D (d + 4)) 308 [.inr (.inr (some 129)), .inl pv, .inl fm] H (fun H1 => um m H1 ∧ ur m C H H1 ∧ ud m H1 = (upT (upT U (ap 25 U.1 a b w pv)) (ax 25 (upT U (ap 25 U.1 a b w pv)).1 (nI (U.1 25).1) 4 fm))) := by
  refine mu_meth (M := mu_m308) rfl rfl ?_
  refine mw_ht (mu_fn_of (show [0, 1, 2].Nodup by decide)) ?_
  refine mw_go mu_g308 (k := 2) (f1 := (4, [(0, .inr (.inr (some 129))), (1, .inl pv), (2, .inl fm)], [.inr (.inr (mu_r H 129 0))], H)) (C := [mu_is H (some 129) 9]) rfl (show mu_is H (some 129) 9 from (h.1.1.is rfl)) ?_
  rw [(h.1.1.r (p := 129) (j := 0) (q := 99) rfl)]
  refine mw_go mu_g308 (k := 1) (f1 := (7, [(0, .inr (.inr (some 129))), (1, .inl pv), (2, .inl fm)], [.inr (.inr (mu_r H 99 1))], H)) (C := [mu_is H (some 99) 13]) rfl (show mu_is H (some 99) 13 from (h.1.1.is rfl)) ?_
  rw [(h.1.1.r (p := 99) (j := 1) (q := 100) rfl)]
  refine mw_go mu_g308 (k := 1) (f1 := (10, [(0, .inr (.inr (some 129))), (1, .inl pv), (2, .inl fm)], [.inr (.inr (mu_r H 100 1))], H)) (C := [mu_is H (some 100) 5]) rfl (show mu_is H (some 100) 5 from (h.1.1.is rfl)) ?_
  rw [(h.1.1.r (p := 100) (j := 1) (q := 101) rfl)]
  refine mw_go mu_g308 (k := 3) (f1 := (15, [(3, .inr (.inr (some 101))), (0, .inr (.inr (some 129))), (1, .inl pv), (2, .inl fm)], [.inl (mu_i H 101 2)], H)) (C := [mu_is H (some 101) 10]) rfl (show mu_is H (some 101) 10 from (h.1.1.is rfl)) ?_
  rw [(show mu_i H 101 2 = (nI (K + 1)) from (h.size e (j := 21) (by decide) rfl).trans (congrArg nI ((congrArg Prod.fst (show U.1 21 = (U.1 21) from rfl)).trans (show (U.1 21).1 = K + 1 from hK))))]
  refine mw_go mu_g308 (k := 2) (f1 := (17, [(3, .inr (.inr (some 101))), (0, .inr (.inr (some 129))), (1, .inl pv), (2, .inl fm)], [.inl ((nI (K + 1)) - (1 : Int32))], H)) (C := []) rfl trivial ?_
  rw [(show ((nI (K + 1)) - (1 : Int32)) = (nI ((K + 1) - 1)) from (nI_sub (a := K + 1) (b := 1) (by omega)))]
  refine mw_go mu_g308 (k := 3) (f1 := (23, [(4, .inl (nI ((K + 1) - 1))), (3, .inr (.inr (some 101))), (0, .inr (.inr (some 129))), (1, .inl pv), (2, .inl fm)], [.inr (.inr (mu_r H 129 3))], H)) (C := [mu_is H (some 129) 9]) rfl (show mu_is H (some 129) 9 from (h.1.1.is rfl)) ?_
  rw [(h.1.1.r (p := 129) (j := 3) (q := 132) rfl)]
  refine mw_go mu_g308 (k := 3) (f1 := (27, [(4, .inl (nI ((K + 1) - 1))), (3, .inr (.inr (some 101))), (0, .inr (.inr (some 129))), (1, .inl pv), (2, .inl fm)], [.inl (0 : Int32), .inl (nI ((K + 1) - 1)), .inr (.inr (some 101)), .inr (.inr (some 132))], H)) (C := []) rfl trivial ?_
  refine mw_cIe (fun _ => rfl) (show mu_is H (some 101) 10 from (h.1.1.is rfl)) (h.getr (d := (d + 2)) e (j := 21) (by decide) rfl (nI ((K + 1) - 1)) (c := 0) (by decide)) ?_
  rw [show (tget (U.1 21) (nI ((K + 1) - 1)) 0) = a from ((congrArg (fun z => tget z (nI ((K + 1) - 1)) 0) (show U.1 21 = (U.1 21) from rfl)).trans (tget_nI (by omega))).trans h0]
  refine mw_go mu_g308 (k := 3) (f1 := (34, [(4, .inl (nI ((K + 1) - 1))), (3, .inr (.inr (some 101))), (0, .inr (.inr (some 129))), (1, .inl pv), (2, .inl fm)], [.inl (1 : Int32), .inl (nI ((K + 1) - 1)), .inr (.inr (some 101)), .inl a, .inr (.inr (some 132))], H)) (C := []) rfl trivial ?_
  refine mw_cIe (fun _ => rfl) (show mu_is H (some 101) 10 from (h.1.1.is rfl)) (h.getr (d := (d + 2)) e (j := 21) (by decide) rfl (nI ((K + 1) - 1)) (c := 1) (by decide)) ?_
  rw [show (tget (U.1 21) (nI ((K + 1) - 1)) 1) = b from ((congrArg (fun z => tget z (nI ((K + 1) - 1)) 1) (show U.1 21 = (U.1 21) from rfl)).trans (tget_nI (by omega))).trans h1]
  refine mw_go mu_g308 (k := 3) (f1 := (41, [(4, .inl (nI ((K + 1) - 1))), (3, .inr (.inr (some 101))), (0, .inr (.inr (some 129))), (1, .inl pv), (2, .inl fm)], [.inl (2 : Int32), .inl (nI ((K + 1) - 1)), .inr (.inr (some 101)), .inl b, .inl a, .inr (.inr (some 132))], H)) (C := []) rfl trivial ?_
  refine mw_cIe (fun _ => rfl) (show mu_is H (some 101) 10 from (h.1.1.is rfl)) (h.getr (d := (d + 2)) e (j := 21) (by decide) rfl (nI ((K + 1) - 1)) (c := 2) (by decide)) ?_
  rw [show (tget (U.1 21) (nI ((K + 1) - 1)) 2) = w from ((congrArg (fun z => tget z (nI ((K + 1) - 1)) 2) (show U.1 21 = (U.1 21) from rfl)).trans (tget_nI (by omega))).trans h2]
  refine mw_go mu_g308 (k := 1) (f1 := (45, [(4, .inl (nI ((K + 1) - 1))), (3, .inr (.inr (some 101))), (0, .inr (.inr (some 129))), (1, .inl pv), (2, .inl fm)], [.inl pv, .inl w, .inl b, .inl a, .inr (.inr (some 132))], H)) (C := []) rfl trivial ?_
  refine mw_cI (fun _ => rfl) (show mu_is H (some 132) 10 from (h.1.1.is rfl)) (h.putr (C := C) (d := d) e (j := 25) (Or.inr ⟨by decide, by decide⟩) rfl a b w pv (by show 2 * (((U.1 25).1 + 1) * 5) + 5 ≤ C 25; omega) (by omega)) (fun x4 Q4 q4 => ?_)
  obtain ⟨rfl, u4, r4, d4⟩ := q4
  have ht4 : ur m C H Q4 := (ur.refl m C H).trans r4
  refine mw_go mu_g308 (k := 3) (f1 := (54, [(5, .inl (nI (U.1 25).1)), (4, .inl (nI ((K + 1) - 1))), (3, .inr (.inr (some 101))), (0, .inr (.inr (some 129))), (1, .inl pv), (2, .inl fm)], [.inr (.inr (mu_r Q4 129 3))], Q4)) (C := [mu_is Q4 (some 129) 9]) rfl (show mu_is Q4 (some 129) 9 from (u4.1.1.is rfl)) ?_
  rw [(u4.1.1.r (p := 129) (j := 3) (q := 132) rfl)]
  refine mw_go mu_g308 (k := 3) (f1 := (58, [(5, .inl (nI (U.1 25).1)), (4, .inl (nI ((K + 1) - 1))), (3, .inr (.inr (some 101))), (0, .inr (.inr (some 129))), (1, .inl pv), (2, .inl fm)], [.inl fm, .inl (4 : Int32), .inl (nI (U.1 25).1), .inr (.inr (some 132))], Q4)) (C := []) rfl trivial ?_
  refine mw_cV (fun _ => rfl) (show mu_is Q4 (some 132) 10 from (u4.1.1.is rfl)) (u4.setr (C := C) (d := (d + 2)) d4 (j := 25) (Or.inr ⟨by decide, by decide⟩) rfl (nI (U.1 25).1) fm (c := 4) (by decide)) (fun Q5 q5 => ?_)
  obtain ⟨u5, r5, d5⟩ := q5
  have ht5 : ur m C H Q5 := ht4.trans r5
  exact mw_of (fun _ => mu_ret rfl trivial ⟨Q5, rfl, u5, ht5, d5⟩)
def F304 : Uf := ⟨[24], [(129, 5)], [(129, 4)], [(129, 4)], [], false⟩
theorem opt_tab {s t : Ts} {v : Int32} {nf : Nat} (e : s 24 = t 24) (hn : (t 24).1 = nf) : ax 24 (ap 24 s mk tk v 0) (nI (s 24).1) 4 lw 24 = tset 6 (tput 6 (t 24) mk tk v 0) (nI nf) 4 lw := by
  show fu (fu s 24 (tput (wa 24) (s 24) mk tk v 0)) 24 (tset (wa 24) ((fu s 24 (tput (wa 24) (s 24) mk tk v 0)) 24) (nI (s 24).1) 4 lw) 24 = _
  rw [fu_at, fu_at, e, hn]
  rfl

/-- PathProver$Relation.openTable(II)I -/
abbrev mu_m304 : ev_M := (6, (some .int), [], ev_b304)
theorem mu_g304 : mu_good mu_m304 := mu_goodk ev_k304
theorem rl_opent (h : um m H) (e : ud m H = U) (hS : spx m U P f) (hF : FMS U nf nm tm nb bo) (hbs : ∀ q, q < nf → (U.1 24).2 q 2 = nI (bs q)) (hou : U.2.1 129 5 = nI ou) (hol : OLN (U.2.2.1 129 4).1) (hob : ou ≤ (U.2.2.1 129 4).1) (hfit : (∀ q, ¬ KNF nf nm tm (bo (nb - 1) 0) mk tk q) → ou + pm mk f P ≤ 32768) (hlv : (31 : Int32) - ji_lz tk = lw) (hC1 : 2 * ((nf + 1) * 6) + 6 ≤ C 24) (hC2 : C 24 ≤ 8388608) : mu_TI (mu_D (d + 4)) 304 [.inr (.inr (some 129)), .inl mk, .inl tk] H (fun x H1 => (H1 = H ∧ ∃ q, KNF nf nm tm (bo (nb - 1) 0) mk tk q ∧ x = nI (bs q)) ∨ ((∀ q, ¬ KNF nf nm tm (bo (nb - 1) 0) mk tk q) ∧ x = nI ou ∧ um m H1 ∧ ur m C H H1 ∧ uq F304 U (ud m H1) ∧ (ud m H1).2.1 129 5 = nI (ou + pm mk f P) ∧ (ou + pm mk f P ≤ ((ud m H1).2.2.1 129 4).1 ∧ OLN ((ud m H1).2.2.1 129 4).1 ∧ ∀ j, j < ou → ((ud m H1).2.2.1 129 4).2 j = (U.2.2.1 129 4).2 j) ∧ (ud m H1).1 24 = tset 6 (tput 6 (U.1 24) mk tk (nI ou) 0) (nI nf) 4 lw)) := by
  obtain ⟨⟨s4, s10, s11, s12⟩, hk5, ⟨g8, g8b, g18, g18b⟩, ⟨gP, gpd, gsm⟩, hsp, hmo⟩ := (show spx m U P f from hS)
  have hpm := pm_le (mk := mk) (f := f) (n := P) (fun k hk => Nat.le_trans (by decide) (hk5 k hk).2.2.2)
  have hnfb0 := hF.1
  refine mu_meth (M := mu_m304) rfl rfl ?_
  refine mw_ht (mu_fn_of (show [0, 1, 2].Nodup by decide)) ?_
  refine mw_go mu_g304 (k := 3) (f1 := (3, [(0, .inr (.inr (some 129))), (1, .inl mk), (2, .inl tk)], [.inl tk, .inl mk, .inr (.inr (some 129))], H)) (C := []) rfl trivial ?_
  refine mw_cI (fun _ => rfl) (show mu_is H (some 129) 9 from (h.1.1.is rfl)) (rl_facof (d := (d + 1)) (mk := mk) (tk := tk) h e hF) (fun x1 H1 q1 => ?_)
  rcases q1 with ⟨hQe, hx1, hno⟩ | ⟨qk, hQe, hx1, hqk⟩
  · -- (-1 : Int32)
    rw [hQe, hx1]
    refine mw_go mu_g304 (k := 2) (f1 := (8, [(3, .inl (-1 : Int32)), (0, .inr (.inr (some 129))), (1, .inl mk), (2, .inl tk)], [.inl (-1 : Int32)], H)) (C := []) rfl trivial ?_
    refine mw_if (P := (-1 : Int32) < 0) (a := 21) (b := 11) (fun _ => rfl) trivial (fun h2 => ?_) (fun h2 => absurd (by decide) h2)
    refine mw_go mu_g304 (k := 3) (f1 := (26, [(3, .inl (-1 : Int32)), (0, .inr (.inr (some 129))), (1, .inl mk), (2, .inl tk)], [.inr (.inr (mu_r H 129 0)), .inr (.inr (some 129))], H)) (C := [mu_is H (some 129) 9]) rfl (show mu_is H (some 129) 9 from (h.1.1.is rfl)) ?_
    rw [(h.1.1.r (p := 129) (j := 0) (q := 99) rfl)]
    refine mw_go mu_g304 (k := 1) (f1 := (27, [(3, .inl (-1 : Int32)), (0, .inr (.inr (some 129))), (1, .inl mk), (2, .inl tk)], [.inl mk, .inr (.inr (some 99)), .inr (.inr (some 129))], H)) (C := []) rfl trivial ?_
    refine mw_cIe (fun _ => rfl) (show mu_is H (some 99) 13 from (h.1.1.is rfl)) (sp_over (d := (d + 2)) (mk := mk) h e hS) ?_
    refine mw_cI (fun _ => rfl) (show mu_is H (some 129) 9 from (h.1.1.is rfl)) (rl_reserve (d := d) (C := C) (ou := ou) (mn := pm mk f P) h e hou hol hob (hfit hno)) (fun x4 Q4 q4 => ?_)
    obtain ⟨rfl, u4, r4, z4, y5, y4, yl, yo⟩ := q4
    have ht4 : ur m C H Q4 := (ur.refl m C H).trans r4
    obtain ⟨V4, d4⟩ : ∃ V, ud m Q4 = V := ⟨_, rfl⟩
    rw [d4] at z4 y5 y4 yl yo
    have qf4 : uq F304 U V4 := (uq.refl F304 U).tr z4 rfl
    refine mw_go mu_g304 (k := 3) (f1 := (39, [(4, .inl (nI ou)), (3, .inl (-1 : Int32)), (0, .inr (.inr (some 129))), (1, .inl mk), (2, .inl tk)], [.inr (.inr (mu_r Q4 129 1))], Q4)) (C := [mu_is Q4 (some 129) 9]) rfl (show mu_is Q4 (some 129) 9 from (u4.1.1.is rfl)) ?_
    rw [(u4.1.1.r (p := 129) (j := 1) (q := 130) rfl)]
    refine mw_go mu_g304 (k := 4) (f1 := (44, [(4, .inl (nI ou)), (3, .inl (-1 : Int32)), (0, .inr (.inr (some 129))), (1, .inl mk), (2, .inl tk)], [.inl (0 : Int32), .inl (nI ou), .inl tk, .inl mk, .inr (.inr (some 130))], Q4)) (C := []) rfl trivial ?_
    refine mw_cI (fun _ => rfl) (show mu_is Q4 (some 130) 10 from (u4.1.1.is rfl)) (u4.putr (C := C) (d := d) d4 (j := 24) (Or.inr ⟨by decide, by decide⟩) rfl mk tk (nI ou) (0 : Int32) (by have y := congrArg Prod.fst (show V4.1 24 = U.1 24 from (z4.t 24 rfl)); have y2 := hF.1.1; show 2 * (((V4.1 24).1 + 1) * 6) + 6 ≤ C 24; omega) (by omega)) (fun x5 Q5 q5 => ?_)
    obtain ⟨rfl, u5, r5, d5⟩ := q5
    have ht5 : ur m C H Q5 := ht4.trans r5
    have qf5 : uq F304 U (upT V4 (ap 24 V4.1 mk tk (nI ou) (0 : Int32))) := qf4.ap rfl
    refine mw_go mu_g304 (k := 3) (f1 := (53, [(5, .inl (nI (V4.1 24).1)), (4, .inl (nI ou)), (3, .inl (-1 : Int32)), (0, .inr (.inr (some 129))), (1, .inl mk), (2, .inl tk)], [.inr (.inr (mu_r Q5 129 1))], Q5)) (C := [mu_is Q5 (some 129) 9]) rfl (show mu_is Q5 (some 129) 9 from (u5.1.1.is rfl)) ?_
    rw [(u5.1.1.r (p := 129) (j := 1) (q := 130) rfl)]
    refine mw_go mu_g304 (k := 3) (f1 := (57, [(5, .inl (nI (V4.1 24).1)), (4, .inl (nI ou)), (3, .inl (-1 : Int32)), (0, .inr (.inr (some 129))), (1, .inl mk), (2, .inl tk)], [.inl tk, .inl (4 : Int32), .inl (nI (V4.1 24).1), .inr (.inr (some 130))], Q5)) (C := []) rfl trivial ?_
    refine mw_cIe (fun _ => rfl) trivial (rl_level (d := (d + 1))) ?_
    rw [show (31 : Int32) - ji_lz tk = lw from hlv]
    refine mw_cV (fun _ => rfl) (show mu_is Q5 (some 130) 10 from (u5.1.1.is rfl)) (u5.setr (C := C) (d := (d + 2)) d5 (j := 24) (Or.inr ⟨by decide, by decide⟩) rfl (nI (V4.1 24).1) lw (c := 4) (by decide)) (fun Q7 q7 => ?_)
    obtain ⟨u7, r7, d7⟩ := q7
    have ht7 : ur m C H Q7 := ht5.trans r7
    have qf7 : uq F304 U (upT (upT V4 (ap 24 V4.1 mk tk (nI ou) (0 : Int32))) (ax 24 (upT V4 (ap 24 V4.1 mk tk (nI ou) (0 : Int32))).1 (nI (V4.1 24).1) 4 lw)) := qf5.ax rfl
    refine mw_go mu_g304 (k := 1) (f1 := (65, [(5, .inl (nI (V4.1 24).1)), (4, .inl (nI ou)), (3, .inl (-1 : Int32)), (0, .inr (.inr (some 129))), (1, .inl mk), (2, .inl tk)], [.inl (nI ou)], Q7)) (C := []) rfl trivial ?_
    exact mw_of (fun _ => mu_ret rfl trivial ⟨_, Q7, rfl, Or.inr ⟨hno, rfl, u7, ht7, (by rw [d7]; exact qf7), (by rw [d7]; exact y5), (by rw [d7]; exact ⟨y4, yl, yo⟩), (by rw [d7]; show ax 24 (ap 24 V4.1 mk tk (nI ou) 0) _ 4 lw 24 = _; exact opt_tab (z4.t 24 rfl) hF.1.1)⟩⟩)
  · -- (nI qk)
    rw [hQe, hx1]
    have hqk2 := hqk.1.2
    have hnfb := hF.1.2
    refine mw_go mu_g304 (k := 2) (f1 := (8, [(3, .inl (nI qk)), (0, .inr (.inr (some 129))), (1, .inl mk), (2, .inl tk)], [.inl (nI qk)], H)) (C := []) rfl trivial ?_
    refine mw_if (P := (nI qk) < 0) (a := 21) (b := 11) (fun _ => rfl) trivial (fun h8 => absurd h8 (nI_pos (by omega))) (fun h8 => ?_)
    refine mw_go mu_g304 (k := 2) (f1 := (15, [(3, .inl (nI qk)), (0, .inr (.inr (some 129))), (1, .inl mk), (2, .inl tk)], [.inr (.inr (mu_r H 129 1))], H)) (C := [mu_is H (some 129) 9]) rfl (show mu_is H (some 129) 9 from (h.1.1.is rfl)) ?_
    rw [(h.1.1.r (p := 129) (j := 1) (q := 130) rfl)]
    refine mw_go mu_g304 (k := 2) (f1 := (17, [(3, .inl (nI qk)), (0, .inr (.inr (some 129))), (1, .inl mk), (2, .inl tk)], [.inl (2 : Int32), .inl (nI qk), .inr (.inr (some 130))], H)) (C := []) rfl trivial ?_
    refine mw_cIe (fun _ => rfl) (show mu_is H (some 130) 10 from (h.1.1.is rfl)) (h.getr (d := (d + 2)) e (j := 24) (by decide) rfl (nI qk) (c := 2) (by decide)) ?_
    rw [show (tget (U.1 24) (nI qk) 2) = (nI (bs qk)) from ((congrArg (fun z => tget z (nI qk) 2) (show U.1 24 = (U.1 24) from rfl)).trans (tget_nI (by omega))).trans (hbs qk hqk2)]
    exact mw_of (fun _ => mu_ret rfl trivial ⟨_, H, rfl, Or.inl ⟨rfl, qk, hqk, rfl⟩⟩)
theorem rl_opentN (h : um m H) (e : ud m H = U) (hS : spx m U P f) (hF : FMS U nf nm tm nb bo) (hbs : ∀ q, q < nf → (U.1 24).2 q 2 = nI (bs q)) (hou : U.2.1 129 5 = nI ou) (hol : OLN (U.2.2.1 129 4).1) (hob : ou ≤ (U.2.2.1 129 4).1) (hfit : (∀ q, ¬ KNF nf nm tm (bo (nb - 1) 0) mk tk q) → ou + pm mk f P ≤ 32768) (hlv : (31 : Int32) - ji_lz tk = lw) (hC1 : 2 * ((nf + 1) * 6) + 6 ≤ C 24) (hC2 : C 24 ≤ 8388608) (hno : ∀ q, ¬ KNF nf nm tm (bo (nb - 1) 0) mk tk q) : mu_TI (mu_D (d + 4)) 304 [.inr (.inr (some 129)), .inl mk, .inl tk] H (fun x H1 => x = nI ou ∧ um m H1 ∧ ur m C H H1 ∧ uq F304 U (ud m H1) ∧ (ud m H1).2.1 129 5 = nI (ou + pm mk f P) ∧ (ou + pm mk f P ≤ ((ud m H1).2.2.1 129 4).1 ∧ OLN ((ud m H1).2.2.1 129 4).1 ∧ ∀ j, j < ou → ((ud m H1).2.2.1 129 4).2 j = (U.2.2.1 129 4).2 j) ∧ (ud m H1).1 24 = tset 6 (tput 6 (U.1 24) mk tk (nI ou) 0) (nI nf) 4 lw) :=
  (rl_opent h e hS hF hbs hou hol hob hfit hlv hC1 hC2).imp (fun x H1 q => q.elim (fun ⟨_, r, y, _⟩ => absurd y (hno r)) (fun y => y.2))
theorem rl_opentK (h : um m H) (e : ud m H = U) (hS : spx m U P f) (hF : FMS U nf nm tm nb bo) (hbs : ∀ q, q < nf → (U.1 24).2 q 2 = nI (bs q)) (hou : U.2.1 129 5 = nI ou) (hol : OLN (U.2.2.1 129 4).1) (hob : ou ≤ (U.2.2.1 129 4).1) (hfit : (∀ q, ¬ KNF nf nm tm (bo (nb - 1) 0) mk tk q) → ou + pm mk f P ≤ 32768) (hlv : (31 : Int32) - ji_lz tk = lw) (hC1 : 2 * ((nf + 1) * 6) + 6 ≤ C 24) (hC2 : C 24 ≤ 8388608) {qk : Nat} (hk : KNF nf nm tm (bo (nb - 1) 0) mk tk qk) : mu_TI (mu_D (d + 4)) 304 [.inr (.inr (some 129)), .inl mk, .inl tk] H (fun x H1 => ∃ q, KNF nf nm tm (bo (nb - 1) 0) mk tk q ∧ x = nI (bs q) ∧ H1 = H) :=
  (rl_opent h e hS hF hbs hou hol hob hfit hlv hC1 hC2).imp (fun x H1 q => q.elim (fun ⟨y1, r, y2, y3⟩ => ⟨r, y2, y3, y1⟩) (fun y => absurd hk (y.1 qk)))
end Aside
