/-! GRAPH: nodes -/
section Nodes
variable {H : mu_H} {U V : Ud} {m d r c mb R fb N s q b : Nat} {C : Nat → Nat} {v : Int32}
/-- PathProver$Graph.node(II)I -/
abbrev mu_m318 : ev_M := (3, (some .int), [], ev_b318)
theorem mu_g318 : mu_good mu_m318 := mu_goodk ev_k318
theorem gr_node (h : um m H) (e : ud m H = U) (hi : r * 7 + c < (U.2.2.1 147 10).1) (hb : (U.2.2.1 147 10).1 ≤ 16777216) : mu_TI (mu_D (d + 1)) 318 [.inr (.inr (some 147)), .inl (nI r), .inl (nI c)] H (fun x H1 => x = (U.2.2.1 147 10).2 (r * 7 + c) ∧ H1 = H) := by
  refine mu_meth (M := mu_m318) rfl rfl ?_
  refine mw_ht (mu_fn_of (show [0, 1, 2].Nodup by decide)) ?_
  refine mw_go mu_g318 (k := 2) (f1 := (4, [(0, .inr (.inr (some 147))), (1, .inl (nI r)), (2, .inl (nI c))], [.inr (.inr (mu_r H 147 10))], H)) (C := [mu_is H (some 147) 2]) rfl (show mu_is H (some 147) 2 from (h.1.1.is rfl)) ?_
  rw [(show mu_r H 147 10 = (U.2.2.2.1 147 10) from (ud_q (U := U) (m := m) (P := 147) (j := 10) e rfl))]
  refine mw_go mu_g318 (k := 3) (f1 := (8, [(0, .inr (.inr (some 147))), (1, .inl (nI r)), (2, .inl (nI c))], [.inl ((nI r) * (7 : Int32)), .inr (.inr (U.2.2.2.1 147 10))], H)) (C := []) rfl trivial ?_
  rw [(show ((nI r) * (7 : Int32)) = (nI (r * 7)) from (nI_mul (a := r) (b := 7)))]
  refine mw_go mu_g318 (k := 2) (f1 := (10, [(0, .inr (.inr (some 147))), (1, .inl (nI r)), (2, .inl (nI c))], [.inl ((nI (r * 7)) + (nI c)), .inr (.inr (U.2.2.2.1 147 10))], H)) (C := []) rfl trivial ?_
  rw [(show ((nI (r * 7)) + (nI c)) = (nI ((r * 7) + c)) from (nI_add (r * 7) c))]
  refine mw_go mu_g318 (k := 1) (f1 := (11, [(0, .inr (.inr (some 147))), (1, .inl (nI r)), (2, .inl (nI c))], [.inl (mu_i H (mu_p (U.2.2.2.1 147 10)) (nI ((r * 7) + c)).toNatClampNeg)], H)) (C := [mu_isr H (U.2.2.2.1 147 10) 100, vp_in (nI ((r * 7) + c)) (mu_n H (mu_p (U.2.2.2.1 147 10)))]) rfl (show (mu_isr H (U.2.2.2.1 147 10) 100) ∧ (vp_in (nI ((r * 7) + c)) (mu_n H (mu_p (U.2.2.2.1 147 10)))) from ⟨((h.iA e rfl rfl (show U.2.2.2.1 147 10 = (U.2.2.2.1 147 10) from rfl))).r, (h.vA (i := (r * 7) + c) e rfl rfl (show U.2.2.2.1 147 10 = (U.2.2.2.1 147 10) from rfl) (show (U.2.2.1 147 10).1 = (U.2.2.1 147 10).1 from rfl) (by omega) (by omega))⟩) ?_
  rw [(show (mu_i H (mu_p (U.2.2.2.1 147 10)) (nI ((r * 7) + c)).toNatClampNeg) = ((U.2.2.1 147 10).2 ((r * 7) + c)) from ((congrArg (mu_i H (mu_p (U.2.2.2.1 147 10))) (show (nI ((r * 7) + c)).toNatClampNeg = (r * 7) + c from nI_clamp (by omega))).trans (h.gA e rfl rfl (show U.2.2.2.1 147 10 = (U.2.2.2.1 147 10) from rfl))).trans ((congrArg (fun z => z.2 ((r * 7) + c)) (show U.2.2.1 147 10 = (U.2.2.1 147 10) from rfl)).trans rfl))]
  exact mw_of (fun _ => mu_ret rfl trivial ⟨_, H, rfl, rfl, rfl⟩)
/-- PathProver$Graph.setNode(III)V -/
abbrev mu_m319 : ev_M := (4, none, [], ev_b319)
theorem mu_g319 : mu_good mu_m319 := mu_goodk ev_k319
theorem gr_set (h : um m H) (e : ud m H = U) (hi : r * 7 + c < (U.2.2.1 147 10).1) (hb : (U.2.2.1 147 10).1 ≤ 16777216) : mu_TV (mu_D (d + 1)) 319 [.inr (.inr (some 147)), .inl (nI r), .inl (nI c), .inl v] H (fun H1 => um m H1 ∧ ur m C H H1 ∧ ud m H1 = upA U 147 10 (r * 7 + c) v) := by
  refine mu_meth (M := mu_m319) rfl rfl ?_
  refine mw_ht (mu_fn_of (show [0, 1, 2, 3].Nodup by decide)) ?_
  refine mw_go mu_g319 (k := 2) (f1 := (4, [(0, .inr (.inr (some 147))), (1, .inl (nI r)), (2, .inl (nI c)), (3, .inl v)], [.inr (.inr (mu_r H 147 10))], H)) (C := [mu_is H (some 147) 2]) rfl (show mu_is H (some 147) 2 from (h.1.1.is rfl)) ?_
  rw [(show mu_r H 147 10 = (U.2.2.2.1 147 10) from (ud_q (U := U) (m := m) (P := 147) (j := 10) e rfl))]
  refine mw_go mu_g319 (k := 3) (f1 := (8, [(0, .inr (.inr (some 147))), (1, .inl (nI r)), (2, .inl (nI c)), (3, .inl v)], [.inl ((nI r) * (7 : Int32)), .inr (.inr (U.2.2.2.1 147 10))], H)) (C := []) rfl trivial ?_
  rw [(show ((nI r) * (7 : Int32)) = (nI (r * 7)) from (nI_mul (a := r) (b := 7)))]
  refine mw_go mu_g319 (k := 2) (f1 := (10, [(0, .inr (.inr (some 147))), (1, .inl (nI r)), (2, .inl (nI c)), (3, .inl v)], [.inl ((nI (r * 7)) + (nI c)), .inr (.inr (U.2.2.2.1 147 10))], H)) (C := []) rfl trivial ?_
  rw [(show ((nI (r * 7)) + (nI c)) = (nI ((r * 7) + c)) from (nI_add (r * 7) c))]
  refine mw_go mu_g319 (k := 2) (f1 := (12, [(0, .inr (.inr (some 147))), (1, .inl (nI r)), (2, .inl (nI c)), (3, .inl v)], [], (mu_si H (mu_p (U.2.2.2.1 147 10)) (nI ((r * 7) + c)).toNatClampNeg v))) (C := [mu_is H (U.2.2.2.1 147 10) 100, vp_in (nI ((r * 7) + c)) (mu_n H (mu_p (U.2.2.2.1 147 10)))]) rfl (show (mu_is H (U.2.2.2.1 147 10) 100) ∧ (vp_in (nI ((r * 7) + c)) (mu_n H (mu_p (U.2.2.2.1 147 10)))) from ⟨(h.iA e rfl rfl (show U.2.2.2.1 147 10 = (U.2.2.2.1 147 10) from rfl)), (h.vA (i := (r * 7) + c) e rfl rfl (show U.2.2.2.1 147 10 = (U.2.2.2.1 147 10) from rfl) (show (U.2.2.1 147 10).1 = (U.2.2.1 147 10).1 from rfl) (by omega) (by omega))⟩) ?_
  rw [(show (nI ((r * 7) + c)).toNatClampNeg = (r * 7) + c from nI_clamp (by omega))]
  obtain ⟨u1, r1, d1⟩ : um m (mu_si H (mu_p (U.2.2.2.1 147 10)) ((r * 7) + c) v) ∧ ur m C H (mu_si H (mu_p (U.2.2.2.1 147 10)) ((r * 7) + c) v) ∧ ud m (mu_si H (mu_p (U.2.2.2.1 147 10)) ((r * 7) + c) v) = (upA U 147 10 ((r * 7) + c) v) := h.sA (C := C) e rfl rfl (show U.2.2.2.1 147 10 = (U.2.2.2.1 147 10) from rfl)
  generalize (mu_si H (mu_p (U.2.2.2.1 147 10)) ((r * 7) + c) v) = Q1 at u1 r1 d1 ⊢
  have ht1 : ur m C H Q1 := (ur.refl m C H).trans r1
  exact mw_of (fun _ => mu_ret rfl trivial ⟨Q1, rfl, u1, ht1, d1⟩)
/-- PathProver$Graph.memberOf(I)I -/
abbrev mu_m309 : ev_M := (2, (some .int), [], ev_b309)
theorem mu_g309 : mu_good mu_m309 := mu_goodk ev_k309
theorem gr_member (h : um m H) (e : ud m H = U) (hi : r * 7 < (U.2.2.1 147 10).1) (hb : (U.2.2.1 147 10).1 ≤ 16777216) (hm : (U.2.2.1 147 10).2 (r * 7 + 0) = nI mb) (hmb : mb < (U.2.2.1 147 11).1) (hb2 : (U.2.2.1 147 11).1 ≤ 16777216) : mu_TI (mu_D (d + 2)) 309 [.inr (.inr (some 147)), .inl (nI r)] H (fun x H1 => x = (U.2.2.1 147 11).2 mb ∧ H1 = H) := by
  refine mu_meth (M := mu_m309) rfl rfl ?_
  refine mw_ht (mu_fn_of (show [0, 1].Nodup by decide)) ?_
  refine mw_go mu_g309 (k := 2) (f1 := (4, [(0, .inr (.inr (some 147))), (1, .inl (nI r))], [.inr (.inr (mu_r H 147 11))], H)) (C := [mu_is H (some 147) 2]) rfl (show mu_is H (some 147) 2 from (h.1.1.is rfl)) ?_
  rw [(show mu_r H 147 11 = (U.2.2.2.1 147 11) from (ud_q (U := U) (m := m) (P := 147) (j := 11) e rfl))]
  refine mw_go mu_g309 (k := 3) (f1 := (7, [(0, .inr (.inr (some 147))), (1, .inl (nI r))], [.inl (0 : Int32), .inl (nI r), .inr (.inr (some 147)), .inr (.inr (U.2.2.2.1 147 11))], H)) (C := []) rfl trivial ?_
  refine mw_cIe (fun _ => rfl) (show mu_is H (some 147) 2 from (h.1.1.is rfl)) (gr_node (d := d) (r := r) (c := 0) h e (by omega) hb) ?_
  rw [show (U.2.2.1 147 10).2 (r * 7 + 0) = nI mb from hm]
  refine mw_go mu_g309 (k := 1) (f1 := (11, [(0, .inr (.inr (some 147))), (1, .inl (nI r))], [.inl (mu_i H (mu_p (U.2.2.2.1 147 11)) (nI mb).toNatClampNeg)], H)) (C := [mu_isr H (U.2.2.2.1 147 11) 100, vp_in (nI mb) (mu_n H (mu_p (U.2.2.2.1 147 11)))]) rfl (show (mu_isr H (U.2.2.2.1 147 11) 100) ∧ (vp_in (nI mb) (mu_n H (mu_p (U.2.2.2.1 147 11)))) from ⟨((h.iA e rfl rfl (show U.2.2.2.1 147 11 = (U.2.2.2.1 147 11) from rfl))).r, (h.vA (i := mb) e rfl rfl (show U.2.2.2.1 147 11 = (U.2.2.2.1 147 11) from rfl) (show (U.2.2.1 147 11).1 = (U.2.2.1 147 11).1 from rfl) (by omega) (by omega))⟩) ?_
  rw [(show (mu_i H (mu_p (U.2.2.2.1 147 11)) (nI mb).toNatClampNeg) = ((U.2.2.1 147 11).2 mb) from ((congrArg (mu_i H (mu_p (U.2.2.2.1 147 11))) (show (nI mb).toNatClampNeg = mb from nI_clamp (by omega))).trans (h.gA e rfl rfl (show U.2.2.2.1 147 11 = (U.2.2.2.1 147 11) from rfl))).trans ((congrArg (fun z => z.2 mb) (show U.2.2.1 147 11 = (U.2.2.1 147 11) from rfl)).trans rfl))]
  exact mw_of (fun _ => mu_ret rfl trivial ⟨_, H, rfl, rfl, rfl⟩)
def F315 : Uf := ⟨[], [], [(147, 10)], [], [], false⟩
def F315a : Uf := ⟨[], [], [(147, 10)], [], [], false⟩
/-- PathProver$Graph.clearNodes()V -/
abbrev mu_m315 : ev_M := (3, none, [], ev_b315)
theorem mu_g315 : mu_good mu_m315 := mu_goodk ev_k315
theorem gr_clear (h : um m H) (e : ud m H = U) (hN : U.2.1 113 2 = nI N) (hfb : U.2.1 113 8 = nI fb) (hfN : fb ≤ N) (hR : R = N - fb) (hRl : 7 * R ≤ (U.2.2.1 147 10).1) (hb : (U.2.2.1 147 10).1 ≤ 16777216) : mu_TV (mu_D (d + 2)) 315 [.inr (.inr (some 147))] H (fun H1 => um m H1 ∧ ur m C H H1 ∧ uq F315 U (ud m H1) ∧ ∀ j, ((ud m H1).2.2.1 147 10).2 j = if j < 7 * R ∧ j % 7 = 1 then 0 else (U.2.2.1 147 10).2 j) := by
  refine mu_meth (M := mu_m315) rfl rfl ?_
  refine mw_ht (mu_fn_of (show [0].Nodup by decide)) ?_
  refine mw_go mu_g315 (k := 2) (f1 := (4, [(0, .inr (.inr (some 147)))], [.inr (.inr (mu_r H 147 1))], H)) (C := [mu_is H (some 147) 2]) rfl (show mu_is H (some 147) 2 from (h.1.1.is rfl)) ?_
  rw [(h.1.1.r (p := 147) (j := 1) (q := 129) rfl)]
  refine mw_cIe (fun _ => rfl) (show mu_is H (some 129) 9 from (h.1.1.is rfl)) (rl_rows (d := d) h e hfb hN hfN) ?_
  rw [show nI (N - fb) = nI R from congrArg nI hR.symm]
  refine mw_go mu_g315 (k := 2) (f1 := (10, [(0, .inr (.inr (some 147)))], [.inl ((nI R) * (7 : Int32))], H)) (C := []) rfl trivial ?_
  rw [(show ((nI R) * (7 : Int32)) = (nI (R * 7)) from (nI_mul (a := R) (b := 7)))]
  refine mw_go mu_g315 (k := 3) (f1 := (13, [(2, .inl (1 : Int32)), (1, .inl (nI (R * 7))), (0, .inr (.inr (some 147)))], [], H)) (C := []) rfl trivial ?_
  show mu_W _ _ (13, [(2, .inl (nI (7 * 0 + 1))), (1, .inl (nI (R * 7))), (0, .inr (.inr (some 147)))], [], H) _
  refine mw_sub (L' := [(2, .inl (nI (7 * 0 + 1))), (0, .inr (.inr (some 147))), (1, .inl (nI (R * 7)))]) (by simp) ?_
  refine mw_down (α := Nat × mu_H) (fun zs => (13, [(2, .inl (nI (7 * zs.1 + 1))), (0, .inr (.inr (some 147))), (1, .inl (nI (R * 7)))], [], zs.2)) (fun zs => R - zs.1) (fun zs => um m zs.2 ∧ ur m C H zs.2 ∧ (uq F315a U (ud m zs.2)) ∧ (zs.1 ≤ R) ∧ (∀ j, ((ud m zs.2).2.2.1 147 10).2 j = if j < 7 * zs.1 ∧ j % 7 = 1 then 0 else (U.2.2.1 147 10).2 j)) (fun zs hza iha => ?_) (0, H) ⟨h, (ur.refl m C H), (show uq F315a U (ud m H) from by rw [e]; exact uq.refl _ _), (show 0 ≤ R from (by omega)), (show ∀ j, ((ud m H).2.2.1 147 10).2 j = if j < 7 * 0 ∧ j % 7 = 1 then 0 else (U.2.2.1 147 10).2 j from by rw [e]; exact (fun j => by rw [if_neg (by omega)]))⟩
  obtain ⟨x, Hsa⟩ := zs
  obtain ⟨ua, hta, da, hx, hcl⟩ := hza
  have ua : um m Hsa := ua
  have hta : ur m C H Hsa := hta
  have zza : uq F315a U (ud m Hsa) := da
  have hx : x ≤ R := hx
  have hcl : ∀ j, ((ud m Hsa).2.2.1 147 10).2 j = if j < 7 * x ∧ j % 7 = 1 then 0 else (U.2.2.1 147 10).2 j := hcl
  obtain ⟨Va, da⟩ : ∃ V, ud m Hsa = V := ⟨_, rfl⟩
  rw [da] at zza hcl
  have qfa : uq F315 U Va := (uq.refl F315 U).tr zza rfl
  show mu_W _ _ (13, [(2, .inl (nI (7 * x + 1))), (0, .inr (.inr (some 147))), (1, .inl (nI (R * 7)))], [], Hsa) _
  refine mw_go mu_g315 (k := 2) (f1 := (15, [(2, .inl (nI (7 * x + 1))), (0, .inr (.inr (some 147))), (1, .inl (nI (R * 7)))], [.inl (nI (R * 7)), .inl (nI (7 * x + 1))], Hsa)) (C := []) rfl trivial ?_
  refine mw_if (P := (nI (7 * x + 1)) < (nI (R * 7))) (a := 18) (b := 31) (fun _ => rfl) trivial (fun h2 => ?_) (fun h2 => ?_)
  · -- 18: (nI (7 * x + 1)) < (nI (R * 7))
    have nh2 : (7 * x + 1) < (R * 7) := (nI_ltI (by omega) (by omega)).mp (show nI (7 * x + 1) < nI (R * 7) from h2)
    refine mw_go mu_g315 (k := 2) (f1 := (22, [(2, .inl (nI (7 * x + 1))), (0, .inr (.inr (some 147))), (1, .inl (nI (R * 7)))], [.inr (.inr (mu_r Hsa 147 10))], Hsa)) (C := [mu_is Hsa (some 147) 2]) rfl (show mu_is Hsa (some 147) 2 from (ua.1.1.is rfl)) ?_
    rw [(show mu_r Hsa 147 10 = (U.2.2.2.1 147 10) from (ud_q (U := Va) (m := m) (P := 147) (j := 10) da rfl).trans (zza.r 147 10 rfl))]
    refine mw_go mu_g315 (k := 3) (f1 := (25, [(2, .inl (nI (7 * x + 1))), (0, .inr (.inr (some 147))), (1, .inl (nI (R * 7)))], [], (mu_si Hsa (mu_p (U.2.2.2.1 147 10)) (nI (7 * x + 1)).toNatClampNeg (0 : Int32)))) (C := [mu_is Hsa (U.2.2.2.1 147 10) 100, vp_in (nI (7 * x + 1)) (mu_n Hsa (mu_p (U.2.2.2.1 147 10)))]) rfl (show (mu_is Hsa (U.2.2.2.1 147 10) 100) ∧ (vp_in (nI (7 * x + 1)) (mu_n Hsa (mu_p (U.2.2.2.1 147 10)))) from ⟨(ua.iA da rfl rfl (show Va.2.2.2.1 147 10 = (U.2.2.2.1 147 10) from (zza.r 147 10 rfl))), (ua.vA (i := 7 * x + 1) da rfl rfl (show Va.2.2.2.1 147 10 = (U.2.2.2.1 147 10) from (zza.r 147 10 rfl)) (show (Va.2.2.1 147 10).1 = (U.2.2.1 147 10).1 from (zza.n 147 10 rfl)) (by omega) (by omega))⟩) ?_
    rw [(show (nI (7 * x + 1)).toNatClampNeg = 7 * x + 1 from nI_clamp (by omega))]
    obtain ⟨u3, r3, d3⟩ : um m (mu_si Hsa (mu_p (U.2.2.2.1 147 10)) (7 * x + 1) (0 : Int32)) ∧ ur m C Hsa (mu_si Hsa (mu_p (U.2.2.2.1 147 10)) (7 * x + 1) (0 : Int32)) ∧ ud m (mu_si Hsa (mu_p (U.2.2.2.1 147 10)) (7 * x + 1) (0 : Int32)) = (upA Va 147 10 (7 * x + 1) (0 : Int32)) := ua.sA (C := C) da rfl rfl (show Va.2.2.2.1 147 10 = (U.2.2.2.1 147 10) from (zza.r 147 10 rfl))
    generalize (mu_si Hsa (mu_p (U.2.2.2.1 147 10)) (7 * x + 1) (0 : Int32)) = Q3 at u3 r3 d3 ⊢
    have qf3 : uq F315 U (upA Va 147 10 (7 * x + 1) (0 : Int32)) := qfa.A rfl
    have ht3 : ur m C H Q3 := hta.trans r3
    refine mw_go mu_g315 (k := 1) (f1 := (28, [(2, .inl ((nI (7 * x + 1)) + 7)), (0, .inr (.inr (some 147))), (1, .inl (nI (R * 7)))], [], Q3)) (C := []) rfl trivial ?_
    rw [(show ((nI (7 * x + 1)) + 7) = (nI ((7 * x + 1) + 7)) from (nI_add (7 * x + 1) 7))]
    refine mw_go mu_g315 (k := 1) (f1 := (13, [(2, .inl (nI ((7 * x + 1) + 7))), (0, .inr (.inr (some 147))), (1, .inl (nI (R * 7)))], [], Q3)) (C := []) rfl trivial ?_
    show mu_W _ _ (13, [(2, .inl (nI (7 * (x + 1) + 1))), (0, .inr (.inr (some 147))), (1, .inl (nI (R * 7)))], [], Q3) _
    exact mw_sub (by simp) (iha (x + 1, Q3) ⟨u3, ht3, (show uq F315a U (ud m Q3) from by rw [d3]; exact (zza.A rfl)), (show (x + 1) ≤ R from (by omega)), (show ∀ j, ((ud m Q3).2.2.1 147 10).2 j = if j < 7 * (x + 1) ∧ j % 7 = 1 then 0 else (U.2.2.1 147 10).2 j from by rw [d3]; exact (fun j => by show (if j = 7 * x + 1 then (0 : Int32) else (Va.2.2.1 147 10).2 j) = _; by_cases y : j = 7 * x + 1; (rw [if_pos y, if_pos (by omega)]); (rw [if_neg y, hcl j]; by_cases y2 : j < 7 * x ∧ j % 7 = 1; (rw [if_pos y2, if_pos (by omega)]); (rw [if_neg y2, if_neg (by omega)]))))⟩ (by show R - (x + 1) < R - x; omega))
  · -- 31: not (nI (7 * x + 1)) < (nI (R * 7))
    have nh2 : ¬ (7 * x + 1) < (R * 7) := fun z => h2 (show nI (7 * x + 1) < nI (R * 7) from (nI_ltI (by omega) (by omega)).mpr z)
    have hxR : x = R := by omega
    subst hxR
    exact mw_of (fun _ => mu_ret rfl trivial ⟨Hsa, rfl, ua, hta, (by rw [da]; exact qfa), (by rw [da]; exact hcl)⟩)
end Nodes
