/-! GRAPH: isEmptied -/
section Emptied
variable {H : mu_H} {U V : Ud} {m d c wn : Nat} {C : Nat → Nat}
def F317 : Uf := ⟨[], [(147, 16)], [], [], [], false⟩
/-- PathProver$Graph.isEmptied([J)Z -/
abbrev mu_m317 : ev_M := (2, (some .boolean), [], ev_b317)
theorem mu_g317 : mu_good mu_m317 := mu_goodk ev_k317
theorem gr_emptied150 (h : um m H) (e : ud m H = U) (hw : U.2.1 99 12 = nI wn) (hwb : wn ≤ 256) (hcur : U.2.1 147 16 = nI c) (hc : c ≤ wn) (hz : ∀ i, i < c → U.2.2.2.2.1 150 i = 0) : mu_TI (mu_D (d + 1)) 317 [.inr (.inr (some 147)), .inr (.inr (some 150))] H (fun y H1 => um m H1 ∧ ur m C H H1 ∧ uq F317 U (ud m H1) ∧ ∃ x, c ≤ x ∧ x ≤ wn ∧ (ud m H1).2.1 147 16 = nI x ∧ (∀ i, i < x → U.2.2.2.2.1 150 i = 0) ∧ ((y = 0 ∧ x < wn ∧ ¬ U.2.2.2.2.1 150 x = 0) ∨ (y = 1 ∧ wn ≤ x))) := by
  refine mu_meth (M := mu_m317) rfl rfl ?_
  refine mw_ht (mu_fn_of (show [0, 1].Nodup by decide)) ?_
  refine mw_down (α := Nat × mu_H) (fun zs => (0, [(0, .inr (.inr (some 147))), (1, .inr (.inr (some 150)))], [], zs.2)) (fun zs => 257 - zs.1) (fun zs => um m zs.2 ∧ ur m C H zs.2 ∧ uq F317 U (ud m zs.2) ∧ c ≤ zs.1 ∧ zs.1 ≤ wn ∧ (ud m zs.2).2.1 147 16 = nI zs.1 ∧ ∀ i, i < zs.1 → U.2.2.2.2.1 150 i = 0) (fun zs hza iha => ?_) (c, H) ⟨h, ur.refl m C H, by rw [e]; exact uq.refl _ _, Nat.le_refl _, hc, by rw [e]; exact hcur, hz⟩
  obtain ⟨x, Hsa⟩ := zs
  obtain ⟨ua, hta, zza, hx, hxw, h16, hz0⟩ := hza
  have ua : um m Hsa := ua
  have hta : ur m C H Hsa := hta
  have zza : uq F317 U (ud m Hsa) := zza
  have hx : c ≤ x := hx
  have hxw : x ≤ wn := hxw
  have h16 : (ud m Hsa).2.1 147 16 = nI x := h16
  have hz0 : ∀ i, i < x → U.2.2.2.2.1 150 i = 0 := hz0
  obtain ⟨Va, da⟩ : ∃ V, ud m Hsa = V := ⟨_, rfl⟩
  rw [da] at zza h16
  show mu_W _ _ (0, [(0, .inr (.inr (some 147))), (1, .inr (.inr (some 150)))], [], Hsa) _
  refine mw_go mu_g317 (k := 2) (f1 := (4, [(0, .inr (.inr (some 147))), (1, .inr (.inr (some 150)))], [.inl (mu_i Hsa 147 16)], Hsa)) (C := [mu_is Hsa (some 147) 2]) rfl (show mu_is Hsa (some 147) 2 from (ua.1.1.is rfl)) ?_
  rw [(show mu_i Hsa 147 16 = (nI x) from (ud_i (U := Va) (m := m) (P := 147) (j := 16) da rfl).trans h16)]
  refine mw_go mu_g317 (k := 2) (f1 := (8, [(0, .inr (.inr (some 147))), (1, .inr (.inr (some 150)))], [.inr (.inr (mu_r Hsa 147 0)), .inl (nI x)], Hsa)) (C := [mu_is Hsa (some 147) 2]) rfl (show mu_is Hsa (some 147) 2 from (ua.1.1.is rfl)) ?_
  rw [(ua.1.1.r (p := 147) (j := 0) (q := 99) rfl)]
  refine mw_go mu_g317 (k := 1) (f1 := (11, [(0, .inr (.inr (some 147))), (1, .inr (.inr (some 150)))], [.inl (mu_i Hsa 99 12), .inl (nI x)], Hsa)) (C := [mu_is Hsa (some 99) 13]) rfl (show mu_is Hsa (some 99) 13 from (ua.1.1.is rfl)) ?_
  rw [(show mu_i Hsa 99 12 = (nI wn) from (ud_i (U := Va) (m := m) (P := 99) (j := 12) da rfl).trans ((zza.i 99 12 rfl).trans hw))]
  refine mw_if (P := (nI x) < (nI wn)) (a := 14) (b := 38) (fun _ => rfl) trivial (fun h1 => ?_) (fun h1 => ?_)
  · -- 14: (nI x) < (nI wn)
    have nh1 : x < wn := (nI_ltI (by omega) (by omega)).mp (show nI x < nI wn from h1)
    refine mw_go mu_g317 (k := 3) (f1 := (19, [(0, .inr (.inr (some 147))), (1, .inr (.inr (some 150)))], [.inl (mu_i Hsa 147 16), .inr (.inr (some 150))], Hsa)) (C := [mu_is Hsa (some 147) 2]) rfl (show mu_is Hsa (some 147) 2 from (ua.1.1.is rfl)) ?_
    rw [(show mu_i Hsa 147 16 = (nI x) from (ud_i (U := Va) (m := m) (P := 147) (j := 16) da rfl).trans h16)]
    refine mw_go mu_g317 (k := 1) (f1 := (20, [(0, .inr (.inr (some 147))), (1, .inr (.inr (some 150)))], [.inr (.inl (mu_l Hsa 150 (nI x).toNatClampNeg))], Hsa)) (C := [mu_isr Hsa (some 150) 102, vp_in (nI x) (mu_n Hsa 150)]) rfl (show (mu_isr Hsa (some 150) 102) ∧ (vp_in (nI x) (mu_n Hsa 150)) from ⟨((ua.1.1.a (p := 150) (x := (102, 256)) rfl).1).r, (by rw [show mu_n Hsa 150 = 256 from (ua.1.1.a (p := 150) (x := (102, 256)) rfl).2]; exact vp_in_nI (n := x) (by omega) (by decide))⟩) ?_
    rw [(show (mu_l Hsa 150 (nI x).toNatClampNeg) = (U.2.2.2.2.1 150) x from (congrArg (mu_l Hsa 150) (show (nI x).toNatClampNeg = x from nI_clamp (by omega))).trans ((ud_l (m := m) (p := 150) (i := x) da rfl).trans (congrFun (show Va.2.2.2.2.1 150 = (U.2.2.2.2.1 150) from (zza.l 150 rfl)) x)))]
    refine mw_go mu_g317 (k := 2) (f1 := (22, [(0, .inr (.inr (some 147))), (1, .inr (.inr (some 150)))], [.inl (lg_cmp ((U.2.2.2.2.1 150) x) (0 : Int64))], Hsa)) (C := []) rfl trivial ?_
    refine mw_if (P := (lg_cmp ((U.2.2.2.2.1 150) x) (0 : Int64)) = 0) (a := 25) (b := 38) (fun _ => rfl) trivial (fun h2 => ?_) (fun h2 => ?_)
    · -- 25: (lg_cmp ((U.2.2.2.2.1 150) x) (0 : Int64)) = 0
      refine mw_go mu_g317 (k := 3) (f1 := (30, [(0, .inr (.inr (some 147))), (1, .inr (.inr (some 150)))], [.inl (mu_i Hsa 147 16), .inr (.inr (some 147))], Hsa)) (C := [mu_is Hsa (some 147) 2]) rfl (show mu_is Hsa (some 147) 2 from (ua.1.1.is rfl)) ?_
      rw [(show mu_i Hsa 147 16 = (nI x) from (ud_i (U := Va) (m := m) (P := 147) (j := 16) da rfl).trans h16)]
      refine mw_go mu_g317 (k := 2) (f1 := (32, [(0, .inr (.inr (some 147))), (1, .inr (.inr (some 150)))], [.inl ((nI x) + (1 : Int32)), .inr (.inr (some 147))], Hsa)) (C := []) rfl trivial ?_
      rw [(show ((nI x) + (1 : Int32)) = (nI (x + 1)) from (nI_add x 1))]
      refine mw_go mu_g317 (k := 1) (f1 := (35, [(0, .inr (.inr (some 147))), (1, .inr (.inr (some 150)))], [], (mu_si Hsa 147 16 (nI (x + 1))))) (C := [mu_is Hsa (some 147) 2]) rfl (show mu_is Hsa (some 147) 2 from (ua.1.1.is rfl)) ?_
      obtain ⟨u3, r3, d3⟩ : um m (mu_si Hsa 147 16 (nI (x + 1))) ∧ ur m C Hsa (mu_si Hsa 147 16 (nI (x + 1))) ∧ ud m (mu_si Hsa 147 16 (nI (x + 1))) = (upI Va 147 16 (nI (x + 1))) := ua.sI (C := C) da rfl
      generalize (mu_si Hsa 147 16 (nI (x + 1))) = Q3 at u3 r3 d3 ⊢
      have qf3 : uq F317 U (upI Va 147 16 (nI (x + 1))) := zza.I rfl
      have ht3 : ur m C H Q3 := hta.trans r3
      refine mw_go mu_g317 (k := 1) (f1 := (0, [(0, .inr (.inr (some 147))), (1, .inr (.inr (some 150)))], [], Q3)) (C := []) rfl trivial ?_
      exact mw_sub (by simp) (iha (x + 1, Q3) ⟨u3, ht3, by rw [d3]; exact qf3, by show c ≤ x + 1; omega, by show x + 1 ≤ wn; omega, by rw [d3]; rfl, fun i hi => by by_cases y : i = x; (rw [y]; exact lg_ne.mp h2); (have hi : i < x + 1 := hi; exact hz0 i (by omega))⟩ (by show 257 - (x + 1) < 257 - x; omega))
    · -- 38: not (lg_cmp ((U.2.2.2.2.1 150) x) (0 : Int64)) = 0
      refine mw_go mu_g317 (k := 2) (f1 := (42, [(0, .inr (.inr (some 147))), (1, .inr (.inr (some 150)))], [.inl (mu_i Hsa 147 16)], Hsa)) (C := [mu_is Hsa (some 147) 2]) rfl (show mu_is Hsa (some 147) 2 from (ua.1.1.is rfl)) ?_
      rw [(show mu_i Hsa 147 16 = (nI x) from (ud_i (U := Va) (m := m) (P := 147) (j := 16) da rfl).trans h16)]
      refine mw_go mu_g317 (k := 2) (f1 := (46, [(0, .inr (.inr (some 147))), (1, .inr (.inr (some 150)))], [.inr (.inr (mu_r Hsa 147 0)), .inl (nI x)], Hsa)) (C := [mu_is Hsa (some 147) 2]) rfl (show mu_is Hsa (some 147) 2 from (ua.1.1.is rfl)) ?_
      rw [(ua.1.1.r (p := 147) (j := 0) (q := 99) rfl)]
      refine mw_go mu_g317 (k := 1) (f1 := (49, [(0, .inr (.inr (some 147))), (1, .inr (.inr (some 150)))], [.inl (mu_i Hsa 99 12), .inl (nI x)], Hsa)) (C := [mu_is Hsa (some 99) 13]) rfl (show mu_is Hsa (some 99) 13 from (ua.1.1.is rfl)) ?_
      rw [(show mu_i Hsa 99 12 = (nI wn) from (ud_i (U := Va) (m := m) (P := 99) (j := 12) da rfl).trans ((zza.i 99 12 rfl).trans hw))]
      refine mw_if (P := (nI x) < (nI wn)) (a := 56) (b := 52) (fun _ => rfl) trivial (fun _ => ?_) (fun h4 => absurd h1 h4)
      refine mw_go mu_g317 (k := 1) (f1 := (57, [(0, .inr (.inr (some 147))), (1, .inr (.inr (some 150)))], [.inl (0 : Int32)], Hsa)) (C := []) rfl trivial ?_
      exact mw_of (fun _ => mu_ret rfl (Or.inl rfl) ⟨_, Hsa, rfl, ua, hta, (by rw [da]; exact zza), x, hx, hxw, (by rw [da]; exact h16), hz0, Or.inl ⟨rfl, by omega, fun y => h2 (lg_ne.mpr y)⟩⟩)
  · -- 38: not (nI x) < (nI wn)
    have nh1 : ¬ x < wn := fun z => h1 (show nI x < nI wn from (nI_ltI (by omega) (by omega)).mpr z)
    refine mw_go mu_g317 (k := 2) (f1 := (42, [(0, .inr (.inr (some 147))), (1, .inr (.inr (some 150)))], [.inl (mu_i Hsa 147 16)], Hsa)) (C := [mu_is Hsa (some 147) 2]) rfl (show mu_is Hsa (some 147) 2 from (ua.1.1.is rfl)) ?_
    rw [(show mu_i Hsa 147 16 = (nI x) from (ud_i (U := Va) (m := m) (P := 147) (j := 16) da rfl).trans h16)]
    refine mw_go mu_g317 (k := 2) (f1 := (46, [(0, .inr (.inr (some 147))), (1, .inr (.inr (some 150)))], [.inr (.inr (mu_r Hsa 147 0)), .inl (nI x)], Hsa)) (C := [mu_is Hsa (some 147) 2]) rfl (show mu_is Hsa (some 147) 2 from (ua.1.1.is rfl)) ?_
    rw [(ua.1.1.r (p := 147) (j := 0) (q := 99) rfl)]
    refine mw_go mu_g317 (k := 1) (f1 := (49, [(0, .inr (.inr (some 147))), (1, .inr (.inr (some 150)))], [.inl (mu_i Hsa 99 12), .inl (nI x)], Hsa)) (C := [mu_is Hsa (some 99) 13]) rfl (show mu_is Hsa (some 99) 13 from (ua.1.1.is rfl)) ?_
    rw [(show mu_i Hsa 99 12 = (nI wn) from (ud_i (U := Va) (m := m) (P := 99) (j := 12) da rfl).trans ((zza.i 99 12 rfl).trans hw))]
    refine mw_if (P := (nI x) < (nI wn)) (a := 56) (b := 52) (fun _ => rfl) trivial (fun h5 => absurd h5 h1) (fun _ => ?_)
    refine mw_go mu_g317 (k := 2) (f1 := (57, [(0, .inr (.inr (some 147))), (1, .inr (.inr (some 150)))], [.inl (1 : Int32)], Hsa)) (C := []) rfl trivial ?_
    exact mw_of (fun _ => mu_ret rfl (Or.inr rfl) ⟨_, Hsa, rfl, ua, hta, (by rw [da]; exact zza), x, hx, hxw, (by rw [da]; exact h16), hz0, Or.inr ⟨rfl, by omega⟩⟩)
theorem gr_emptied152 (h : um m H) (e : ud m H = U) (hw : U.2.1 99 12 = nI wn) (hwb : wn ≤ 256) (hcur : U.2.1 147 16 = nI c) (hc : c ≤ wn) (hz : ∀ i, i < c → U.2.2.2.2.1 152 i = 0) : mu_TI (mu_D (d + 1)) 317 [.inr (.inr (some 147)), .inr (.inr (some 152))] H (fun y H1 => um m H1 ∧ ur m C H H1 ∧ uq F317 U (ud m H1) ∧ ∃ x, c ≤ x ∧ x ≤ wn ∧ (ud m H1).2.1 147 16 = nI x ∧ (∀ i, i < x → U.2.2.2.2.1 152 i = 0) ∧ ((y = 0 ∧ x < wn ∧ ¬ U.2.2.2.2.1 152 x = 0) ∨ (y = 1 ∧ wn ≤ x))) := by
  refine mu_meth (M := mu_m317) rfl rfl ?_
  refine mw_ht (mu_fn_of (show [0, 1].Nodup by decide)) ?_
  refine mw_down (α := Nat × mu_H) (fun zs => (0, [(0, .inr (.inr (some 147))), (1, .inr (.inr (some 152)))], [], zs.2)) (fun zs => 257 - zs.1) (fun zs => um m zs.2 ∧ ur m C H zs.2 ∧ uq F317 U (ud m zs.2) ∧ c ≤ zs.1 ∧ zs.1 ≤ wn ∧ (ud m zs.2).2.1 147 16 = nI zs.1 ∧ ∀ i, i < zs.1 → U.2.2.2.2.1 152 i = 0) (fun zs hza iha => ?_) (c, H) ⟨h, ur.refl m C H, by rw [e]; exact uq.refl _ _, Nat.le_refl _, hc, by rw [e]; exact hcur, hz⟩
  obtain ⟨x, Hsa⟩ := zs
  obtain ⟨ua, hta, zza, hx, hxw, h16, hz0⟩ := hza
  have ua : um m Hsa := ua
  have hta : ur m C H Hsa := hta
  have zza : uq F317 U (ud m Hsa) := zza
  have hx : c ≤ x := hx
  have hxw : x ≤ wn := hxw
  have h16 : (ud m Hsa).2.1 147 16 = nI x := h16
  have hz0 : ∀ i, i < x → U.2.2.2.2.1 152 i = 0 := hz0
  obtain ⟨Va, da⟩ : ∃ V, ud m Hsa = V := ⟨_, rfl⟩
  rw [da] at zza h16
  show mu_W _ _ (0, [(0, .inr (.inr (some 147))), (1, .inr (.inr (some 152)))], [], Hsa) _
  refine mw_go mu_g317 (k := 2) (f1 := (4, [(0, .inr (.inr (some 147))), (1, .inr (.inr (some 152)))], [.inl (mu_i Hsa 147 16)], Hsa)) (C := [mu_is Hsa (some 147) 2]) rfl (show mu_is Hsa (some 147) 2 from (ua.1.1.is rfl)) ?_
  rw [(show mu_i Hsa 147 16 = (nI x) from (ud_i (U := Va) (m := m) (P := 147) (j := 16) da rfl).trans h16)]
  refine mw_go mu_g317 (k := 2) (f1 := (8, [(0, .inr (.inr (some 147))), (1, .inr (.inr (some 152)))], [.inr (.inr (mu_r Hsa 147 0)), .inl (nI x)], Hsa)) (C := [mu_is Hsa (some 147) 2]) rfl (show mu_is Hsa (some 147) 2 from (ua.1.1.is rfl)) ?_
  rw [(ua.1.1.r (p := 147) (j := 0) (q := 99) rfl)]
  refine mw_go mu_g317 (k := 1) (f1 := (11, [(0, .inr (.inr (some 147))), (1, .inr (.inr (some 152)))], [.inl (mu_i Hsa 99 12), .inl (nI x)], Hsa)) (C := [mu_is Hsa (some 99) 13]) rfl (show mu_is Hsa (some 99) 13 from (ua.1.1.is rfl)) ?_
  rw [(show mu_i Hsa 99 12 = (nI wn) from (ud_i (U := Va) (m := m) (P := 99) (j := 12) da rfl).trans ((zza.i 99 12 rfl).trans hw))]
  refine mw_if (P := (nI x) < (nI wn)) (a := 14) (b := 38) (fun _ => rfl) trivial (fun h1 => ?_) (fun h1 => ?_)
  · -- 14: (nI x) < (nI wn)
    have nh1 : x < wn := (nI_ltI (by omega) (by omega)).mp (show nI x < nI wn from h1)
    refine mw_go mu_g317 (k := 3) (f1 := (19, [(0, .inr (.inr (some 147))), (1, .inr (.inr (some 152)))], [.inl (mu_i Hsa 147 16), .inr (.inr (some 152))], Hsa)) (C := [mu_is Hsa (some 147) 2]) rfl (show mu_is Hsa (some 147) 2 from (ua.1.1.is rfl)) ?_
    rw [(show mu_i Hsa 147 16 = (nI x) from (ud_i (U := Va) (m := m) (P := 147) (j := 16) da rfl).trans h16)]
    refine mw_go mu_g317 (k := 1) (f1 := (20, [(0, .inr (.inr (some 147))), (1, .inr (.inr (some 152)))], [.inr (.inl (mu_l Hsa 152 (nI x).toNatClampNeg))], Hsa)) (C := [mu_isr Hsa (some 152) 102, vp_in (nI x) (mu_n Hsa 152)]) rfl (show (mu_isr Hsa (some 152) 102) ∧ (vp_in (nI x) (mu_n Hsa 152)) from ⟨((ua.1.1.a (p := 152) (x := (102, 256)) rfl).1).r, (by rw [show mu_n Hsa 152 = 256 from (ua.1.1.a (p := 152) (x := (102, 256)) rfl).2]; exact vp_in_nI (n := x) (by omega) (by decide))⟩) ?_
    rw [(show (mu_l Hsa 152 (nI x).toNatClampNeg) = (U.2.2.2.2.1 152) x from (congrArg (mu_l Hsa 152) (show (nI x).toNatClampNeg = x from nI_clamp (by omega))).trans ((ud_l (m := m) (p := 152) (i := x) da rfl).trans (congrFun (show Va.2.2.2.2.1 152 = (U.2.2.2.2.1 152) from (zza.l 152 rfl)) x)))]
    refine mw_go mu_g317 (k := 2) (f1 := (22, [(0, .inr (.inr (some 147))), (1, .inr (.inr (some 152)))], [.inl (lg_cmp ((U.2.2.2.2.1 152) x) (0 : Int64))], Hsa)) (C := []) rfl trivial ?_
    refine mw_if (P := (lg_cmp ((U.2.2.2.2.1 152) x) (0 : Int64)) = 0) (a := 25) (b := 38) (fun _ => rfl) trivial (fun h2 => ?_) (fun h2 => ?_)
    · -- 25: (lg_cmp ((U.2.2.2.2.1 152) x) (0 : Int64)) = 0
      refine mw_go mu_g317 (k := 3) (f1 := (30, [(0, .inr (.inr (some 147))), (1, .inr (.inr (some 152)))], [.inl (mu_i Hsa 147 16), .inr (.inr (some 147))], Hsa)) (C := [mu_is Hsa (some 147) 2]) rfl (show mu_is Hsa (some 147) 2 from (ua.1.1.is rfl)) ?_
      rw [(show mu_i Hsa 147 16 = (nI x) from (ud_i (U := Va) (m := m) (P := 147) (j := 16) da rfl).trans h16)]
      refine mw_go mu_g317 (k := 2) (f1 := (32, [(0, .inr (.inr (some 147))), (1, .inr (.inr (some 152)))], [.inl ((nI x) + (1 : Int32)), .inr (.inr (some 147))], Hsa)) (C := []) rfl trivial ?_
      rw [(show ((nI x) + (1 : Int32)) = (nI (x + 1)) from (nI_add x 1))]
      refine mw_go mu_g317 (k := 1) (f1 := (35, [(0, .inr (.inr (some 147))), (1, .inr (.inr (some 152)))], [], (mu_si Hsa 147 16 (nI (x + 1))))) (C := [mu_is Hsa (some 147) 2]) rfl (show mu_is Hsa (some 147) 2 from (ua.1.1.is rfl)) ?_
      obtain ⟨u3, r3, d3⟩ : um m (mu_si Hsa 147 16 (nI (x + 1))) ∧ ur m C Hsa (mu_si Hsa 147 16 (nI (x + 1))) ∧ ud m (mu_si Hsa 147 16 (nI (x + 1))) = (upI Va 147 16 (nI (x + 1))) := ua.sI (C := C) da rfl
      generalize (mu_si Hsa 147 16 (nI (x + 1))) = Q3 at u3 r3 d3 ⊢
      have qf3 : uq F317 U (upI Va 147 16 (nI (x + 1))) := zza.I rfl
      have ht3 : ur m C H Q3 := hta.trans r3
      refine mw_go mu_g317 (k := 1) (f1 := (0, [(0, .inr (.inr (some 147))), (1, .inr (.inr (some 152)))], [], Q3)) (C := []) rfl trivial ?_
      exact mw_sub (by simp) (iha (x + 1, Q3) ⟨u3, ht3, by rw [d3]; exact qf3, by show c ≤ x + 1; omega, by show x + 1 ≤ wn; omega, by rw [d3]; rfl, fun i hi => by by_cases y : i = x; (rw [y]; exact lg_ne.mp h2); (have hi : i < x + 1 := hi; exact hz0 i (by omega))⟩ (by show 257 - (x + 1) < 257 - x; omega))
    · -- 38: not (lg_cmp ((U.2.2.2.2.1 152) x) (0 : Int64)) = 0
      refine mw_go mu_g317 (k := 2) (f1 := (42, [(0, .inr (.inr (some 147))), (1, .inr (.inr (some 152)))], [.inl (mu_i Hsa 147 16)], Hsa)) (C := [mu_is Hsa (some 147) 2]) rfl (show mu_is Hsa (some 147) 2 from (ua.1.1.is rfl)) ?_
      rw [(show mu_i Hsa 147 16 = (nI x) from (ud_i (U := Va) (m := m) (P := 147) (j := 16) da rfl).trans h16)]
      refine mw_go mu_g317 (k := 2) (f1 := (46, [(0, .inr (.inr (some 147))), (1, .inr (.inr (some 152)))], [.inr (.inr (mu_r Hsa 147 0)), .inl (nI x)], Hsa)) (C := [mu_is Hsa (some 147) 2]) rfl (show mu_is Hsa (some 147) 2 from (ua.1.1.is rfl)) ?_
      rw [(ua.1.1.r (p := 147) (j := 0) (q := 99) rfl)]
      refine mw_go mu_g317 (k := 1) (f1 := (49, [(0, .inr (.inr (some 147))), (1, .inr (.inr (some 152)))], [.inl (mu_i Hsa 99 12), .inl (nI x)], Hsa)) (C := [mu_is Hsa (some 99) 13]) rfl (show mu_is Hsa (some 99) 13 from (ua.1.1.is rfl)) ?_
      rw [(show mu_i Hsa 99 12 = (nI wn) from (ud_i (U := Va) (m := m) (P := 99) (j := 12) da rfl).trans ((zza.i 99 12 rfl).trans hw))]
      refine mw_if (P := (nI x) < (nI wn)) (a := 56) (b := 52) (fun _ => rfl) trivial (fun _ => ?_) (fun h4 => absurd h1 h4)
      refine mw_go mu_g317 (k := 1) (f1 := (57, [(0, .inr (.inr (some 147))), (1, .inr (.inr (some 152)))], [.inl (0 : Int32)], Hsa)) (C := []) rfl trivial ?_
      exact mw_of (fun _ => mu_ret rfl (Or.inl rfl) ⟨_, Hsa, rfl, ua, hta, (by rw [da]; exact zza), x, hx, hxw, (by rw [da]; exact h16), hz0, Or.inl ⟨rfl, by omega, fun y => h2 (lg_ne.mpr y)⟩⟩)
  · -- 38: not (nI x) < (nI wn)
    have nh1 : ¬ x < wn := fun z => h1 (show nI x < nI wn from (nI_ltI (by omega) (by omega)).mpr z)
    refine mw_go mu_g317 (k := 2) (f1 := (42, [(0, .inr (.inr (some 147))), (1, .inr (.inr (some 152)))], [.inl (mu_i Hsa 147 16)], Hsa)) (C := [mu_is Hsa (some 147) 2]) rfl (show mu_is Hsa (some 147) 2 from (ua.1.1.is rfl)) ?_
    rw [(show mu_i Hsa 147 16 = (nI x) from (ud_i (U := Va) (m := m) (P := 147) (j := 16) da rfl).trans h16)]
    refine mw_go mu_g317 (k := 2) (f1 := (46, [(0, .inr (.inr (some 147))), (1, .inr (.inr (some 152)))], [.inr (.inr (mu_r Hsa 147 0)), .inl (nI x)], Hsa)) (C := [mu_is Hsa (some 147) 2]) rfl (show mu_is Hsa (some 147) 2 from (ua.1.1.is rfl)) ?_
    rw [(ua.1.1.r (p := 147) (j := 0) (q := 99) rfl)]
    refine mw_go mu_g317 (k := 1) (f1 := (49, [(0, .inr (.inr (some 147))), (1, .inr (.inr (some 152)))], [.inl (mu_i Hsa 99 12), .inl (nI x)], Hsa)) (C := [mu_is Hsa (some 99) 13]) rfl (show mu_is Hsa (some 99) 13 from (ua.1.1.is rfl)) ?_
    rw [(show mu_i Hsa 99 12 = (nI wn) from (ud_i (U := Va) (m := m) (P := 99) (j := 12) da rfl).trans ((zza.i 99 12 rfl).trans hw))]
    refine mw_if (P := (nI x) < (nI wn)) (a := 56) (b := 52) (fun _ => rfl) trivial (fun h5 => absurd h5 h1) (fun _ => ?_)
    refine mw_go mu_g317 (k := 2) (f1 := (57, [(0, .inr (.inr (some 147))), (1, .inr (.inr (some 152)))], [.inl (1 : Int32)], Hsa)) (C := []) rfl trivial ?_
    exact mw_of (fun _ => mu_ret rfl (Or.inr rfl) ⟨_, Hsa, rfl, ua, hta, (by rw [da]; exact zza), x, hx, hxw, (by rw [da]; exact h16), hz0, Or.inr ⟨rfl, by omega⟩⟩)
end Emptied
