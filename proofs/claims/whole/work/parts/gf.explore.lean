/-! GRAPH: explore -/
section Explore
variable {H : mu_H} {U V : Ud} {m d P wn T R N fb : Nat} {C : Nat → Nat} {f rx : Nat → Nat}
/-- the first of the INITIAL STATES are in the queue -/
def QIN (V U : Ud) (w : Nat) : Prop := ∃ (tl : Nat) (qu : Nat → Nat), V.2.1 147 18 = nI tl ∧ tl ≤ w ∧ (∀ i, i < tl → (V.2.2.1 147 12).2 i = nI (qu i) ∧ qu i < w ∧ bts (U.2.2.2.2.1 125) (qu i) = true) ∧ (∀ x, x < w → bts (U.2.2.2.2.1 125) x = true → ∃ i, i < tl ∧ qu i = x) ∧ ∀ i j, i < j → j < tl → qu i < qu j
def F338 : Uf := ⟨[], [(147, 14), (147, 15), (147, 16), (147, 17), (147, 18), (147, 19)], [(147, 10), (147, 12)], [(147, 8)], [149, 150], false⟩
def F338a : Uf := ⟨[], [], [], [], [150], false⟩
def F338b : Uf := ⟨[], [(147, 18)], [(147, 12)], [], [], false⟩
/-- PathProver$Graph.explore()V -/
abbrev mu_m338 : ev_M := (2, none, [], ev_b338)
theorem mu_g338 : mu_good mu_m338 := mu_goodk ev_k338
theorem gr_explore (h : um m H) (e : ud m H = U) (hw : U.2.1 99 12 = nI wn) (hT11 : U.2.1 99 11 = nI T) (hwn : wn = (T + 63) / 64) (hTb : T ≤ 16384) (hN : U.2.1 113 2 = nI N) (hfb : U.2.1 113 8 = nI fb) (hfN : fb ≤ N) (hR : R = N - fb) (hRl : 7 * R ≤ (U.2.2.1 147 10).1) (h10b : (U.2.2.1 147 10).1 ≤ 16777216) (h12 : T ≤ (U.2.2.1 147 12).1) (h12b : (U.2.2.1 147 12).1 ≤ 16777216) (h6 : T ≤ (U.2.2.1 129 6).1) (h6b : (U.2.2.1 129 6).1 ≤ 16777216) (hrx : ∀ s, s < T → (U.2.2.1 129 6).2 s = nI (rx s) ∧ rx s < R) : mu_TV (mu_D (d + 4)) 338 [.inr (.inr (some 147))] H (fun H1 => um m H1 ∧ ur m C H H1 ∧ uq F338 U (ud m H1) ∧ ((ud m H1).2.1 147 14 = 0 ∧ (ud m H1).2.1 147 19 = -1 ∧ (ud m H1).2.2.2.1 147 8 = none) ∧ (∀ i, i < wn → (ud m H1).2.2.2.2.1 150 i = U.2.2.2.2.1 124 i &&& (U.2.2.2.2.1 125 i ^^^ (-1 : Int64))) ∧ ∃ (X : Ud) (tl : Nat) (qu : Nat → Nat) (hh : Nat), X.2.2.2.2.1 150 = (ud m H1).2.2.2.2.1 150 ∧ (∀ s, s < T → (bts (X.2.2.2.2.1 149) s = true ↔ bts (U.2.2.2.2.1 125) s = true)) ∧ (∀ r, r < R → (X.2.2.1 147 10).2 (r * 7 + 1) = 0) ∧ (∀ j, ¬ j % 7 = 1 → (X.2.2.1 147 10).2 j = (U.2.2.1 147 10).2 j) ∧ (ud m H1).2.1 147 18 = nI tl ∧ tl ≤ T ∧ (∀ i, i < tl → ((ud m H1).2.2.1 147 12).2 i = nI (qu i) ∧ qu i < T ∧ bts (U.2.2.2.2.1 125) (qu i) = true) ∧ (∀ x, x < T → bts (U.2.2.2.2.1 125) x = true → ∃ i, i < tl ∧ qu i = x) ∧ (∀ i j, i < j → j < tl → qu i < qu j) ∧ hh ≤ tl ∧ (ud m H1).2.1 147 17 = nI hh ∧ (∃ c, (ud m H1).2.1 147 16 = nI c ∧ c ≤ wn ∧ ∀ i, i < c → (ud m H1).2.2.2.2.1 150 i = 0) ∧ OPW X (ud m H1) (fun _ => 0) rx qu 0 hh ∧ ((ud m H1).2.1 147 15 = -1 → hh = tl ∨ ∀ i, i < wn → (ud m H1).2.2.2.2.1 150 i = 0) ∧ ((ud m H1).2.1 147 15 = -1 → ∀ s, s < 16384 → (bts ((ud m H1).2.2.2.2.1 149) s = true ↔ bts (X.2.2.2.2.1 149) s = true ∨ ∃ i, i < tl ∧ qu i = s)) ∧ (¬ (ud m H1).2.1 147 15 = -1 → (ud m H1).2.2.2.2.1 149 = X.2.2.2.2.1 149)) := by
  have hwb : wn ≤ 256 := by omega
  refine mu_meth (M := mu_m338) rfl rfl ?_
  refine mw_ht (mu_fn_of (show [0].Nodup by decide)) ?_
  refine mw_go mu_g338 (k := 2) (f1 := (4, [(0, .inr (.inr (some 147)))], [.inr (.inr (mu_r H 147 0))], H)) (C := [mu_is H (some 147) 2]) rfl (show mu_is H (some 147) 2 from (h.1.1.is rfl)) ?_
  rw [(h.1.1.r (p := 147) (j := 0) (q := 99) rfl)]
  refine mw_go mu_g338 (k := 1) (f1 := (7, [(0, .inr (.inr (some 147)))], [.inr (.inr (mu_r H 99 15))], H)) (C := [mu_is H (some 99) 13]) rfl (show mu_is H (some 99) 13 from (h.1.1.is rfl)) ?_
  rw [(h.1.1.r (p := 99) (j := 15) (q := 125) rfl)]
  refine mw_go mu_g338 (k := 3) (f1 := (12, [(0, .inr (.inr (some 147)))], [.inr (.inr (mu_r H 147 3)), .inl (0 : Int32), .inr (.inr (some 125))], H)) (C := [mu_is H (some 147) 2]) rfl (show mu_is H (some 147) 2 from (h.1.1.is rfl)) ?_
  rw [(h.1.1.r (p := 147) (j := 3) (q := 149) rfl)]
  refine mw_go mu_g338 (k := 3) (f1 := (17, [(0, .inr (.inr (some 147)))], [.inr (.inr (mu_r H 147 0)), .inl (0 : Int32), .inr (.inr (some 149)), .inl (0 : Int32), .inr (.inr (some 125))], H)) (C := [mu_is H (some 147) 2]) rfl (show mu_is H (some 147) 2 from (h.1.1.is rfl)) ?_
  rw [(h.1.1.r (p := 147) (j := 0) (q := 99) rfl)]
  refine mw_go mu_g338 (k := 1) (f1 := (20, [(0, .inr (.inr (some 147)))], [.inl (mu_i H 99 12), .inl (0 : Int32), .inr (.inr (some 149)), .inl (0 : Int32), .inr (.inr (some 125))], H)) (C := [mu_is H (some 99) 13]) rfl (show mu_is H (some 99) 13 from (h.1.1.is rfl)) ?_
  rw [(show mu_i H 99 12 = (nI wn) from (ud_i (U := U) (m := m) (P := 99) (j := 12) e rfl).trans hw)]
  refine mw_copyL rfl (show mu_is H (some 125) 102 from (h.1.1.a (p := 125) (x := (102, 256)) rfl).1) (show mu_is H (some 149) 102 from (h.1.1.a (p := 149) (x := (102, 256)) rfl).1) (by decide) (by decide) (nI_pos (by omega)) (by rw [show mu_n H (mu_p (some 125)) = 256 from (h.1.1.a (p := 125) (x := (102, 256)) rfl).2, (show (0 : Int32).toNatClampNeg = 0 from by decide), (show (nI wn).toNatClampNeg = wn from nI_clamp (by omega))]; omega) (by rw [show mu_n H (mu_p (some 149)) = 256 from (h.1.1.a (p := 149) (x := (102, 256)) rfl).2, (show (0 : Int32).toNatClampNeg = 0 from by decide), (show (nI wn).toNatClampNeg = wn from nI_clamp (by omega))]; omega) (by decide) ?_
  rw [(show (0 : Int32).toNatClampNeg = 0 from by decide), (show (nI wn).toNatClampNeg = wn from nI_clamp (by omega))]
  show mu_W _ _ (23, [(0, .inr (.inr (some 147)))], [], (mu_cpl H 125 0 149 0 wn)) _
  obtain ⟨u1, r1, d1⟩ : um m (mu_cpl H 125 0 149 0 wn) ∧ ur m C H (mu_cpl H 125 0 149 0 wn) ∧ ud m (mu_cpl H 125 0 149 0 wn) = (upM U 149 0 (fun i => U.2.2.2.2.1 125 (0 + i)) wn) := h.cL (C := C) e rfl rfl
  generalize (mu_cpl H 125 0 149 0 wn) = Q1 at u1 r1 d1 ⊢
  have qf1 : uq F338 U (upM U 149 0 (fun i => U.2.2.2.2.1 125 (0 + i)) wn) := (uq.refl F338 U).M rfl
  have ht1 : ur m C H Q1 := (ur.refl m C H).trans r1
  have h149 : ∀ x, x < T → btz ((upM U 149 0 (fun i => U.2.2.2.2.1 125 (0 + i)) wn).2.2.2.2.1 149 (x / 64)) (x % 64) = bts (U.2.2.2.2.1 125) x := fun x hx => by
    show btz (if 149 = 149 ∧ 0 ≤ x / 64 ∧ x / 64 < 0 + wn then U.2.2.2.2.1 125 (0 + (x / 64 - 0)) else U.2.2.2.2.1 149 (x / 64)) (x % 64) = _
    rw [if_pos ⟨rfl, Nat.zero_le _, by omega⟩, Nat.sub_zero, Nat.zero_add]
    rfl
  refine mw_go mu_g338 (k := 3) (f1 := (28, [(0, .inr (.inr (some 147)))], [], (mu_si Q1 147 17 (0 : Int32)))) (C := [mu_is Q1 (some 147) 2]) rfl (show mu_is Q1 (some 147) 2 from (u1.1.1.is rfl)) ?_
  obtain ⟨u2, r2, d2⟩ : um m (mu_si Q1 147 17 (0 : Int32)) ∧ ur m C Q1 (mu_si Q1 147 17 (0 : Int32)) ∧ ud m (mu_si Q1 147 17 (0 : Int32)) = (upI (upM U 149 0 (fun i => U.2.2.2.2.1 125 (0 + i)) wn) 147 17 (0 : Int32)) := u1.sI (C := C) d1 rfl
  generalize (mu_si Q1 147 17 (0 : Int32)) = Q2 at u2 r2 d2 ⊢
  have qf2 : uq F338 U (upI (upM U 149 0 (fun i => U.2.2.2.2.1 125 (0 + i)) wn) 147 17 (0 : Int32)) := qf1.I rfl
  have ht2 : ur m C H Q2 := ht1.trans r2
  refine mw_go mu_g338 (k := 3) (f1 := (33, [(0, .inr (.inr (some 147)))], [], (mu_si Q2 147 18 (0 : Int32)))) (C := [mu_is Q2 (some 147) 2]) rfl (show mu_is Q2 (some 147) 2 from (u2.1.1.is rfl)) ?_
  obtain ⟨u3, r3, d3⟩ : um m (mu_si Q2 147 18 (0 : Int32)) ∧ ur m C Q2 (mu_si Q2 147 18 (0 : Int32)) ∧ ud m (mu_si Q2 147 18 (0 : Int32)) = (upI (upI (upM U 149 0 (fun i => U.2.2.2.2.1 125 (0 + i)) wn) 147 17 (0 : Int32)) 147 18 (0 : Int32)) := u2.sI (C := C) d2 rfl
  generalize (mu_si Q2 147 18 (0 : Int32)) = Q3 at u3 r3 d3 ⊢
  have qf3 : uq F338 U (upI (upI (upM U 149 0 (fun i => U.2.2.2.2.1 125 (0 + i)) wn) 147 17 (0 : Int32)) 147 18 (0 : Int32)) := qf2.I rfl
  have ht3 : ur m C H Q3 := ht2.trans r3
  refine mw_go mu_g338 (k := 2) (f1 := (35, [(1, .inl (0 : Int32)), (0, .inr (.inr (some 147)))], [], Q3)) (C := []) rfl trivial ?_
  show mu_W _ _ (35, [(1, .inl (nI 0)), (0, .inr (.inr (some 147)))], [], Q3) _
  refine mw_sub (L' := [(1, .inl (nI 0)), (0, .inr (.inr (some 147)))]) (by simp) ?_
  refine mw_down (α := Nat × mu_H) (fun zs => (35, [(1, .inl (nI zs.1)), (0, .inr (.inr (some 147)))], [], zs.2)) (fun zs => wn - zs.1) (fun zs => um m zs.2 ∧ ur m C H zs.2 ∧ (uq F338a (upI (upI (upM U 149 0 (fun i => U.2.2.2.2.1 125 (0 + i)) wn) 147 17 (0 : Int32)) 147 18 (0 : Int32)) (ud m zs.2)) ∧ (zs.1 ≤ wn) ∧ (∀ i, i < zs.1 → (ud m zs.2).2.2.2.2.1 150 i = U.2.2.2.2.1 124 i &&& (U.2.2.2.2.1 125 i ^^^ (-1 : Int64)))) (fun zs hza iha => ?_) (0, Q3) ⟨u3, ht3, (show uq F338a (upI (upI (upM U 149 0 (fun i => U.2.2.2.2.1 125 (0 + i)) wn) 147 17 (0 : Int32)) 147 18 (0 : Int32)) (ud m Q3) from by rw [d3]; exact uq.refl _ _), (show 0 ≤ wn from (by omega)), (show ∀ i, i < 0 → (ud m Q3).2.2.2.2.1 150 i = U.2.2.2.2.1 124 i &&& (U.2.2.2.2.1 125 i ^^^ (-1 : Int64)) from by rw [d3]; exact (fun i hi => absurd hi (Nat.not_lt_zero i)))⟩
  obtain ⟨v, Hsa⟩ := zs
  obtain ⟨ua, hta, da, hv, h150⟩ := hza
  have ua : um m Hsa := ua
  have hta : ur m C H Hsa := hta
  have zza : uq F338a (upI (upI (upM U 149 0 (fun i => U.2.2.2.2.1 125 (0 + i)) wn) 147 17 (0 : Int32)) 147 18 (0 : Int32)) (ud m Hsa) := da
  have hv : v ≤ wn := hv
  have h150 : ∀ i, i < v → (ud m Hsa).2.2.2.2.1 150 i = U.2.2.2.2.1 124 i &&& (U.2.2.2.2.1 125 i ^^^ (-1 : Int64)) := h150
  obtain ⟨Va, da⟩ : ∃ V, ud m Hsa = V := ⟨_, rfl⟩
  rw [da] at zza h150
  have qfa : uq F338 U Va := qf3.tr zza rfl
  show mu_W _ _ (35, [(1, .inl (nI v)), (0, .inr (.inr (some 147)))], [], Hsa) _
  refine mw_go mu_g338 (k := 3) (f1 := (40, [(1, .inl (nI v)), (0, .inr (.inr (some 147)))], [.inr (.inr (mu_r Hsa 147 0)), .inl (nI v)], Hsa)) (C := [mu_is Hsa (some 147) 2]) rfl (show mu_is Hsa (some 147) 2 from (ua.1.1.is rfl)) ?_
  rw [(ua.1.1.r (p := 147) (j := 0) (q := 99) rfl)]
  refine mw_go mu_g338 (k := 1) (f1 := (43, [(1, .inl (nI v)), (0, .inr (.inr (some 147)))], [.inl (mu_i Hsa 99 12), .inl (nI v)], Hsa)) (C := [mu_is Hsa (some 99) 13]) rfl (show mu_is Hsa (some 99) 13 from (ua.1.1.is rfl)) ?_
  rw [(show mu_i Hsa 99 12 = (nI wn) from (ud_i (U := Va) (m := m) (P := 99) (j := 12) da rfl).trans ((zza.i 99 12 rfl).trans hw))]
  refine mw_if (P := (nI v) < (nI wn)) (a := 46) (b := 78) (fun _ => rfl) trivial (fun h4 => ?_) (fun h4 => ?_)
  · -- 46: (nI v) < (nI wn)
    have nh4 : v < wn := (nI_ltI (by omega) (by omega)).mp (show nI v < nI wn from h4)
    refine mw_go mu_g338 (k := 2) (f1 := (50, [(1, .inl (nI v)), (0, .inr (.inr (some 147)))], [.inr (.inr (mu_r Hsa 147 4))], Hsa)) (C := [mu_is Hsa (some 147) 2]) rfl (show mu_is Hsa (some 147) 2 from (ua.1.1.is rfl)) ?_
    rw [(ua.1.1.r (p := 147) (j := 4) (q := 150) rfl)]
    refine mw_go mu_g338 (k := 3) (f1 := (55, [(1, .inl (nI v)), (0, .inr (.inr (some 147)))], [.inr (.inr (mu_r Hsa 147 0)), .inl (nI v), .inr (.inr (some 150))], Hsa)) (C := [mu_is Hsa (some 147) 2]) rfl (show mu_is Hsa (some 147) 2 from (ua.1.1.is rfl)) ?_
    rw [(ua.1.1.r (p := 147) (j := 0) (q := 99) rfl)]
    refine mw_go mu_g338 (k := 1) (f1 := (58, [(1, .inl (nI v)), (0, .inr (.inr (some 147)))], [.inr (.inr (mu_r Hsa 99 14)), .inl (nI v), .inr (.inr (some 150))], Hsa)) (C := [mu_is Hsa (some 99) 13]) rfl (show mu_is Hsa (some 99) 13 from (ua.1.1.is rfl)) ?_
    rw [(ua.1.1.r (p := 99) (j := 14) (q := 124) rfl)]
    refine mw_go mu_g338 (k := 2) (f1 := (60, [(1, .inl (nI v)), (0, .inr (.inr (some 147)))], [.inr (.inl (mu_l Hsa 124 (nI v).toNatClampNeg)), .inl (nI v), .inr (.inr (some 150))], Hsa)) (C := [mu_isr Hsa (some 124) 102, vp_in (nI v) (mu_n Hsa 124)]) rfl (show (mu_isr Hsa (some 124) 102) ∧ (vp_in (nI v) (mu_n Hsa 124)) from ⟨((ua.1.1.a (p := 124) (x := (102, 256)) rfl).1).r, (by rw [show mu_n Hsa 124 = 256 from (ua.1.1.a (p := 124) (x := (102, 256)) rfl).2]; exact vp_in_nI (n := v) (by omega) (by decide))⟩) ?_
    rw [(show (mu_l Hsa 124 (nI v).toNatClampNeg) = (U.2.2.2.2.1 124) v from (congrArg (mu_l Hsa 124) (show (nI v).toNatClampNeg = v from nI_clamp (by omega))).trans ((ud_l (m := m) (p := 124) (i := v) da rfl).trans (congrFun (show Va.2.2.2.2.1 124 = (U.2.2.2.2.1 124) from (zza.l 124 rfl)) v)))]
    refine mw_go mu_g338 (k := 2) (f1 := (64, [(1, .inl (nI v)), (0, .inr (.inr (some 147)))], [.inr (.inr (mu_r Hsa 147 3)), .inr (.inl ((U.2.2.2.2.1 124) v)), .inl (nI v), .inr (.inr (some 150))], Hsa)) (C := [mu_is Hsa (some 147) 2]) rfl (show mu_is Hsa (some 147) 2 from (ua.1.1.is rfl)) ?_
    rw [(ua.1.1.r (p := 147) (j := 3) (q := 149) rfl)]
    refine mw_go mu_g338 (k := 2) (f1 := (66, [(1, .inl (nI v)), (0, .inr (.inr (some 147)))], [.inr (.inl (mu_l Hsa 149 (nI v).toNatClampNeg)), .inr (.inl ((U.2.2.2.2.1 124) v)), .inl (nI v), .inr (.inr (some 150))], Hsa)) (C := [mu_isr Hsa (some 149) 102, vp_in (nI v) (mu_n Hsa 149)]) rfl (show (mu_isr Hsa (some 149) 102) ∧ (vp_in (nI v) (mu_n Hsa 149)) from ⟨((ua.1.1.a (p := 149) (x := (102, 256)) rfl).1).r, (by rw [show mu_n Hsa 149 = 256 from (ua.1.1.a (p := 149) (x := (102, 256)) rfl).2]; exact vp_in_nI (n := v) (by omega) (by decide))⟩) ?_
    obtain ⟨y5, hy5⟩ : ∃ y, y = (mu_l Hsa 149 (nI v).toNatClampNeg) := ⟨_, rfl⟩
    rw [← hy5]
    refine mw_go mu_g338 (k := 4) (f1 := (72, [(1, .inl (nI v)), (0, .inr (.inr (some 147)))], [], (mu_sl Hsa 150 (nI v).toNatClampNeg (((U.2.2.2.2.1 124) v) &&& (y5 ^^^ (-1 : Int64)))))) (C := [mu_is Hsa (some 150) 102, vp_in (nI v) (mu_n Hsa 150)]) rfl (show (mu_is Hsa (some 150) 102) ∧ (vp_in (nI v) (mu_n Hsa 150)) from ⟨((ua.1.1.a (p := 150) (x := (102, 256)) rfl).1), (by rw [show mu_n Hsa 150 = 256 from (ua.1.1.a (p := 150) (x := (102, 256)) rfl).2]; exact vp_in_nI (n := v) (by omega) (by decide))⟩) ?_
    rw [(show (nI v).toNatClampNeg = v from nI_clamp (by omega))]
    obtain ⟨u6, r6, d6⟩ : um m (mu_sl Hsa 150 v (((U.2.2.2.2.1 124) v) &&& (y5 ^^^ (-1 : Int64)))) ∧ ur m C Hsa (mu_sl Hsa 150 v (((U.2.2.2.2.1 124) v) &&& (y5 ^^^ (-1 : Int64)))) ∧ ud m (mu_sl Hsa 150 v (((U.2.2.2.2.1 124) v) &&& (y5 ^^^ (-1 : Int64)))) = (upL Va 150 v (((U.2.2.2.2.1 124) v) &&& (y5 ^^^ (-1 : Int64)))) := ua.sL (C := C) da rfl
    generalize (mu_sl Hsa 150 v (((U.2.2.2.2.1 124) v) &&& (y5 ^^^ (-1 : Int64)))) = Q6 at u6 r6 d6 ⊢
    have qf6 : uq F338 U (upL Va 150 v (((U.2.2.2.2.1 124) v) &&& (y5 ^^^ (-1 : Int64)))) := qfa.L rfl
    have ht6 : ur m C H Q6 := hta.trans r6
    refine mw_go mu_g338 (k := 1) (f1 := (75, [(1, .inl ((nI v) + 1)), (0, .inr (.inr (some 147)))], [], Q6)) (C := []) rfl trivial ?_
    rw [(show ((nI v) + 1) = (nI (v + 1)) from (nI_add v 1))]
    refine mw_go mu_g338 (k := 1) (f1 := (35, [(1, .inl (nI (v + 1))), (0, .inr (.inr (some 147)))], [], Q6)) (C := []) rfl trivial ?_
    exact mw_sub (by simp) (iha (v + 1, Q6) ⟨u6, ht6, (show uq F338a (upI (upI (upM U 149 0 (fun i => U.2.2.2.2.1 125 (0 + i)) wn) 147 17 (0 : Int32)) 147 18 (0 : Int32)) (ud m Q6) from by rw [d6]; exact (zza.L rfl)), (show (v + 1) ≤ wn from (by omega)), (show ∀ i, i < (v + 1) → (ud m Q6).2.2.2.2.1 150 i = U.2.2.2.2.1 124 i &&& (U.2.2.2.2.1 125 i ^^^ (-1 : Int64)) from by rw [d6]; exact (fun i hi => by show (if (150 = 150 ∧ i = v) then _ else Va.2.2.2.2.1 150 i) = _; by_cases y : i = v; (rw [if_pos ⟨rfl, y⟩, y, (show y5 = U.2.2.2.2.1 125 v from hy5.trans ((congrArg (mu_l Hsa 149) (nI_clamp (by omega))).trans ((ud_l (m := m) (p := 149) (i := v) da rfl).trans ((congrFun (zza.l 149 rfl) v).trans (by show (if 149 = 149 ∧ 0 ≤ v ∧ v < 0 + wn then U.2.2.2.2.1 125 (0 + (v - 0)) else _) = _; rw [if_pos ⟨rfl, Nat.zero_le _, by omega⟩, Nat.sub_zero, Nat.zero_add])))))]); (rw [if_neg (fun z => y z.2)]; exact h150 i (by omega))))⟩ (by show wn - (v + 1) < wn - v; omega))
  · -- 78: not (nI v) < (nI wn)
    have nh4 : ¬ v < wn := fun z => h4 (show nI v < nI wn from (nI_ltI (by omega) (by omega)).mpr z)
    refine mw_go mu_g338 (k := 2) (f1 := (80, [(1, .inl (0 : Int32)), (0, .inr (.inr (some 147)))], [], Hsa)) (C := []) rfl trivial ?_
    show mu_W _ _ (80, [(1, .inl (nI 0)), (0, .inr (.inr (some 147)))], [], Hsa) _
    refine mw_sub (L' := [(1, .inl (nI 0)), (0, .inr (.inr (some 147)))]) (by simp) ?_
    refine mw_down (α := Nat × mu_H) (fun zs => (80, [(1, .inl (nI zs.1)), (0, .inr (.inr (some 147)))], [], zs.2)) (fun zs => T - zs.1) (fun zs => um m zs.2 ∧ ur m C H zs.2 ∧ (uq F338b Va (ud m zs.2)) ∧ (zs.1 ≤ T) ∧ (QIN (ud m zs.2) U zs.1)) (fun zs hzb ihb => ?_) (0, Hsa) ⟨ua, hta, (show uq F338b Va (ud m Hsa) from by rw [da]; exact uq.refl _ _), (show 0 ≤ T from (by omega)), (show QIN (ud m Hsa) U 0 from by rw [da]; exact ⟨0, fun _ => 0, (zza.i 147 18 rfl), Nat.le_refl _, fun i hi => absurd hi (Nat.not_lt_zero i), fun x hx => absurd hx (Nat.not_lt_zero x), fun i j _ hj => absurd hj (Nat.not_lt_zero j)⟩)⟩
    obtain ⟨w, Hsb⟩ := zs
    obtain ⟨ub, htb, db, hww, hQI⟩ := hzb
    have ub : um m Hsb := ub
    have htb : ur m C H Hsb := htb
    have zzb : uq F338b Va (ud m Hsb) := db
    have hww : w ≤ T := hww
    have hQI : QIN (ud m Hsb) U w := hQI
    obtain ⟨Vb, db⟩ : ∃ V, ud m Hsb = V := ⟨_, rfl⟩
    rw [db] at zzb hQI
    have qfb : uq F338 U Vb := qfa.tr zzb rfl
    show mu_W _ _ (80, [(1, .inl (nI w)), (0, .inr (.inr (some 147)))], [], Hsb) _
    refine mw_go mu_g338 (k := 3) (f1 := (85, [(1, .inl (nI w)), (0, .inr (.inr (some 147)))], [.inr (.inr (mu_r Hsb 147 0)), .inl (nI w)], Hsb)) (C := [mu_is Hsb (some 147) 2]) rfl (show mu_is Hsb (some 147) 2 from (ub.1.1.is rfl)) ?_
    rw [(ub.1.1.r (p := 147) (j := 0) (q := 99) rfl)]
    refine mw_go mu_g338 (k := 1) (f1 := (88, [(1, .inl (nI w)), (0, .inr (.inr (some 147)))], [.inl (mu_i Hsb 99 11), .inl (nI w)], Hsb)) (C := [mu_is Hsb (some 99) 13]) rfl (show mu_is Hsb (some 99) 13 from (ub.1.1.is rfl)) ?_
    rw [(show mu_i Hsb 99 11 = (nI T) from (ud_i (U := Vb) (m := m) (P := 99) (j := 11) db rfl).trans ((zzb.i 99 11 rfl).trans ((zza.i 99 11 rfl).trans hT11)))]
    refine mw_if (P := (nI w) < (nI T)) (a := 91) (b := 128) (fun _ => rfl) trivial (fun h7 => ?_) (fun h7 => ?_)
    · -- 91: (nI w) < (nI T)
      have nh7 : w < T := (nI_ltI (by omega) (by omega)).mp (show nI w < nI T from h7)
      obtain ⟨tl, qu, hq18, hqt, hq1, hq2, hq3⟩ := hQI
      refine mw_go mu_g338 (k := 2) (f1 := (95, [(1, .inl (nI w)), (0, .inr (.inr (some 147)))], [.inr (.inr (mu_r Hsb 147 3))], Hsb)) (C := [mu_is Hsb (some 147) 2]) rfl (show mu_is Hsb (some 147) 2 from (ub.1.1.is rfl)) ?_
      rw [(ub.1.1.r (p := 147) (j := 3) (q := 149) rfl)]
      refine mw_go mu_g338 (k := 1) (f1 := (96, [(1, .inl (nI w)), (0, .inr (.inr (some 147)))], [.inl (nI w), .inr (.inr (some 149))], Hsb)) (C := []) rfl trivial ?_
      refine mw_cIe (fun _ => rfl) trivial (pv_has_149 (d := (d + 2)) (k := w) ub db (by omega)) ?_
      rw [show btz (Vb.2.2.2.2.1 149 (w / 64)) (w % 64) = bts (U.2.2.2.2.1 125) w from by rw [(show Vb.2.2.2.2.1 149 = (upM U 149 0 (fun i => U.2.2.2.2.1 125 (0 + i)) wn).2.2.2.2.1 149 from ((zzb.l 149 rfl).trans (zza.l 149 rfl)))]; exact h149 w (by omega)]
      refine mw_if (P := (if bts (U.2.2.2.2.1 125) w = true then 1 else 0) = 0) (a := 122) (b := 102) (fun _ => rfl) trivial (fun h9 => ?_) (fun h9 => ?_)
      · -- 122: (if bts (U.2.2.2.2.1 125) w = true then 1 else 0) = 0
        have hbw : ¬ bts (U.2.2.2.2.1 125) w = true := fun y => by rw [if_pos y] at h9; exact absurd h9 (by decide)
        refine mw_go mu_g338 (k := 1) (f1 := (125, [(1, .inl ((nI w) + 1)), (0, .inr (.inr (some 147)))], [], Hsb)) (C := []) rfl trivial ?_
        rw [(show ((nI w) + 1) = (nI (w + 1)) from (nI_add w 1))]
        refine mw_go mu_g338 (k := 1) (f1 := (80, [(1, .inl (nI (w + 1))), (0, .inr (.inr (some 147)))], [], Hsb)) (C := []) rfl trivial ?_
        exact mw_sub (by simp) (ihb (w + 1, Hsb) ⟨ub, htb, (show uq F338b Va (ud m Hsb) from by rw [db]; exact zzb), (show (w + 1) ≤ T from (by omega)), (show QIN (ud m Hsb) U (w + 1) from by rw [db]; exact ⟨tl, qu, hq18, by omega, fun i hi => by have y2 := hq1 i hi; exact ⟨y2.1, by omega, y2.2.2⟩, fun x hx hb => by by_cases y : x = w; (rw [y] at hb; exact absurd hb hbw); (exact hq2 x (by omega) hb), hq3⟩)⟩ (by show T - (w + 1) < T - w; omega))
      · -- 102: not (if bts (U.2.2.2.2.1 125) w = true then 1 else 0) = 0
        have hbw : bts (U.2.2.2.2.1 125) w = true := Decidable.not_not.mp (fun y => h9 (if_neg y))
        refine mw_go mu_g338 (k := 2) (f1 := (106, [(1, .inl (nI w)), (0, .inr (.inr (some 147)))], [.inr (.inr (mu_r Hsb 147 12))], Hsb)) (C := [mu_is Hsb (some 147) 2]) rfl (show mu_is Hsb (some 147) 2 from (ub.1.1.is rfl)) ?_
        rw [(show mu_r Hsb 147 12 = (U.2.2.2.1 147 12) from (ud_q (U := Vb) (m := m) (P := 147) (j := 12) db rfl).trans ((zzb.r 147 12 rfl).trans (zza.r 147 12 rfl)))]
        refine mw_go mu_g338 (k := 2) (f1 := (110, [(1, .inl (nI w)), (0, .inr (.inr (some 147)))], [.inl (mu_i Hsb 147 18), .inr (.inr (U.2.2.2.1 147 12))], Hsb)) (C := [mu_is Hsb (some 147) 2]) rfl (show mu_is Hsb (some 147) 2 from (ub.1.1.is rfl)) ?_
        rw [(show mu_i Hsb 147 18 = (nI tl) from (ud_i (U := Vb) (m := m) (P := 147) (j := 18) db rfl).trans hq18)]
        refine mw_go mu_g338 (k := 2) (f1 := (112, [(1, .inl (nI w)), (0, .inr (.inr (some 147)))], [], (mu_si Hsb (mu_p (U.2.2.2.1 147 12)) (nI tl).toNatClampNeg (nI w)))) (C := [mu_is Hsb (U.2.2.2.1 147 12) 100, vp_in (nI tl) (mu_n Hsb (mu_p (U.2.2.2.1 147 12)))]) rfl (show (mu_is Hsb (U.2.2.2.1 147 12) 100) ∧ (vp_in (nI tl) (mu_n Hsb (mu_p (U.2.2.2.1 147 12)))) from ⟨(ub.iA db rfl rfl (show Vb.2.2.2.1 147 12 = (U.2.2.2.1 147 12) from ((zzb.r 147 12 rfl).trans (zza.r 147 12 rfl)))), (ub.vA (i := tl) db rfl rfl (show Vb.2.2.2.1 147 12 = (U.2.2.2.1 147 12) from ((zzb.r 147 12 rfl).trans (zza.r 147 12 rfl))) (show (Vb.2.2.1 147 12).1 = (U.2.2.1 147 12).1 from ((zzb.n 147 12 rfl).trans (zza.n 147 12 rfl))) (by omega) (by omega))⟩) ?_
        rw [(show (nI tl).toNatClampNeg = tl from nI_clamp (by omega))]
        obtain ⟨u10, r10, d10⟩ : um m (mu_si Hsb (mu_p (U.2.2.2.1 147 12)) tl (nI w)) ∧ ur m C Hsb (mu_si Hsb (mu_p (U.2.2.2.1 147 12)) tl (nI w)) ∧ ud m (mu_si Hsb (mu_p (U.2.2.2.1 147 12)) tl (nI w)) = (upA Vb 147 12 tl (nI w)) := ub.sA (C := C) db rfl rfl (show Vb.2.2.2.1 147 12 = (U.2.2.2.1 147 12) from ((zzb.r 147 12 rfl).trans (zza.r 147 12 rfl)))
        generalize (mu_si Hsb (mu_p (U.2.2.2.1 147 12)) tl (nI w)) = Q10 at u10 r10 d10 ⊢
        have qf10 : uq F338 U (upA Vb 147 12 tl (nI w)) := qfb.A rfl
        have ht10 : ur m C H Q10 := htb.trans r10
        refine mw_go mu_g338 (k := 3) (f1 := (117, [(1, .inl (nI w)), (0, .inr (.inr (some 147)))], [.inl (mu_i Q10 147 18), .inr (.inr (some 147))], Q10)) (C := [mu_is Q10 (some 147) 2]) rfl (show mu_is Q10 (some 147) 2 from (u10.1.1.is rfl)) ?_
        rw [(show mu_i Q10 147 18 = (nI tl) from (ud_i (U := (upA Vb 147 12 tl (nI w))) (m := m) (P := 147) (j := 18) d10 rfl).trans hq18)]
        refine mw_go mu_g338 (k := 2) (f1 := (119, [(1, .inl (nI w)), (0, .inr (.inr (some 147)))], [.inl ((nI tl) + (1 : Int32)), .inr (.inr (some 147))], Q10)) (C := []) rfl trivial ?_
        rw [(show ((nI tl) + (1 : Int32)) = (nI (tl + 1)) from (nI_add tl 1))]
        refine mw_go mu_g338 (k := 1) (f1 := (122, [(1, .inl (nI w)), (0, .inr (.inr (some 147)))], [], (mu_si Q10 147 18 (nI (tl + 1))))) (C := [mu_is Q10 (some 147) 2]) rfl (show mu_is Q10 (some 147) 2 from (u10.1.1.is rfl)) ?_
        obtain ⟨u11, r11, d11⟩ : um m (mu_si Q10 147 18 (nI (tl + 1))) ∧ ur m C Q10 (mu_si Q10 147 18 (nI (tl + 1))) ∧ ud m (mu_si Q10 147 18 (nI (tl + 1))) = (upI (upA Vb 147 12 tl (nI w)) 147 18 (nI (tl + 1))) := u10.sI (C := C) d10 rfl
        generalize (mu_si Q10 147 18 (nI (tl + 1))) = Q11 at u11 r11 d11 ⊢
        have qf11 : uq F338 U (upI (upA Vb 147 12 tl (nI w)) 147 18 (nI (tl + 1))) := qf10.I rfl
        have ht11 : ur m C H Q11 := ht10.trans r11
        refine mw_go mu_g338 (k := 1) (f1 := (125, [(1, .inl ((nI w) + 1)), (0, .inr (.inr (some 147)))], [], Q11)) (C := []) rfl trivial ?_
        rw [(show ((nI w) + 1) = (nI (w + 1)) from (nI_add w 1))]
        refine mw_go mu_g338 (k := 1) (f1 := (80, [(1, .inl (nI (w + 1))), (0, .inr (.inr (some 147)))], [], Q11)) (C := []) rfl trivial ?_
        exact mw_sub (by simp) (ihb (w + 1, Q11) ⟨u11, ht11, (show uq F338b Va (ud m Q11) from by rw [d11]; exact ((zzb.A rfl).I rfl)), (show (w + 1) ≤ T from (by omega)), (show QIN (ud m Q11) U (w + 1) from by rw [d11]; exact ⟨tl + 1, upv qu tl w, rfl, by omega, fun i hi => by show (if i = tl then nI w else (Vb.2.2.1 147 12).2 i) = nI (upv qu tl w i) ∧ _ ∧ _; by_cases y : i = tl; (rw [if_pos y, y, upv_eq]; exact ⟨rfl, by omega, hbw⟩); (rw [if_neg y, upv_ne (by omega)]; have y2 := hq1 i (by omega); exact ⟨y2.1, by omega, y2.2.2⟩), fun x hx hb => by by_cases y : x = w; (exact ⟨tl, by omega, by rw [upv_eq, y]⟩); (obtain ⟨i, i1, i2⟩ := hq2 x (by omega) hb; exact ⟨i, by omega, by rw [upv_ne i1]; exact i2⟩), fun i j hij hj => by by_cases y : j = tl; (rw [y, upv_eq, upv_ne (by omega)]; have y2 := hq1 i (by omega); omega); (rw [upv_ne (show j < tl by omega), upv_ne (show i < tl by omega)]; exact hq3 i j hij (by omega))⟩)⟩ (by show T - (w + 1) < T - w; omega))
    · -- 128: not (nI w) < (nI T)
      have nh7 : ¬ w < T := fun z => h7 (show nI w < nI T from (nI_ltI (by omega) (by omega)).mpr z)
      refine mw_go mu_g338 (k := 2) (f1 := (130, [(1, .inl (nI w)), (0, .inr (.inr (some 147)))], [.inr (.inr none), .inr (.inr (some 147))], Hsb)) (C := []) rfl trivial ?_
      refine mw_go mu_g338 (k := 1) (f1 := (133, [(1, .inl (nI w)), (0, .inr (.inr (some 147)))], [], (mu_sr Hsb 147 8 none))) (C := [mu_is Hsb (some 147) 2]) rfl (show mu_is Hsb (some 147) 2 from (ub.1.1.is rfl)) ?_
      obtain ⟨u12, r12, d12⟩ : um m (mu_sr Hsb 147 8 none) ∧ ur m C Hsb (mu_sr Hsb 147 8 none) ∧ ud m (mu_sr Hsb 147 8 none) = (upR Vb 147 8 none) := (by have z := ub.putR (C := C) (P := 147) (k := 8) (v := none) rfl rfl rfl (by decide) (fun q hq => by cases hq); rw [db] at z; exact z)
      generalize (mu_sr Hsb 147 8 none) = Q12 at u12 r12 d12 ⊢
      have qf12 : uq F338 U (upR Vb 147 8 none) := qfb.R rfl
      have ht12 : ur m C H Q12 := htb.trans r12
      refine mw_go mu_g338 (k := 3) (f1 := (138, [(1, .inl (nI w)), (0, .inr (.inr (some 147)))], [], (mu_si Q12 147 16 (0 : Int32)))) (C := [mu_is Q12 (some 147) 2]) rfl (show mu_is Q12 (some 147) 2 from (u12.1.1.is rfl)) ?_
      obtain ⟨u13, r13, d13⟩ : um m (mu_si Q12 147 16 (0 : Int32)) ∧ ur m C Q12 (mu_si Q12 147 16 (0 : Int32)) ∧ ud m (mu_si Q12 147 16 (0 : Int32)) = (upI (upR Vb 147 8 none) 147 16 (0 : Int32)) := u12.sI (C := C) d12 rfl
      generalize (mu_si Q12 147 16 (0 : Int32)) = Q13 at u13 r13 d13 ⊢
      have qf13 : uq F338 U (upI (upR Vb 147 8 none) 147 16 (0 : Int32)) := qf12.I rfl
      have ht13 : ur m C H Q13 := ht12.trans r13
      refine mw_go mu_g338 (k := 1) (f1 := (139, [(1, .inl (nI w)), (0, .inr (.inr (some 147)))], [.inr (.inr (some 147))], Q13)) (C := []) rfl trivial ?_
      refine mw_cV (fun _ => rfl) (show mu_is Q13 (some 147) 2 from (u13.1.1.is rfl)) (gr_clear (d := (d + 1)) (C := C) (N := N) (fb := fb) (R := R) u13 d13 ((show ((upI (upR Vb 147 8 none) 147 16 (0 : Int32)).2.1 113 2) = (U.2.1 113 2) from ((zzb.i 113 2 rfl).trans (zza.i 113 2 rfl))).trans hN) ((show ((upI (upR Vb 147 8 none) 147 16 (0 : Int32)).2.1 113 8) = (U.2.1 113 8) from ((zzb.i 113 8 rfl).trans (zza.i 113 8 rfl))).trans hfb) hfN hR (by rw [(show ((upI (upR Vb 147 8 none) 147 16 (0 : Int32)).2.2.1 147 10).1 = (U.2.2.1 147 10).1 from ((zzb.n 147 10 rfl).trans (zza.n 147 10 rfl)))]; exact hRl) (by rw [(show ((upI (upR Vb 147 8 none) 147 16 (0 : Int32)).2.2.1 147 10).1 = (U.2.2.1 147 10).1 from ((zzb.n 147 10 rfl).trans (zza.n 147 10 rfl)))]; exact h10b)) (fun Q14 q14 => ?_)
      obtain ⟨u14, r14, z14, hcl⟩ := q14
      have ht14 : ur m C H Q14 := ht13.trans r14
      obtain ⟨V14, d14⟩ : ∃ V, ud m Q14 = V := ⟨_, rfl⟩
      rw [d14] at z14 hcl
      have qf14 : uq F338 U V14 := qf13.tr z14 rfl
      refine mw_go mu_g338 (k := 1) (f1 := (143, [(1, .inl (nI w)), (0, .inr (.inr (some 147)))], [.inr (.inr (some 147))], Q14)) (C := []) rfl trivial ?_
      obtain ⟨tl, qu, hq18, hqt, hq1, hq2, hq3⟩ := hQI
      have hix : ∀ r, r < R → (V14.2.2.1 147 10).2 (r * 7 + 1) = nI 0 ∧ (0 : Nat) < 2147483648 := fun r hr => by
        refine ⟨?_, by decide⟩
        rw [hcl, if_pos ⟨by omega, by omega⟩]
        rfl
      refine mw_cV (fun _ => rfl) (show mu_is Q14 (some 147) 2 from (u14.1.1.is rfl)) (gr_open0 (d := (d + 1)) (C := C) (wn := wn) (c := 0) (hd := 0) (tl := tl) (T := T) (R := R) (rx := rx) (qu := qu) (ix := fun _ => 0) u14 d14 ((show (V14.2.1 99 12) = (U.2.1 99 12) from ((z14.i 99 12 rfl).trans ((zzb.i 99 12 rfl).trans (zza.i 99 12 rfl)))).trans hw) hwb (z14.i 147 16 rfl) (Nat.zero_le _) (fun i hi => absurd hi (Nat.not_lt_zero i)) ((z14.i 147 17 rfl).trans ((zzb.i 147 17 rfl).trans (zza.i 147 17 rfl))) ((show (V14.2.1 147 18) = (Vb.2.1 147 18) from (z14.i 147 18 rfl)).trans hq18) (Nat.zero_le _) (by rw [(show (V14.2.2.1 147 12).1 = (U.2.2.1 147 12).1 from ((z14.n 147 12 rfl).trans ((zzb.n 147 12 rfl).trans (zza.n 147 12 rfl))))]; omega) (by rw [(show (V14.2.2.1 147 12).1 = (U.2.2.1 147 12).1 from ((z14.n 147 12 rfl).trans ((zzb.n 147 12 rfl).trans (zza.n 147 12 rfl))))]; exact h12b) (fun i hi => by rw [(show (V14.2.2.1 147 12) = (Vb.2.2.1 147 12) from (z14.a 147 12 rfl))]; exact ⟨(hq1 i hi).1, by have y := (hq1 i hi).2.1; omega⟩) hTb (by rw [(show (V14.2.2.1 129 6).1 = (U.2.2.1 129 6).1 from ((z14.n 129 6 rfl).trans ((zzb.n 129 6 rfl).trans (zza.n 129 6 rfl))))]; exact h6) (by rw [(show (V14.2.2.1 129 6).1 = (U.2.2.1 129 6).1 from ((z14.n 129 6 rfl).trans ((zzb.n 129 6 rfl).trans (zza.n 129 6 rfl))))]; exact h6b) (by rw [(show (V14.2.2.1 129 6) = (U.2.2.1 129 6) from ((z14.a 129 6 rfl).trans ((zzb.a 129 6 rfl).trans (zza.a 129 6 rfl))))]; exact hrx) (by rw [(show (V14.2.2.1 147 10).1 = (U.2.2.1 147 10).1 from ((z14.n 147 10 rfl).trans ((zzb.n 147 10 rfl).trans (zza.n 147 10 rfl))))]; exact hRl) (by rw [(show (V14.2.2.1 147 10).1 = (U.2.2.1 147 10).1 from ((z14.n 147 10 rfl).trans ((zzb.n 147 10 rfl).trans (zza.n 147 10 rfl))))]; exact h10b) hix (z14.r 147 8 rfl)) (fun Q15 q15 => ?_)
      obtain ⟨u15, r15, z15, hres⟩ := q15
      have ht15 : ur m C H Q15 := ht14.trans r15
      obtain ⟨V15, d15⟩ : ∃ V, ud m Q15 = V := ⟨_, rfl⟩
      rw [d15] at z15 hres
      have qf15 : uq F338 U V15 := qf14.tr z15 rfl
      refine mw_of (fun _ => mu_ret rfl trivial ⟨Q15, rfl, u15, ht15, (by rw [d15]; exact qf15), ?_⟩)
      rw [d15]
      obtain ⟨⟨hj14, hj19⟩, hh, hhb, hj17, ⟨c, hc1, hc2, hc3⟩, hOP, hwhy, hre1, hre2⟩ := hres
      refine ⟨⟨hj14, hj19, ((z15.r 147 8 rfl).trans (z14.r 147 8 rfl))⟩, fun i hi => ?_, V14, tl, qu, hh, (show V15.2.2.2.2.1 150 = V14.2.2.2.2.1 150 from z15.l 150 rfl).symm, fun s hs => ?_, fun r hr => (hix r hr).1, fun j hj => ?_, ((z15.i 147 18 rfl).trans ((show V14.2.1 147 18 = Vb.2.1 147 18 from (z14.i 147 18 rfl)).trans hq18)), by omega, fun i hi => ?_, ?_, hq3, hhb.2, hj17, ⟨c, hc1, hc2, by rw [(show V15.2.2.2.2.1 150 = V14.2.2.2.2.1 150 from z15.l 150 rfl)]; exact hc3⟩, hOP, by rw [(show V15.2.2.2.2.1 150 = V14.2.2.2.2.1 150 from z15.l 150 rfl)]; exact hwhy, hre1, hre2⟩
      · rw [(show V15.2.2.2.2.1 150 = V14.2.2.2.2.1 150 from z15.l 150 rfl), (show V14.2.2.2.2.1 150 = Va.2.2.2.2.1 150 from ((z14.l 150 rfl).trans (zzb.l 150 rfl)))]; exact h150 i (by omega)
      · unfold bts; rw [(show V14.2.2.2.2.1 149 = (upM U 149 0 (fun i => U.2.2.2.2.1 125 (0 + i)) wn).2.2.2.2.1 149 from ((z14.l 149 rfl).trans ((zzb.l 149 rfl).trans (zza.l 149 rfl)))), h149 s hs]; exact Iff.rfl
      · rw [hcl, if_neg (fun y => hj y.2), (show (upI (upR Vb 147 8 none) 147 16 (0 : Int32)).2.2.1 147 10 = U.2.2.1 147 10 from ((zzb.a 147 10 rfl).trans (zza.a 147 10 rfl)))]
      · rw [(show V15.2.2.1 147 12 = Vb.2.2.1 147 12 from (z15.a 147 12 rfl).trans (z14.a 147 12 rfl))]; have y := hq1 i hi; exact ⟨y.1, by omega, y.2.2⟩
      · exact fun x hx hb => hq2 x (by omega) hb
end Explore
