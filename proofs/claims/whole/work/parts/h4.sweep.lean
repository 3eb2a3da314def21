/-! GRAPH: a sweep begins -/
section SweepBegin
variable {H : mu_H} {U V W : Ud} {m d T R wn ga gi gq ev nf bf bt a i q L : Nat} {C : Nat → Nat} {rx mb me : Nat → Nat} {RB : Nat → Nat → Prop} {A g0 : Nat → Prop} {FS : Nat → Nat → Bool}
theorem LSN.cd (e : ud m H = V) (hn : LSN V a i q L) : gi_cd H q := by
  rcases hn with ⟨-, rfl, hi, -⟩ | ⟨ha, hp, h1, -⟩
  · exact Or.inl (by omega)
  · exact Or.inr ⟨a, i, by rcases ha with rfl | rfl <;> rfl, (dR_pool e ha hp).trans h1⟩
/-- before the first row is entered -/
theorem SWS.init (hG : GRB V T R wn rx mb me) (hgl : LSN V ga gi gq 256) (hgo : V.2.2.2.1 147 8 = some gq) (hF : FST V nf T FS) (h20 : V.2.1 147 20 = 0) (h21 : V.2.1 147 21 = 0) (h22 : V.2.1 147 22 = 0) (h9 : V.2.1 147 9 = nI ev) (hev : ev ≤ 1) (hA : ∀ t, t < T → (bts (V.2.2.2.2.1 153) t = true ↔ A t)) (hAT : ∀ t, A t → t < T) (hRB : ∀ x t, RB x t → t < T) (hg : ∀ t, (t < T ∧ bts (lgf V ga gi) t = true) ↔ g0 t) (h50 : ∀ s, s < 64 * wn → (bts (V.2.2.2.2.1 150) s = true ↔ A s)) (h51 : ∀ t, t < T → ¬ bts (V.2.2.2.2.1 151) t = true) (hgb : ga = 0 ∧ gi = 148 → ∀ s, s < 64 * wn → bts (lgf V ga gi) s = true → s < T) : SWS V T R wn rx mb me ga gi gq RB A g0 ev nf FS 0 0 0 (fun _ => 0) (fun _ => 0) (fun _ => 0) (fun _ => 0) (fun _ => 0) (fun _ => 0) (fun _ => 0) (fun _ => False) (fun _ => False) (fun _ => 0) 0 R := by
  have hw := hG.1.2.1
  refine ⟨⟨hG, hgl, hgo, hF⟩, ⟨h20, h21, h22, h9, hev⟩, ⟨hA, hAT, hRB, fun t ht => ((hg t).mpr ht).1, fun s hs y => y.elim (fun y => hAT s ((h50 s hs).mp y)) (fun y => hgb ⟨y.1, y.2.1⟩ s hs y.2.2)⟩, ⟨⟨fun i hi => absurd hi (Nat.not_lt_zero i), fun i hi => absurd hi (Nat.not_lt_zero i), fun i hi => absurd hi (Nat.not_lt_zero i)⟩, fun i hi => absurd hi (Nat.not_lt_zero i)⟩, ?_⟩
  refine TJ.init hg (fun t => ⟨fun y => (h50 t (by have := y.1; omega)).mp y.2, fun y => ⟨hAT t y, (h50 t (by have := hAT t y; omega)).mpr y⟩⟩) (fun t y => h51 t y.1 y.2)
def F320 : Uf := ⟨[], [(147, 9), (147, 14), (147, 15), (147, 16), (147, 20), (147, 21), (147, 22)], [], [], [150, 151], false⟩
/-- PathProver$Graph.sweep(Z)V -/
abbrev mu_m320 : ev_M := (2, none, [], ev_b320)
theorem mu_g320 : mu_good mu_m320 := mu_goodk ev_k320
theorem gr_sweep (h : um m H) (e : ud m H = U) (hG : GRB U T R wn rx mb me) (hgl : LSN U ga gi gq 256) (hgo : U.2.2.2.1 147 8 = some gq) (hF : FST U nf T FS) (hAT : ∀ s, s < 64 * wn → bts (U.2.2.2.2.1 153) s = true → s < T) (hRB : ∀ x t, RB x t → t < T) (hev : ev ≤ 1) (hgb : ga = 0 ∧ gi = 148 → ∀ s, s < 64 * wn → bts (lgf U ga gi) s = true → s < T) : mu_TV (mu_D (d + 4)) 320 [.inr (.inr (some 147)), .inl (nI ev)] H (fun H1 => um m H1 ∧ ur m C H H1 ∧ uq F320 U (ud m H1) ∧ SWJ (ud m H1) T R wn rx mb me ga gi gq RB (fun t => t < T ∧ bts (U.2.2.2.2.1 153) t = true) (fun t => t < T ∧ bts (lgf U ga gi) t = true) ev nf FS (8 * R)) := by
  obtain ⟨⟨⟨hg12, hg11⟩, hgwn, hTb⟩, ⟨⟨g6a, g6b⟩, hrx⟩, ⟨hRT, g10a, g10b⟩, ⟨g11a, g11b⟩, ⟨g12a, g12b⟩, ⟨g13a, g13b⟩, hmb, hme, hmp1, hmp2, hmp3, hmp4⟩ := id hG
  have hwnb : wn ≤ 256 := by omega
  have hev01 : (nI ev) = 0 ∨ (nI ev) = 1 := by
    have y : ev = 0 ∨ ev = 1 := by omega
    rcases y with rfl | rfl
    · exact Or.inl rfl
    · exact Or.inr rfl
  refine mu_meth (M := mu_m320) rfl rfl ?_
  refine mw_ht (mu_fn_of (show [0, 1].Nodup by decide)) ?_
  refine mw_go mu_g320 (k := 3) (f1 := (5, [(0, .inr (.inr (some 147))), (1, .inl (nI ev))], [], (mu_si H 147 9 (nI ev)))) (C := [mu_is H (some 147) 2, (nI ev) = 0 ∨ (nI ev) = 1]) rfl (show (mu_is H (some 147) 2) ∧ ((nI ev) = 0 ∨ (nI ev) = 1) from ⟨(h.1.1.is rfl), (by assumption)⟩) ?_
  obtain ⟨u1, r1, d1⟩ : um m (mu_si H 147 9 (nI ev)) ∧ ur m C H (mu_si H 147 9 (nI ev)) ∧ ud m (mu_si H 147 9 (nI ev)) = (upI U 147 9 (nI ev)) := h.sI (C := C) e rfl
  generalize (mu_si H 147 9 (nI ev)) = Q1 at u1 r1 d1 ⊢
  have qf1 : uq F320 U (upI U 147 9 (nI ev)) := (uq.refl F320 U).I rfl
  have ht1 : ur m C H Q1 := (ur.refl m C H).trans r1
  refine mw_go mu_g320 (k := 2) (f1 := (9, [(0, .inr (.inr (some 147))), (1, .inl (nI ev))], [.inr (.inr (mu_r Q1 147 7))], Q1)) (C := [mu_is Q1 (some 147) 2]) rfl (show mu_is Q1 (some 147) 2 from (u1.1.1.is rfl)) ?_
  rw [(u1.1.1.r (p := 147) (j := 7) (q := 153) rfl)]
  refine mw_go mu_g320 (k := 3) (f1 := (14, [(0, .inr (.inr (some 147))), (1, .inl (nI ev))], [.inr (.inr (mu_r Q1 147 4)), .inl (0 : Int32), .inr (.inr (some 153))], Q1)) (C := [mu_is Q1 (some 147) 2]) rfl (show mu_is Q1 (some 147) 2 from (u1.1.1.is rfl)) ?_
  rw [(u1.1.1.r (p := 147) (j := 4) (q := 150) rfl)]
  refine mw_go mu_g320 (k := 3) (f1 := (19, [(0, .inr (.inr (some 147))), (1, .inl (nI ev))], [.inr (.inr (mu_r Q1 147 0)), .inl (0 : Int32), .inr (.inr (some 150)), .inl (0 : Int32), .inr (.inr (some 153))], Q1)) (C := [mu_is Q1 (some 147) 2]) rfl (show mu_is Q1 (some 147) 2 from (u1.1.1.is rfl)) ?_
  rw [(u1.1.1.r (p := 147) (j := 0) (q := 99) rfl)]
  refine mw_go mu_g320 (k := 1) (f1 := (22, [(0, .inr (.inr (some 147))), (1, .inl (nI ev))], [.inl (mu_i Q1 99 12), .inl (0 : Int32), .inr (.inr (some 150)), .inl (0 : Int32), .inr (.inr (some 153))], Q1)) (C := [mu_is Q1 (some 99) 13]) rfl (show mu_is Q1 (some 99) 13 from (u1.1.1.is rfl)) ?_
  rw [(show mu_i Q1 99 12 = (nI wn) from (ud_i (U := (upI U 147 9 (nI ev))) (m := m) (P := 99) (j := 12) d1 rfl).trans hg12)]
  refine mw_copyL rfl (show mu_is Q1 (some 153) 102 from (u1.1.1.a (p := 153) (x := (102, 256)) rfl).1) (show mu_is Q1 (some 150) 102 from (u1.1.1.a (p := 150) (x := (102, 256)) rfl).1) (by decide) (by decide) (nI_pos (by omega)) (by rw [show mu_n Q1 (mu_p (some 153)) = 256 from (u1.1.1.a (p := 153) (x := (102, 256)) rfl).2, (show (0 : Int32).toNatClampNeg = 0 from by decide), (show (nI wn).toNatClampNeg = wn from nI_clamp (by omega))]; omega) (by rw [show mu_n Q1 (mu_p (some 150)) = 256 from (u1.1.1.a (p := 150) (x := (102, 256)) rfl).2, (show (0 : Int32).toNatClampNeg = 0 from by decide), (show (nI wn).toNatClampNeg = wn from nI_clamp (by omega))]; omega) (by decide) ?_
  rw [(show (0 : Int32).toNatClampNeg = 0 from by decide), (show (nI wn).toNatClampNeg = wn from nI_clamp (by omega))]
  show mu_W _ _ (25, [(0, .inr (.inr (some 147))), (1, .inl (nI ev))], [], (mu_cpl Q1 153 0 150 0 wn)) _
  obtain ⟨u2, r2, d2⟩ : um m (mu_cpl Q1 153 0 150 0 wn) ∧ ur m C Q1 (mu_cpl Q1 153 0 150 0 wn) ∧ ud m (mu_cpl Q1 153 0 150 0 wn) = (upM (upI U 147 9 (nI ev)) 150 0 (fun i => (upI U 147 9 (nI ev)).2.2.2.2.1 153 (0 + i)) wn) := u1.cL (C := C) d1 rfl rfl
  generalize (mu_cpl Q1 153 0 150 0 wn) = Q2 at u2 r2 d2 ⊢
  have qf2 : uq F320 U (upM (upI U 147 9 (nI ev)) 150 0 (fun i => (upI U 147 9 (nI ev)).2.2.2.2.1 153 (0 + i)) wn) := qf1.M rfl
  have ht2 : ur m C H Q2 := ht1.trans r2
  refine mw_go mu_g320 (k := 2) (f1 := (29, [(0, .inr (.inr (some 147))), (1, .inl (nI ev))], [.inr (.inr (mu_r Q2 147 5))], Q2)) (C := [mu_is Q2 (some 147) 2]) rfl (show mu_is Q2 (some 147) 2 from (u2.1.1.is rfl)) ?_
  rw [(u2.1.1.r (p := 147) (j := 5) (q := 151) rfl)]
  refine mw_go mu_g320 (k := 3) (f1 := (34, [(0, .inr (.inr (some 147))), (1, .inl (nI ev))], [.inr (.inr (mu_r Q2 147 0)), .inl (0 : Int32), .inr (.inr (some 151))], Q2)) (C := [mu_is Q2 (some 147) 2]) rfl (show mu_is Q2 (some 147) 2 from (u2.1.1.is rfl)) ?_
  rw [(u2.1.1.r (p := 147) (j := 0) (q := 99) rfl)]
  refine mw_go mu_g320 (k := 1) (f1 := (37, [(0, .inr (.inr (some 147))), (1, .inl (nI ev))], [.inl (mu_i Q2 99 12), .inl (0 : Int32), .inr (.inr (some 151))], Q2)) (C := [mu_is Q2 (some 99) 13]) rfl (show mu_is Q2 (some 99) 13 from (u2.1.1.is rfl)) ?_
  rw [(show mu_i Q2 99 12 = (nI wn) from (ud_i (U := (upM (upI U 147 9 (nI ev)) 150 0 (fun i => (upI U 147 9 (nI ev)).2.2.2.2.1 153 (0 + i)) wn)) (m := m) (P := 99) (j := 12) d2 rfl).trans hg12)]
  refine mw_go mu_g320 (k := 1) (f1 := (38, [(0, .inr (.inr (some 147))), (1, .inl (nI ev))], [.inr (.inl (0 : Int64)), .inl (nI wn), .inl (0 : Int32), .inr (.inr (some 151))], Q2)) (C := []) rfl trivial ?_
  refine mw_cV (fun _ => rfl) trivial ((ar_fillL_ok (d := (d + 1)) (v := (0 : Int64)) (a := 0) (b := wn) ((u2.1.1.a (p := 151) (x := (102, 256)) rfl).1) (by omega) (by rw [show mu_n Q2 (mu_p (some 151)) = 256 from (u2.1.1.a (p := 151) (x := (102, 256)) rfl).2]; omega) (by rw [show mu_n Q2 (mu_p (some 151)) = 256 from (u2.1.1.a (p := 151) (x := (102, 256)) rfl).2]; decide)).imp (fun Hx qx => show um m Hx ∧ ur m C Q2 Hx ∧ ud m Hx = (upM (upM (upI U 147 9 (nI ev)) 150 0 (fun i => (upI U 147 9 (nI ev)).2.2.2.2.1 153 (0 + i)) wn) 151 0 (fun _ => (0 : Int64)) (wn - 0)) by rw [qx]; exact u2.fL (C := C) d2 rfl)) (fun Q3 q3 => ?_)
  obtain ⟨u3, r3, d3⟩ := q3
  have ht3 : ur m C H Q3 := ht2.trans r3
  have qf3 : uq F320 U (upM (upM (upI U 147 9 (nI ev)) 150 0 (fun i => (upI U 147 9 (nI ev)).2.2.2.2.1 153 (0 + i)) wn) 151 0 (fun _ => (0 : Int64)) (wn - 0)) := qf2.M rfl
  refine mw_go mu_g320 (k := 3) (f1 := (46, [(0, .inr (.inr (some 147))), (1, .inl (nI ev))], [], (mu_si Q3 147 22 (0 : Int32)))) (C := [mu_is Q3 (some 147) 2]) rfl (show mu_is Q3 (some 147) 2 from (u3.1.1.is rfl)) ?_
  obtain ⟨u4, r4, d4⟩ : um m (mu_si Q3 147 22 (0 : Int32)) ∧ ur m C Q3 (mu_si Q3 147 22 (0 : Int32)) ∧ ud m (mu_si Q3 147 22 (0 : Int32)) = (upI (upM (upM (upI U 147 9 (nI ev)) 150 0 (fun i => (upI U 147 9 (nI ev)).2.2.2.2.1 153 (0 + i)) wn) 151 0 (fun _ => (0 : Int64)) (wn - 0)) 147 22 (0 : Int32)) := u3.sI (C := C) d3 rfl
  generalize (mu_si Q3 147 22 (0 : Int32)) = Q4 at u4 r4 d4 ⊢
  have qf4 : uq F320 U (upI (upM (upM (upI U 147 9 (nI ev)) 150 0 (fun i => (upI U 147 9 (nI ev)).2.2.2.2.1 153 (0 + i)) wn) 151 0 (fun _ => (0 : Int64)) (wn - 0)) 147 22 (0 : Int32)) := qf3.I rfl
  have ht4 : ur m C H Q4 := ht3.trans r4
  refine mw_go mu_g320 (k := 3) (f1 := (51, [(0, .inr (.inr (some 147))), (1, .inl (nI ev))], [], (mu_si Q4 147 21 (0 : Int32)))) (C := [mu_is Q4 (some 147) 2]) rfl (show mu_is Q4 (some 147) 2 from (u4.1.1.is rfl)) ?_
  obtain ⟨u5, r5, d5⟩ : um m (mu_si Q4 147 21 (0 : Int32)) ∧ ur m C Q4 (mu_si Q4 147 21 (0 : Int32)) ∧ ud m (mu_si Q4 147 21 (0 : Int32)) = (upI (upI (upM (upM (upI U 147 9 (nI ev)) 150 0 (fun i => (upI U 147 9 (nI ev)).2.2.2.2.1 153 (0 + i)) wn) 151 0 (fun _ => (0 : Int64)) (wn - 0)) 147 22 (0 : Int32)) 147 21 (0 : Int32)) := u4.sI (C := C) d4 rfl
  generalize (mu_si Q4 147 21 (0 : Int32)) = Q5 at u5 r5 d5 ⊢
  have qf5 : uq F320 U (upI (upI (upM (upM (upI U 147 9 (nI ev)) 150 0 (fun i => (upI U 147 9 (nI ev)).2.2.2.2.1 153 (0 + i)) wn) 151 0 (fun _ => (0 : Int64)) (wn - 0)) 147 22 (0 : Int32)) 147 21 (0 : Int32)) := qf4.I rfl
  have ht5 : ur m C H Q5 := ht4.trans r5
  refine mw_go mu_g320 (k := 3) (f1 := (56, [(0, .inr (.inr (some 147))), (1, .inl (nI ev))], [], (mu_si Q5 147 20 (0 : Int32)))) (C := [mu_is Q5 (some 147) 2]) rfl (show mu_is Q5 (some 147) 2 from (u5.1.1.is rfl)) ?_
  obtain ⟨u6, r6, d6⟩ : um m (mu_si Q5 147 20 (0 : Int32)) ∧ ur m C Q5 (mu_si Q5 147 20 (0 : Int32)) ∧ ud m (mu_si Q5 147 20 (0 : Int32)) = (upI (upI (upI (upM (upM (upI U 147 9 (nI ev)) 150 0 (fun i => (upI U 147 9 (nI ev)).2.2.2.2.1 153 (0 + i)) wn) 151 0 (fun _ => (0 : Int64)) (wn - 0)) 147 22 (0 : Int32)) 147 21 (0 : Int32)) 147 20 (0 : Int32)) := u5.sI (C := C) d5 rfl
  generalize (mu_si Q5 147 20 (0 : Int32)) = Q6 at u6 r6 d6 ⊢
  have qf6 : uq F320 U (upI (upI (upI (upM (upM (upI U 147 9 (nI ev)) 150 0 (fun i => (upI U 147 9 (nI ev)).2.2.2.2.1 153 (0 + i)) wn) 151 0 (fun _ => (0 : Int64)) (wn - 0)) 147 22 (0 : Int32)) 147 21 (0 : Int32)) 147 20 (0 : Int32)) := qf5.I rfl
  have ht6 : ur m C H Q6 := ht5.trans r6
  refine mw_go mu_g320 (k := 3) (f1 := (61, [(0, .inr (.inr (some 147))), (1, .inl (nI ev))], [], (mu_si Q6 147 16 (0 : Int32)))) (C := [mu_is Q6 (some 147) 2]) rfl (show mu_is Q6 (some 147) 2 from (u6.1.1.is rfl)) ?_
  obtain ⟨u7, r7, d7⟩ : um m (mu_si Q6 147 16 (0 : Int32)) ∧ ur m C Q6 (mu_si Q6 147 16 (0 : Int32)) ∧ ud m (mu_si Q6 147 16 (0 : Int32)) = (upI (upI (upI (upI (upM (upM (upI U 147 9 (nI ev)) 150 0 (fun i => (upI U 147 9 (nI ev)).2.2.2.2.1 153 (0 + i)) wn) 151 0 (fun _ => (0 : Int64)) (wn - 0)) 147 22 (0 : Int32)) 147 21 (0 : Int32)) 147 20 (0 : Int32)) 147 16 (0 : Int32)) := u6.sI (C := C) d6 rfl
  generalize (mu_si Q6 147 16 (0 : Int32)) = Q7 at u7 r7 d7 ⊢
  have qf7 : uq F320 U (upI (upI (upI (upI (upM (upM (upI U 147 9 (nI ev)) 150 0 (fun i => (upI U 147 9 (nI ev)).2.2.2.2.1 153 (0 + i)) wn) 151 0 (fun _ => (0 : Int64)) (wn - 0)) 147 22 (0 : Int32)) 147 21 (0 : Int32)) 147 20 (0 : Int32)) 147 16 (0 : Int32)) := qf6.I rfl
  have ht7 : ur m C H Q7 := ht6.trans r7
  refine mw_go mu_g320 (k := 1) (f1 := (62, [(0, .inr (.inr (some 147))), (1, .inl (nI ev))], [.inr (.inr (some 147))], Q7)) (C := []) rfl trivial ?_
  have hqv : uq F320 U (upI (upI (upI (upI (upM (upM (upI U 147 9 (nI ev)) 150 0 (fun i => (upI U 147 9 (nI ev)).2.2.2.2.1 153 (0 + i)) wn) 151 0 (fun _ => (0 : Int64)) (wn - 0)) 147 22 (0 : Int32)) 147 21 (0 : Int32)) 147 20 (0 : Int32)) 147 16 (0 : Int32)) := (show uq F320 U (upI (upI (upI (upI (upM (upM (upI U 147 9 (nI ev)) 150 0 (fun i => (upI U 147 9 (nI ev)).2.2.2.2.1 153 (0 + i)) wn) 151 0 (fun _ => (0 : Int64)) (wn - 0)) 147 22 (0 : Int32)) 147 21 (0 : Int32)) 147 20 (0 : Int32)) 147 16 (0 : Int32)) from ((((((((uq.refl F320 U).I rfl).M rfl).M rfl).I rfl).I rfl).I rfl).I rfl))
  have hb50 : ∀ s, s < 64 * wn → bts ((upI (upI (upI (upI (upM (upM (upI U 147 9 (nI ev)) 150 0 (fun i => (upI U 147 9 (nI ev)).2.2.2.2.1 153 (0 + i)) wn) 151 0 (fun _ => (0 : Int64)) (wn - 0)) 147 22 (0 : Int32)) 147 21 (0 : Int32)) 147 20 (0 : Int32)) 147 16 (0 : Int32)).2.2.2.2.1 150) s = bts (U.2.2.2.2.1 153) s := fun s hs => by
    unfold bts
    show btz (if 150 = 151 ∧ 0 ≤ s / 64 ∧ s / 64 < 0 + (wn - 0) then (0 : Int64) else if 150 = 150 ∧ 0 ≤ s / 64 ∧ s / 64 < 0 + wn then U.2.2.2.2.1 153 (0 + (s / 64 - 0)) else U.2.2.2.2.1 150 (s / 64)) (s % 64) = _
    rw [if_neg (fun z => by omega), if_pos ⟨rfl, by omega, by omega⟩, Nat.sub_zero, Nat.zero_add]
  have hb51 : ∀ t, t < T → ¬ bts ((upI (upI (upI (upI (upM (upM (upI U 147 9 (nI ev)) 150 0 (fun i => (upI U 147 9 (nI ev)).2.2.2.2.1 153 (0 + i)) wn) 151 0 (fun _ => (0 : Int64)) (wn - 0)) 147 22 (0 : Int32)) 147 21 (0 : Int32)) 147 20 (0 : Int32)) 147 16 (0 : Int32)).2.2.2.2.1 151) t = true := fun t ht y => by
    unfold bts at y
    have y : btz (if 151 = 151 ∧ 0 ≤ t / 64 ∧ t / 64 < 0 + (wn - 0) then (0 : Int64) else _) (t % 64) = true := y
    rw [if_pos ⟨rfl, by omega, by omega⟩, btz_0] at y
    cases y
  refine mw_cV (fun _ => rfl) (show mu_is Q7 (some 147) 2 from (u7.1.1.is rfl)) (gr_enterNext (d := d) (C := C) (wn := wn) (c := 0) (T := T) (R := R) (rx := rx) u7 d7 ((show ((upI (upI (upI (upI (upM (upM (upI U 147 9 (nI ev)) 150 0 (fun i => (upI U 147 9 (nI ev)).2.2.2.2.1 153 (0 + i)) wn) 151 0 (fun _ => (0 : Int64)) (wn - 0)) 147 22 (0 : Int32)) 147 21 (0 : Int32)) 147 20 (0 : Int32)) 147 16 (0 : Int32)).2.1 99 12) = (U.2.1 99 12) from rfl).trans hg12) (by omega) rfl (Nat.zero_le _) (fun i hi => absurd hi (Nat.not_lt_zero i)) hTb (fun s hs y => hAT s hs (by rw [← hb50 s hs]; exact y)) (by rw [(show ((upI (upI (upI (upI (upM (upM (upI U 147 9 (nI ev)) 150 0 (fun i => (upI U 147 9 (nI ev)).2.2.2.2.1 153 (0 + i)) wn) 151 0 (fun _ => (0 : Int64)) (wn - 0)) 147 22 (0 : Int32)) 147 21 (0 : Int32)) 147 20 (0 : Int32)) 147 16 (0 : Int32)).2.2.1 129 6).1 = (U.2.2.1 129 6).1 from rfl)]; exact g6a) (by rw [(show ((upI (upI (upI (upI (upM (upM (upI U 147 9 (nI ev)) 150 0 (fun i => (upI U 147 9 (nI ev)).2.2.2.2.1 153 (0 + i)) wn) 151 0 (fun _ => (0 : Int64)) (wn - 0)) 147 22 (0 : Int32)) 147 21 (0 : Int32)) 147 20 (0 : Int32)) 147 16 (0 : Int32)).2.2.1 129 6).1 = (U.2.2.1 129 6).1 from rfl)]; exact g6b) (by rw [(show ((upI (upI (upI (upI (upM (upM (upI U 147 9 (nI ev)) 150 0 (fun i => (upI U 147 9 (nI ev)).2.2.2.2.1 153 (0 + i)) wn) 151 0 (fun _ => (0 : Int64)) (wn - 0)) 147 22 (0 : Int32)) 147 21 (0 : Int32)) 147 20 (0 : Int32)) 147 16 (0 : Int32)).2.2.1 129 6) = (U.2.2.1 129 6) from rfl)]; exact hrx)) (fun Q8 q8 => ?_)
  obtain ⟨u8, r8, z8, hj14, x0, hx16, hx1, hx2, hx0, hxa⟩ := q8
  have ht8 : ur m C H Q8 := ht7.trans r8
  obtain ⟨V8, d8⟩ : ∃ V, ud m Q8 = V := ⟨_, rfl⟩
  rw [d8] at z8 hj14 hx16 hxa
  replace hxa := HID.mk hxa
  have qe8 : uq F320 U V8 := hqv.tr z8 rfl
  have hS : SWS V8 T R wn rx mb me ga gi gq RB (fun t => t < T ∧ bts (U.2.2.2.2.1 153) t = true) (fun t => t < T ∧ bts (lgf U ga gi) t = true) ev nf FS 0 0 0 (fun _ => 0) (fun _ => 0) (fun _ => 0) (fun _ => 0) (fun _ => 0) (fun _ => 0) (fun _ => 0) (fun _ => False) (fun _ => False) (fun _ => 0) 0 R := SWS.init (hG.keep qe8 rfl (NK.of_eq (qe8.a 147 10 rfl))) (hgl.q qe8 (fun _ => rfl) (fun _ => rfl) rfl) ((qe8.r 147 8 rfl).trans hgo) (hF.eq (qe8.i 99 19 rfl) (qe8.a 113 3 rfl) (fun c => by rw [qe8.2.2.2.2.2 rfl])) ((z8.i 147 20 rfl).trans (rfl)) ((z8.i 147 21 rfl).trans (rfl)) ((z8.i 147 22 rfl).trans (rfl)) ((z8.i 147 9 rfl).trans (rfl)) hev (fun t ht => by rw [qe8.l 153 rfl]; exact ⟨fun y => ⟨ht, y⟩, fun y => y.2⟩) (fun t y => y.1) hRB (fun t => by rw [lsf_q hgl qe8 rfl rfl rfl]) (fun s hs => by rw [z8.l 150 rfl, hb50 s hs]; exact ⟨fun y => ⟨hAT s hs y, y⟩, fun y => y.2⟩) (fun t ht => by rw [z8.l 151 rfl]; exact hb51 t ht) (fun w s hs y => hgb w s hs (by rw [lsf_q hgl qe8 rfl rfl rfl] at y; exact y))
  refine mw_of (fun _ => mu_ret rfl trivial ⟨Q8, rfl, u8, ht8, (by rw [d8]; exact qe8), ?_⟩)
  rw [d8]
  refine Or.inl ⟨hj14, 0, 0, 0, _, _, _, _, _, _, _, _, _, _, _, R, hS, ⟨x0, hx16, hx2, by rw [z8.l 150 rfl]; exact hx0⟩, (show 8 * (R - 0) + 2 * 0 + 2 * 0 ≤ 8 * R by omega), ?_⟩
  rw [z8.l 150 rfl]
  rcases hxa.out with ⟨y1, y2⟩ | ⟨t0, y1, y2, y3, y4⟩
  · exact Or.inl ⟨y1, rfl, fun t y => emp52 hgwn y.1 (fun i hi => hx0 i (by omega)) y.2⟩
  · exact Or.inr ⟨t0, y1, y2, y4, fun j hj => absurd hj (by omega), fun t ht _ hx => absurd (hrx t ht).2 (by omega)⟩
def F311 : Uf := ⟨[], [(147, 9), (147, 14), (147, 15), (147, 16), (147, 20), (147, 21), (147, 22)], [], [(147, 8)], [148, 150, 151, 153], false⟩
/-- PathProver$Graph.findFair()V -/
abbrev mu_m311 : ev_M := (1, none, [], ev_b311)
theorem mu_g311 : mu_good mu_m311 := mu_goodk ev_k311
theorem gr_findFair (h : um m H) (e : ud m H = U) (hG : GRB U T R wn rx mb me) (hF : FST U nf T FS) (hET : ∀ s, s < 64 * wn → bts (U.2.2.2.2.1 124) s = true → s < T) (hRB : ∀ x t, RB x t → t < T) : mu_TV (mu_D (d + 5)) 311 [.inr (.inr (some 147))] H (fun H1 => um m H1 ∧ ur m C H H1 ∧ uq F311 U (ud m H1) ∧ SWJ (ud m H1) T R wn rx mb me 0 148 148 RB (fun t => t < T ∧ bts (U.2.2.2.2.1 124) t = true) (fun _ => False) 1 nf FS (8 * R)) := by
  obtain ⟨⟨⟨hg12, hg11⟩, hgwn, hTb⟩, ⟨⟨g6a, g6b⟩, hrx⟩, ⟨hRT, g10a, g10b⟩, ⟨g11a, g11b⟩, ⟨g12a, g12b⟩, ⟨g13a, g13b⟩, hmb, hme, hmp1, hmp2, hmp3, hmp4⟩ := id hG
  have hwnb : wn ≤ 256 := by omega
  refine mu_meth (M := mu_m311) rfl rfl ?_
  refine mw_ht (mu_fn_of (show [0].Nodup by decide)) ?_
  refine mw_go mu_g311 (k := 2) (f1 := (4, [(0, .inr (.inr (some 147)))], [.inr (.inr (mu_r H 147 0))], H)) (C := [mu_is H (some 147) 2]) rfl (show mu_is H (some 147) 2 from (h.1.1.is rfl)) ?_
  rw [(h.1.1.r (p := 147) (j := 0) (q := 99) rfl)]
  refine mw_go mu_g311 (k := 1) (f1 := (7, [(0, .inr (.inr (some 147)))], [.inr (.inr (mu_r H 99 14))], H)) (C := [mu_is H (some 99) 13]) rfl (show mu_is H (some 99) 13 from (h.1.1.is rfl)) ?_
  rw [(h.1.1.r (p := 99) (j := 14) (q := 124) rfl)]
  refine mw_go mu_g311 (k := 3) (f1 := (12, [(0, .inr (.inr (some 147)))], [.inr (.inr (mu_r H 147 7)), .inl (0 : Int32), .inr (.inr (some 124))], H)) (C := [mu_is H (some 147) 2]) rfl (show mu_is H (some 147) 2 from (h.1.1.is rfl)) ?_
  rw [(h.1.1.r (p := 147) (j := 7) (q := 153) rfl)]
  refine mw_go mu_g311 (k := 3) (f1 := (17, [(0, .inr (.inr (some 147)))], [.inr (.inr (mu_r H 147 0)), .inl (0 : Int32), .inr (.inr (some 153)), .inl (0 : Int32), .inr (.inr (some 124))], H)) (C := [mu_is H (some 147) 2]) rfl (show mu_is H (some 147) 2 from (h.1.1.is rfl)) ?_
  rw [(h.1.1.r (p := 147) (j := 0) (q := 99) rfl)]
  refine mw_go mu_g311 (k := 1) (f1 := (20, [(0, .inr (.inr (some 147)))], [.inl (mu_i H 99 12), .inl (0 : Int32), .inr (.inr (some 153)), .inl (0 : Int32), .inr (.inr (some 124))], H)) (C := [mu_is H (some 99) 13]) rfl (show mu_is H (some 99) 13 from (h.1.1.is rfl)) ?_
  rw [(show mu_i H 99 12 = (nI wn) from (ud_i (U := U) (m := m) (P := 99) (j := 12) e rfl).trans hg12)]
  refine mw_copyL rfl (show mu_is H (some 124) 102 from (h.1.1.a (p := 124) (x := (102, 256)) rfl).1) (show mu_is H (some 153) 102 from (h.1.1.a (p := 153) (x := (102, 256)) rfl).1) (by decide) (by decide) (nI_pos (by omega)) (by rw [show mu_n H (mu_p (some 124)) = 256 from (h.1.1.a (p := 124) (x := (102, 256)) rfl).2, (show (0 : Int32).toNatClampNeg = 0 from by decide), (show (nI wn).toNatClampNeg = wn from nI_clamp (by omega))]; omega) (by rw [show mu_n H (mu_p (some 153)) = 256 from (h.1.1.a (p := 153) (x := (102, 256)) rfl).2, (show (0 : Int32).toNatClampNeg = 0 from by decide), (show (nI wn).toNatClampNeg = wn from nI_clamp (by omega))]; omega) (by decide) ?_
  rw [(show (0 : Int32).toNatClampNeg = 0 from by decide), (show (nI wn).toNatClampNeg = wn from nI_clamp (by omega))]
  show mu_W _ _ (23, [(0, .inr (.inr (some 147)))], [], (mu_cpl H 124 0 153 0 wn)) _
  obtain ⟨u1, r1, d1⟩ : um m (mu_cpl H 124 0 153 0 wn) ∧ ur m C H (mu_cpl H 124 0 153 0 wn) ∧ ud m (mu_cpl H 124 0 153 0 wn) = (upM U 153 0 (fun i => U.2.2.2.2.1 124 (0 + i)) wn) := h.cL (C := C) e rfl rfl
  generalize (mu_cpl H 124 0 153 0 wn) = Q1 at u1 r1 d1 ⊢
  have qf1 : uq F311 U (upM U 153 0 (fun i => U.2.2.2.2.1 124 (0 + i)) wn) := (uq.refl F311 U).M rfl
  have ht1 : ur m C H Q1 := (ur.refl m C H).trans r1
  refine mw_go mu_g311 (k := 2) (f1 := (27, [(0, .inr (.inr (some 147)))], [.inr (.inr (mu_r Q1 147 2))], Q1)) (C := [mu_is Q1 (some 147) 2]) rfl (show mu_is Q1 (some 147) 2 from (u1.1.1.is rfl)) ?_
  rw [(u1.1.1.r (p := 147) (j := 2) (q := 148) rfl)]
  refine mw_go mu_g311 (k := 3) (f1 := (32, [(0, .inr (.inr (some 147)))], [.inr (.inr (mu_r Q1 147 0)), .inl (0 : Int32), .inr (.inr (some 148))], Q1)) (C := [mu_is Q1 (some 147) 2]) rfl (show mu_is Q1 (some 147) 2 from (u1.1.1.is rfl)) ?_
  rw [(u1.1.1.r (p := 147) (j := 0) (q := 99) rfl)]
  refine mw_go mu_g311 (k := 1) (f1 := (35, [(0, .inr (.inr (some 147)))], [.inl (mu_i Q1 99 12), .inl (0 : Int32), .inr (.inr (some 148))], Q1)) (C := [mu_is Q1 (some 99) 13]) rfl (show mu_is Q1 (some 99) 13 from (u1.1.1.is rfl)) ?_
  rw [(show mu_i Q1 99 12 = (nI wn) from (ud_i (U := (upM U 153 0 (fun i => U.2.2.2.2.1 124 (0 + i)) wn)) (m := m) (P := 99) (j := 12) d1 rfl).trans hg12)]
  refine mw_go mu_g311 (k := 1) (f1 := (36, [(0, .inr (.inr (some 147)))], [.inr (.inl (0 : Int64)), .inl (nI wn), .inl (0 : Int32), .inr (.inr (some 148))], Q1)) (C := []) rfl trivial ?_
  refine mw_cV (fun _ => rfl) trivial ((ar_fillL_ok (d := (d + 2)) (v := (0 : Int64)) (a := 0) (b := wn) ((u1.1.1.a (p := 148) (x := (102, 256)) rfl).1) (by omega) (by rw [show mu_n Q1 (mu_p (some 148)) = 256 from (u1.1.1.a (p := 148) (x := (102, 256)) rfl).2]; omega) (by rw [show mu_n Q1 (mu_p (some 148)) = 256 from (u1.1.1.a (p := 148) (x := (102, 256)) rfl).2]; decide)).imp (fun Hx qx => show um m Hx ∧ ur m C Q1 Hx ∧ ud m Hx = (upM (upM U 153 0 (fun i => U.2.2.2.2.1 124 (0 + i)) wn) 148 0 (fun _ => (0 : Int64)) (wn - 0)) by rw [qx]; exact u1.fL (C := C) d1 rfl)) (fun Q2 q2 => ?_)
  obtain ⟨u2, r2, d2⟩ := q2
  have ht2 : ur m C H Q2 := ht1.trans r2
  have qf2 : uq F311 U (upM (upM U 153 0 (fun i => U.2.2.2.2.1 124 (0 + i)) wn) 148 0 (fun _ => (0 : Int64)) (wn - 0)) := qf1.M rfl
  refine mw_go mu_g311 (k := 3) (f1 := (44, [(0, .inr (.inr (some 147)))], [.inr (.inr (mu_r Q2 147 2)), .inr (.inr (some 147))], Q2)) (C := [mu_is Q2 (some 147) 2]) rfl (show mu_is Q2 (some 147) 2 from (u2.1.1.is rfl)) ?_
  rw [(u2.1.1.r (p := 147) (j := 2) (q := 148) rfl)]
  refine mw_go mu_g311 (k := 1) (f1 := (47, [(0, .inr (.inr (some 147)))], [], (mu_sr Q2 147 8 (some 148)))) (C := [mu_is Q2 (some 147) 2]) rfl (show mu_is Q2 (some 147) 2 from (u2.1.1.is rfl)) ?_
  obtain ⟨u3, r3, d3⟩ : um m (mu_sr Q2 147 8 (some 148)) ∧ ur m C Q2 (mu_sr Q2 147 8 (some 148)) ∧ ud m (mu_sr Q2 147 8 (some 148)) = (upR (upM (upM U 153 0 (fun i => U.2.2.2.2.1 124 (0 + i)) wn) 148 0 (fun _ => (0 : Int64)) (wn - 0)) 147 8 (some 148)) := (by have z := u2.putR (C := C) (P := 147) (k := 8) (v := (some 148)) rfl rfl rfl (by decide) (fun q hq => by cases hq; exact Or.inl (by decide)); rw [d2] at z; exact z)
  generalize (mu_sr Q2 147 8 (some 148)) = Q3 at u3 r3 d3 ⊢
  have qf3 : uq F311 U (upR (upM (upM U 153 0 (fun i => U.2.2.2.2.1 124 (0 + i)) wn) 148 0 (fun _ => (0 : Int64)) (wn - 0)) 147 8 (some 148)) := qf2.R rfl
  have ht3 : ur m C H Q3 := ht2.trans r3
  refine mw_go mu_g311 (k := 2) (f1 := (49, [(0, .inr (.inr (some 147)))], [.inl (1 : Int32), .inr (.inr (some 147))], Q3)) (C := []) rfl trivial ?_
  have hqv : uq F311 U (upR (upM (upM U 153 0 (fun i => U.2.2.2.2.1 124 (0 + i)) wn) 148 0 (fun _ => (0 : Int64)) (wn - 0)) 147 8 (some 148)) := (show uq F311 U (upR (upM (upM U 153 0 (fun i => U.2.2.2.2.1 124 (0 + i)) wn) 148 0 (fun _ => (0 : Int64)) (wn - 0)) 147 8 (some 148)) from ((((uq.refl F311 U).M rfl).M rfl).R rfl))
  have hb53 : ∀ s, s < 64 * wn → bts ((upR (upM (upM U 153 0 (fun i => U.2.2.2.2.1 124 (0 + i)) wn) 148 0 (fun _ => (0 : Int64)) (wn - 0)) 147 8 (some 148)).2.2.2.2.1 153) s = bts (U.2.2.2.2.1 124) s := fun s hs => by
    unfold bts
    show btz (if 153 = 148 ∧ 0 ≤ s / 64 ∧ s / 64 < 0 + (wn - 0) then (0 : Int64) else if 153 = 153 ∧ 0 ≤ s / 64 ∧ s / 64 < 0 + wn then U.2.2.2.2.1 124 (0 + (s / 64 - 0)) else U.2.2.2.2.1 153 (s / 64)) (s % 64) = _
    rw [if_neg (fun z => by omega), if_pos ⟨rfl, by omega, by omega⟩, Nat.sub_zero, Nat.zero_add]
  have hb48 : ∀ t, t < 64 * wn → ¬ bts (lgf (upR (upM (upM U 153 0 (fun i => U.2.2.2.2.1 124 (0 + i)) wn) 148 0 (fun _ => (0 : Int64)) (wn - 0)) 147 8 (some 148)) 0 148) t = true := fun t ht y => by
    have y : btz (if 148 = 148 ∧ 0 ≤ t / 64 ∧ t / 64 < 0 + (wn - 0) then (0 : Int64) else _) (t % 64) = true := y
    rw [if_pos ⟨rfl, by omega, by omega⟩, btz_0] at y
    cases y
  refine mw_cV (fun _ => rfl) (show mu_is Q3 (some 147) 2 from (u3.1.1.is rfl)) (gr_sweep (d := d) (C := C) (T := T) (R := R) (wn := wn) (rx := rx) (mb := mb) (me := me) (ga := 0) (gi := 148) (gq := 148) (RB := RB) (ev := 1) (nf := nf) (FS := FS) u3 d3 (hG.keep hqv rfl (NK.of_eq (hqv.a 147 10 rfl))) (Or.inl ⟨rfl, rfl, Or.inl rfl, rfl⟩) rfl (hF.eq (hqv.i 99 19 rfl) (hqv.a 113 3 rfl) (fun c => by rw [hqv.2.2.2.2.2 rfl])) (fun s hs y => hET s hs (by rw [← hb53 s hs]; exact y)) hRB (Nat.le_refl 1) (fun _ s hs y => absurd y (hb48 s hs))) (fun Q4 q4 => ?_)
  obtain ⟨u4, r4, z4, hJ⟩ := q4
  have ht4 : ur m C H Q4 := ht3.trans r4
  have hJ2 : SWJ (ud m Q4) T R wn rx mb me 0 148 148 RB (fun t => t < T ∧ bts (U.2.2.2.2.1 124) t = true) (fun _ => False) 1 nf FS (8 * R) := by
    have e1 : (fun t => t < T ∧ bts ((upR (upM (upM U 153 0 (fun i => U.2.2.2.2.1 124 (0 + i)) wn) 148 0 (fun _ => (0 : Int64)) (wn - 0)) 147 8 (some 148)).2.2.2.2.1 153) t = true) = (fun t => t < T ∧ bts (U.2.2.2.2.1 124) t = true) := funext fun t => propext (and_congr_right (fun ht => by rw [hb53 t (by omega)]))
    have e2 : (fun t => t < T ∧ bts (lgf (upR (upM (upM U 153 0 (fun i => U.2.2.2.2.1 124 (0 + i)) wn) 148 0 (fun _ => (0 : Int64)) (wn - 0)) 147 8 (some 148)) 0 148) t = true) = (fun _ => False) := funext fun t => propext ⟨fun y => hb48 t (by have := y.1; omega) y.2, fun y => y.elim⟩
    rw [e1, e2] at hJ
    exact hJ
  exact mw_of (fun _ => mu_ret rfl trivial ⟨Q4, rfl, u4, ht4, hqv.tr z4 rfl, hJ2⟩)
/-- at the end of a sweep the goal is what leads there -/
theorem SWJ.fin {ph : Nat} (h : SWJ V T R wn rx mb me ga gi gq RB A g0 ev nf FS ph) (hw : V.2.1 147 15 = -1) (hRb : R ≤ 20000) : LSN V ga gi gq 256 ∧ ∀ t, t < T → (bts (lgf V ga gi) t = true ↔ g0 t ∨ (A t ∧ GDR RB A rx g0 (¬ ev = 0) nf (fun f t => FS f t = true) (rx t))) := by
  have hno : ∀ r, r < R → ¬ V.2.1 147 15 = nI r := fun r hr z => by
    have z2 := nI_pos (n := r) (by omega)
    rw [← z, hw] at z2
    exact z2 (by decide)
  rcases h with ⟨h1, en, ps, ls, pa, pl, pp, ix, lw, cu, ld, St, Gd, rk, nr, xr, h2, h3, h4, h5⟩ | ⟨h1, en, p, ls, pa, pl, pp, ix, lw, cu, ld, St, Gd, rk, nr, h2, h3, h4, h5, h6⟩ | ⟨en, p, ls, pa, pl, pp, ix, lw, cu, ld, St, Gd, rk, nr, h1, h2, h3, h4, hd, c, tl, qu, h5, ⟨h6a, h6b, h6c⟩, -⟩
  · rcases h5 with ⟨-, y2, y3⟩ | ⟨t0, y1, y2, y3, -⟩
    · subst y2
      refine ⟨h2.1.2.1, fun t ht => ?_⟩
      have := h2.2.2.2.2.fin y3 t
      exact ⟨fun z => this.mp ⟨ht, z⟩, fun z => (this.mpr z).2⟩
    · exact absurd y3 (hno _ (h2.1.1.2.1.2 t0 y1).2)
  · exact absurd h5 (hno _ h2.top.1.2.2.1)
  · exact absurd h5 (hno _ (h1.pile.2.1 hd h6b).2)
/-- the FAIR STATES are STATES -/
theorem SWJ.fin2 {ph : Nat} (h : SWJ V T R wn rx mb me 0 148 gq RB A g0 ev nf FS ph) : ∀ s, s < 64 * wn → bts (V.2.2.2.2.1 148) s = true → s < T := by
  have e : lgf V 0 148 = V.2.2.2.2.1 148 := funext fun k => if_pos rfl
  have key : ∀ {en ps ls : Nat} {pa pl pp ix lw cu ld : Nat → Nat} {St Gd : Nat → Prop} {rk : Nat → Nat} {nr xr : Nat}, SWS V T R wn rx mb me 0 148 gq RB A g0 ev nf FS en ps ls pa pl pp ix lw cu ld St Gd rk nr xr → ∀ s, s < 64 * wn → bts (V.2.2.2.2.1 148) s = true → s < T := fun hS s hs y => hS.2.2.1.2.2.2.2 s hs (Or.inr ⟨rfl, rfl, by rw [e]; exact y⟩)
  rcases h with ⟨h1, en, ps, ls, pa, pl, pp, ix, lw, cu, ld, St, Gd, rk, nr, xr, h2, h3⟩ | ⟨h1, en, p, ls, pa, pl, pp, ix, lw, cu, ld, St, Gd, rk, nr, h2, h3⟩ | ⟨en, p, ls, pa, pl, pp, ix, lw, cu, ld, St, Gd, rk, nr, h1, h3⟩
  · exact key h2
  · exact key h2
  · exact key h1
end SweepBegin
