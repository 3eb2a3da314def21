/-! GRAPH: the visits that are no sweep's -/
section VisitRest
variable {H : mu_H} {U V : Ud} {m d wn T R N fb tl hh st ga gi gq bf bt r : Nat} {C : Nat → Nat} {rx mb me qu pp dp : Nat → Nat} {G RB : Nat → Nat → Prop} {Th To E ini B : Nat → Prop}
theorem gr_visitG (h : um m H) (e : ud m H = U) (hG : GRB U T R wn rx mb me) (hQ : LPQ U G Th To st rx qu pp dp T R wn ga gi gq tl hh) (hwa : U.2.1 147 15 = nI r) (hr : r < R) (hrow : ROW U RB r bf bt) (hGR : ∀ s t, s < T → (G s t ↔ RB (rx s) t)) (hGT : ∀ s t, G s t → t < T) (hRT2 : ∀ x t, RB x t → t < T) : mu_TV (mu_D (d + 8)) 310 [.inr (.inr (some 147))] H (fun H1 => um m H1 ∧ ur m C H H1 ∧ uq F323g U (ud m H1) ∧ NK U (ud m H1) ∧ LPE (ud m H1) G Th To st rx T R wn ga gi gq hh) := by
  have hjob : U.2.1 147 14 = 0 := hQ.1.2.1
  refine mu_meth (M := mu_m310) rfl rfl ?_
  refine mw_ht (mu_fn_of (show [0].Nodup by decide)) ?_
  refine mw_go mu_g310 (k := 2) (f1 := (4, [(0, .inr (.inr (some 147)))], [.inl (mu_i H 147 14)], H)) (C := [mu_is H (some 147) 2]) rfl (show mu_is H (some 147) 2 from (h.1.1.is rfl)) ?_
  rw [(show mu_i H 147 14 = (0 : Int32) from (ud_i (U := U) (m := m) (P := 147) (j := 14) e rfl).trans hjob)]
  refine mw_tsw2 rfl (by decide) (fun hx => absurd hx (by decide)) ⟨fun _ => ?_, (fun z => absurd z (by decide)), (fun z => absurd z (by decide)), (fun z => absurd z (by decide)), (fun z => absurd z (by decide)), trivial⟩
  refine mw_go mu_g310 (k := 1) (f1 := (41, [(0, .inr (.inr (some 147)))], [.inr (.inr (some 147))], H)) (C := []) rfl trivial ?_
  refine mw_cV (fun _ => rfl) (show mu_is H (some 147) 2 from (h.1.1.is rfl)) (gr_openG (d := d + 3) (C := C) h e hG hQ hwa hr hrow hGR hGT hRT2) (fun Q1 q1 => ?_)
  obtain ⟨u1, r1, z1, hnk, hj, hE⟩ := q1
  have ht1 : ur m C H Q1 := (ur.refl m C H).trans r1
  refine mw_go mu_g310 (k := 3) (f1 := (100, [(0, .inr (.inr (some 147)))], [.inl (mu_i Q1 147 14)], Q1)) (C := [mu_is Q1 (some 147) 2]) rfl (show mu_is Q1 (some 147) 2 from (u1.1.1.is rfl)) ?_
  rw [(show mu_i Q1 147 14 = (0 : Int32) from (ud_i (U := (ud m Q1)) (m := m) (P := 147) (j := 14) rfl rfl).trans hj)]
  refine mw_go mu_g310 (k := 1) (f1 := (101, [(0, .inr (.inr (some 147)))], [.inl (5 : Int32), .inl (0 : Int32)], Q1)) (C := []) rfl trivial ?_
  refine mw_if (P := (0 : Int32) = (5 : Int32)) (a := 104) (b := 108) (fun _ => rfl) trivial (fun h2 => absurd h2 (by decide)) (fun h2 => ?_)
  exact mw_of (fun _ => mu_ret rfl trivial ⟨Q1, rfl, u1, ht1, z1, hnk, hE⟩)
theorem gr_visitO (h : um m H) (e : ud m H = U) (hG : GRB U T R wn rx mb me) (hQ : BFQ U E ini G rx qu T R wn tl hh) (hjob : U.2.1 147 14 = 0) (hgo : U.2.2.2.1 147 8 = none) (h149 : ∀ s, s < T → bts (U.2.2.2.2.1 149) s = true → ∃ i, i < tl ∧ qu i = s) (hwa : U.2.1 147 15 = nI r) (hr : r < R) (hrow : ROW U RB r bf bt) (hGR : ∀ s t, s < T → (G s t ↔ RB (rx s) t)) (hGE : ∀ s t, G s t → E t) (hET : ∀ s, E s → s < T) (hRT2 : ∀ x t, RB x t → t < T) : mu_TV (mu_D (d + 8)) 310 [.inr (.inr (some 147))] H (fun H1 => um m H1 ∧ ur m C H H1 ∧ uq F323 U (ud m H1) ∧ NK U (ud m H1) ∧ BFJ (ud m H1) E ini G rx T R wn hh) := by
  refine mu_meth (M := mu_m310) rfl rfl ?_
  refine mw_ht (mu_fn_of (show [0].Nodup by decide)) ?_
  refine mw_go mu_g310 (k := 2) (f1 := (4, [(0, .inr (.inr (some 147)))], [.inl (mu_i H 147 14)], H)) (C := [mu_is H (some 147) 2]) rfl (show mu_is H (some 147) 2 from (h.1.1.is rfl)) ?_
  rw [(show mu_i H 147 14 = (0 : Int32) from (ud_i (U := U) (m := m) (P := 147) (j := 14) e rfl).trans hjob)]
  refine mw_tsw2 rfl (by decide) (fun hx => absurd hx (by decide)) ⟨fun _ => ?_, (fun z => absurd z (by decide)), (fun z => absurd z (by decide)), (fun z => absurd z (by decide)), (fun z => absurd z (by decide)), trivial⟩
  refine mw_go mu_g310 (k := 1) (f1 := (41, [(0, .inr (.inr (some 147)))], [.inr (.inr (some 147))], H)) (C := []) rfl trivial ?_
  refine mw_cV (fun _ => rfl) (show mu_is H (some 147) 2 from (h.1.1.is rfl)) (gr_openO (d := d + 3) (C := C) h e hG hQ hjob hgo h149 hwa hr hrow hGR hGE hET hRT2) (fun Q1 q1 => ?_)
  obtain ⟨u1, r1, z1, hnk, hj, hE⟩ := q1
  have ht1 : ur m C H Q1 := (ur.refl m C H).trans r1
  refine mw_go mu_g310 (k := 3) (f1 := (100, [(0, .inr (.inr (some 147)))], [.inl (mu_i Q1 147 14)], Q1)) (C := [mu_is Q1 (some 147) 2]) rfl (show mu_is Q1 (some 147) 2 from (u1.1.1.is rfl)) ?_
  rw [(show mu_i Q1 147 14 = (0 : Int32) from (ud_i (U := (ud m Q1)) (m := m) (P := 147) (j := 14) rfl rfl).trans hj)]
  refine mw_go mu_g310 (k := 1) (f1 := (101, [(0, .inr (.inr (some 147)))], [.inl (5 : Int32), .inl (0 : Int32)], Q1)) (C := []) rfl trivial ?_
  refine mw_if (P := (0 : Int32) = (5 : Int32)) (a := 104) (b := 108) (fun _ => rfl) trivial (fun h2 => absurd h2 (by decide)) (fun h2 => ?_)
  exact mw_of (fun _ => mu_ret rfl trivial ⟨Q1, rfl, u1, ht1, z1, hnk, hE⟩)
theorem gr_visitN (h : um m H) (e : ud m H = U) (hG : GRB U T R wn rx mb me) (hN : U.2.1 113 2 = nI N) (hfb : U.2.1 113 8 = nI fb) (hfN : fb ≤ N) (hR : R = N - fb) (hgl : LSN U ga gi gq 256) (hgo : U.2.2.2.1 147 8 = some gq) (hjob : U.2.1 147 14 = 1) (hwa : U.2.1 147 15 = nI r) (hr : r < R) (hB : ∀ t, t < T → (bts (U.2.2.2.2.1 153) t = true ↔ B t)) (hRB : ∀ x t, RB x t → t < T) (hrow : ROW U RB r bf bt) (hM : NRM U RB B r) : mu_TV (mu_D (d + 8)) 310 [.inr (.inr (some 147))] H (fun H1 => um m H1 ∧ ur m C H H1 ∧ uq F324 U (ud m H1) ∧ ((r + 1 < R ∧ (ud m H1).2.1 147 15 = nI (r + 1) ∧ NRM (ud m H1) RB B (r + 1) ∧ NK U (ud m H1) ∧ GKP ga gi U (ud m H1)) ∨ (r + 1 = R ∧ (ud m H1).2.1 147 15 = -1 ∧ GKP ga gi U (ud m H1) ∧ LSN (ud m H1) ga gi gq 256 ∧ NK U (ud m H1) ∧ ∀ t, t < 64 * wn → (bts (lgf (ud m H1) ga gi) t = true ↔ t < T ∧ ∃ u, RB (rx t) u ∧ B u)))) := by
  refine mu_meth (M := mu_m310) rfl rfl ?_
  refine mw_ht (mu_fn_of (show [0].Nodup by decide)) ?_
  refine mw_go mu_g310 (k := 2) (f1 := (4, [(0, .inr (.inr (some 147)))], [.inl (mu_i H 147 14)], H)) (C := [mu_is H (some 147) 2]) rfl (show mu_is H (some 147) 2 from (h.1.1.is rfl)) ?_
  rw [(show mu_i H 147 14 = (1 : Int32) from (ud_i (U := U) (m := m) (P := 147) (j := 14) e rfl).trans hjob)]
  refine mw_tsw2 rfl (by decide) (fun hx => absurd hx (by decide)) ⟨(fun z => absurd z (by decide)), fun _ => ?_, (fun z => absurd z (by decide)), (fun z => absurd z (by decide)), (fun z => absurd z (by decide)), trivial⟩
  refine mw_go mu_g310 (k := 1) (f1 := (48, [(0, .inr (.inr (some 147)))], [.inr (.inr (some 147))], H)) (C := []) rfl trivial ?_
  refine mw_cV (fun _ => rfl) (show mu_is H (some 147) 2 from (h.1.1.is rfl)) (gr_near (d := d + 4) (C := C) h e hG hN hfb hfN hR hgl hgo hwa hr hB hRB hrow hM) (fun Q1 q1 => ?_)
  obtain ⟨u1, r1, z1, hE⟩ := q1
  have ht1 : ur m C H Q1 := (ur.refl m C H).trans r1
  refine mw_go mu_g310 (k := 3) (f1 := (100, [(0, .inr (.inr (some 147)))], [.inl (mu_i Q1 147 14)], Q1)) (C := [mu_is Q1 (some 147) 2]) rfl (show mu_is Q1 (some 147) 2 from (u1.1.1.is rfl)) ?_
  rw [(show mu_i Q1 147 14 = (1 : Int32) from (ud_i (U := (ud m Q1)) (m := m) (P := 147) (j := 14) rfl rfl).trans ((z1.i 147 14 rfl).trans hjob))]
  refine mw_go mu_g310 (k := 1) (f1 := (101, [(0, .inr (.inr (some 147)))], [.inl (5 : Int32), .inl (1 : Int32)], Q1)) (C := []) rfl trivial ?_
  refine mw_if (P := (1 : Int32) = (5 : Int32)) (a := 104) (b := 108) (fun _ => rfl) trivial (fun h2 => absurd h2 (by decide)) (fun h2 => ?_)
  exact mw_of (fun _ => mu_ret rfl trivial ⟨Q1, rfl, u1, ht1, z1, hE⟩)
theorem gr_visitF (h : um m H) (e : ud m H = U) (hjob : U.2.1 147 14 = 6) : mu_TV (mu_D (d + 8)) 310 [.inr (.inr (some 147))] H (fun H1 => um m H1 ∧ ur m C H H1 ∧ ud m H1 = upI U 147 15 (-1)) := by
  refine mu_meth (M := mu_m310) rfl rfl ?_
  refine mw_ht (mu_fn_of (show [0].Nodup by decide)) ?_
  refine mw_go mu_g310 (k := 2) (f1 := (4, [(0, .inr (.inr (some 147)))], [.inl (mu_i H 147 14)], H)) (C := [mu_is H (some 147) 2]) rfl (show mu_is H (some 147) 2 from (h.1.1.is rfl)) ?_
  rw [(show mu_i H 147 14 = (6 : Int32) from (ud_i (U := U) (m := m) (P := 147) (j := 14) e rfl).trans hjob)]
  refine mw_tsw2 rfl (by decide) (fun _ => ?_) ⟨(fun z => absurd z (by decide)), (fun z => absurd z (by decide)), (fun z => absurd z (by decide)), (fun z => absurd z (by decide)), (fun z => absurd z (by decide)), trivial⟩
  refine mw_go mu_g310 (k := 3) (f1 := (96, [(0, .inr (.inr (some 147)))], [], (mu_si H 147 15 (-1 : Int32)))) (C := [mu_is H (some 147) 2]) rfl (show mu_is H (some 147) 2 from (h.1.1.is rfl)) ?_
  obtain ⟨u1, r1, d1⟩ : um m (mu_si H 147 15 (-1 : Int32)) ∧ ur m C H (mu_si H 147 15 (-1 : Int32)) ∧ ud m (mu_si H 147 15 (-1 : Int32)) = (upI U 147 15 (-1 : Int32)) := h.sI (C := C) e rfl
  generalize (mu_si H 147 15 (-1 : Int32)) = Q1 at u1 r1 d1 ⊢
  have ht1 : ur m C H Q1 := (ur.refl m C H).trans r1
  refine mw_go mu_g310 (k := 2) (f1 := (100, [(0, .inr (.inr (some 147)))], [.inl (mu_i Q1 147 14)], Q1)) (C := [mu_is Q1 (some 147) 2]) rfl (show mu_is Q1 (some 147) 2 from (u1.1.1.is rfl)) ?_
  rw [(show mu_i Q1 147 14 = (6 : Int32) from (ud_i (U := (upI U 147 15 (-1 : Int32))) (m := m) (P := 147) (j := 14) d1 rfl).trans hjob)]
  refine mw_go mu_g310 (k := 1) (f1 := (101, [(0, .inr (.inr (some 147)))], [.inl (5 : Int32), .inl (6 : Int32)], Q1)) (C := []) rfl trivial ?_
  refine mw_if (P := (6 : Int32) = (5 : Int32)) (a := 104) (b := 108) (fun _ => rfl) trivial (fun h2 => absurd h2 (by decide)) (fun h2 => ?_)
  exact mw_of (fun _ => mu_ret rfl trivial ⟨Q1, rfl, u1, ht1, d1⟩)
end VisitRest
