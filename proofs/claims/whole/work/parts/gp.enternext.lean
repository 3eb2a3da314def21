/-! GRAPH: enterNext -/
section EnterNext
variable {H : mu_H} {U V : Ud} {m d wn c T R : Nat} {C : Nat → Nat} {rx : Nat → Nat}
def F321 : Uf := ⟨[], [(147, 14), (147, 15), (147, 16)], [], [], [], false⟩

/-- PathProver$Graph.enterNext()V -/
abbrev mu_m321 : ev_M := (1, none, [], ev_b321)
theorem mu_g321 : mu_good mu_m321 := mu_goodk ev_k321
theorem gr_enterNext (h : um m H) (e : ud m H = U) (hw : U.2.1 99 12 = nI wn) (hwb : wn ≤ 256) (hcur : U.2.1 147 16 = nI c) (hc : c ≤ wn) (hz : ∀ i, i < c → U.2.2.2.2.1 150 i = 0) (hTb : T ≤ 16384) (hT150 : ∀ s, s < 64 * wn → bts (U.2.2.2.2.1 150) s = true → s < T) (h6 : T ≤ (U.2.2.1 129 6).1) (h6b : (U.2.2.1 129 6).1 ≤ 16777216) (hrx : ∀ s, s < T → (U.2.2.1 129 6).2 s = nI (rx s) ∧ rx s < R) : mu_TV (mu_D (d + 3)) 321 [.inr (.inr (some 147))] H (fun H1 => um m H1 ∧ ur m C H H1 ∧ uq F321 U (ud m H1) ∧ (ud m H1).2.1 147 14 = 2 ∧ ∃ x, (ud m H1).2.1 147 16 = nI x ∧ c ≤ x ∧ x ≤ wn ∧ (∀ i, i < x → U.2.2.2.2.1 150 i = 0) ∧ (((ud m H1).2.1 147 15 = -1 ∧ x = wn) ∨ ∃ t, t < T ∧ bts (U.2.2.2.2.1 150) t = true ∧ (∀ i, i < t → ¬ bts (U.2.2.2.2.1 150) i = true) ∧ (ud m H1).2.1 147 15 = nI (rx t))) := by
  refine mu_meth (M := mu_m321) rfl rfl ?_
  refine mw_ht (mu_fn_of (show [0].Nodup by decide)) ?_
  refine mw_go mu_g321 (k := 3) (f1 := (5, [(0, .inr (.inr (some 147)))], [], (mu_si H 147 14 (2 : Int32)))) (C := [mu_is H (some 147) 2]) rfl (show mu_is H (some 147) 2 from (h.1.1.is rfl)) ?_
  obtain ⟨u1, r1, d1⟩ : um m (mu_si H 147 14 (2 : Int32)) ∧ ur m C H (mu_si H 147 14 (2 : Int32)) ∧ ud m (mu_si H 147 14 (2 : Int32)) = (upI U 147 14 (2 : Int32)) := h.sI (C := C) e rfl
  generalize (mu_si H 147 14 (2 : Int32)) = Q1 at u1 r1 d1 ⊢
  have qf1 : uq F321 U (upI U 147 14 (2 : Int32)) := (uq.refl F321 U).I rfl
  have ht1 : ur m C H Q1 := (ur.refl m C H).trans r1
  refine mw_go mu_g321 (k := 3) (f1 := (10, [(0, .inr (.inr (some 147)))], [], (mu_si Q1 147 15 (-1 : Int32)))) (C := [mu_is Q1 (some 147) 2]) rfl (show mu_is Q1 (some 147) 2 from (u1.1.1.is rfl)) ?_
  obtain ⟨u2, r2, d2⟩ : um m (mu_si Q1 147 15 (-1 : Int32)) ∧ ur m C Q1 (mu_si Q1 147 15 (-1 : Int32)) ∧ ud m (mu_si Q1 147 15 (-1 : Int32)) = (upI (upI U 147 14 (2 : Int32)) 147 15 (-1 : Int32)) := u1.sI (C := C) d1 rfl
  generalize (mu_si Q1 147 15 (-1 : Int32)) = Q2 at u2 r2 d2 ⊢
  have qf2 : uq F321 U (upI (upI U 147 14 (2 : Int32)) 147 15 (-1 : Int32)) := qf1.I rfl
  have ht2 : ur m C H Q2 := ht1.trans r2
  refine mw_go mu_g321 (k := 3) (f1 := (15, [(0, .inr (.inr (some 147)))], [.inr (.inr (mu_r Q2 147 4)), .inr (.inr (some 147))], Q2)) (C := [mu_is Q2 (some 147) 2]) rfl (show mu_is Q2 (some 147) 2 from (u2.1.1.is rfl)) ?_
  rw [(u2.1.1.r (p := 147) (j := 4) (q := 150) rfl)]
  refine mw_cI (fun _ => rfl) (show mu_is Q2 (some 147) 2 from (u2.1.1.is rfl)) (gr_emptied150 (d := (d + 1)) (C := C) (wn := wn) (c := c) u2 d2 ((show ((upI (upI U 147 14 (2 : Int32)) 147 15 (-1 : Int32)).2.1 99 12) = (U.2.1 99 12) from rfl).trans hw) hwb ((show ((upI (upI U 147 14 (2 : Int32)) 147 15 (-1 : Int32)).2.1 147 16) = (U.2.1 147 16) from rfl).trans hcur) hc (fun i hi => by rw [(show ((upI (upI U 147 14 (2 : Int32)) 147 15 (-1 : Int32)).2.2.2.2.1 150) = (U.2.2.2.2.1 150) from rfl)]; exact hz i hi)) (fun x3 Q3 q3 => ?_)
  rcases q3 with ⟨u3, r3, z3, x, hx1, hx2, hx16, hx0, ⟨rfl, hx3, hx4⟩ | ⟨rfl, hx3⟩⟩
  · -- (0 : Int32)
    have ht3 : ur m C H Q3 := ht2.trans r3
    obtain ⟨V3, d3⟩ : ∃ V, ud m Q3 = V := ⟨_, rfl⟩
    rw [d3] at z3 hx16
    have qf3 : uq F321 U V3 := qf2.tr z3 rfl
    have hx0 : ∀ i, i < x → U.2.2.2.2.1 150 i = 0 := hx0
    obtain ⟨t, kt1, kt2, kt3⟩ := low_ex (show ¬ U.2.2.2.2.1 150 x = 0 from hx4)
    have hbt : bts (U.2.2.2.2.1 150) (x * 64 + t) = true := by
      unfold bts
      rw [show (x * 64 + t) / 64 = x by omega, show (x * 64 + t) % 64 = t by omega]
      exact kt2
    have hst := hT150 (x * 64 + t) (by omega) hbt
    have hfst : ∀ i, i < x * 64 + t → ¬ bts (U.2.2.2.2.1 150) i = true := fun i hi y => by
      unfold bts at y
      by_cases k : i / 64 < x
      · rw [hx0 _ k, btz_0] at y; cases y
      · rw [show i / 64 = x by omega, kt3 (i % 64) (by omega)] at y; cases y
    refine mw_if (P := (0 : Int32) = 0) (a := 21) (b := 53) (fun _ => rfl) trivial (fun h4 => ?_) (fun h4 => absurd (by decide) h4)
    refine mw_go mu_g321 (k := 3) (f1 := (26, [(0, .inr (.inr (some 147)))], [.inr (.inr (mu_r Q3 147 1)), .inr (.inr (some 147))], Q3)) (C := [mu_is Q3 (some 147) 2]) rfl (show mu_is Q3 (some 147) 2 from (u3.1.1.is rfl)) ?_
    rw [(u3.1.1.r (p := 147) (j := 1) (q := 129) rfl)]
    refine mw_go mu_g321 (k := 1) (f1 := (29, [(0, .inr (.inr (some 147)))], [.inr (.inr (mu_r Q3 129 6)), .inr (.inr (some 147))], Q3)) (C := [mu_is Q3 (some 129) 9]) rfl (show mu_is Q3 (some 129) 9 from (u3.1.1.is rfl)) ?_
    rw [(show mu_r Q3 129 6 = (U.2.2.2.1 129 6) from (ud_q (U := V3) (m := m) (P := 129) (j := 6) d3 rfl).trans (z3.r 129 6 rfl))]
    refine mw_go mu_g321 (k := 2) (f1 := (33, [(0, .inr (.inr (some 147)))], [.inl (mu_i Q3 147 16), .inr (.inr (U.2.2.2.1 129 6)), .inr (.inr (some 147))], Q3)) (C := [mu_is Q3 (some 147) 2]) rfl (show mu_is Q3 (some 147) 2 from (u3.1.1.is rfl)) ?_
    rw [(show mu_i Q3 147 16 = (nI x) from (ud_i (U := V3) (m := m) (P := 147) (j := 16) d3 rfl).trans hx16)]
    refine mw_go mu_g321 (k := 2) (f1 := (36, [(0, .inr (.inr (some 147)))], [.inl ((nI x) * (64 : Int32)), .inr (.inr (U.2.2.2.1 129 6)), .inr (.inr (some 147))], Q3)) (C := []) rfl trivial ?_
    rw [(show ((nI x) * (64 : Int32)) = (nI (x * 64)) from (nI_mul (a := x) (b := 64)))]
    refine mw_go mu_g321 (k := 2) (f1 := (40, [(0, .inr (.inr (some 147)))], [.inr (.inr (mu_r Q3 147 4)), .inl (nI (x * 64)), .inr (.inr (U.2.2.2.1 129 6)), .inr (.inr (some 147))], Q3)) (C := [mu_is Q3 (some 147) 2]) rfl (show mu_is Q3 (some 147) 2 from (u3.1.1.is rfl)) ?_
    rw [(u3.1.1.r (p := 147) (j := 4) (q := 150) rfl)]
    refine mw_go mu_g321 (k := 2) (f1 := (44, [(0, .inr (.inr (some 147)))], [.inl (mu_i Q3 147 16), .inr (.inr (some 150)), .inl (nI (x * 64)), .inr (.inr (U.2.2.2.1 129 6)), .inr (.inr (some 147))], Q3)) (C := [mu_is Q3 (some 147) 2]) rfl (show mu_is Q3 (some 147) 2 from (u3.1.1.is rfl)) ?_
    rw [(show mu_i Q3 147 16 = (nI x) from (ud_i (U := V3) (m := m) (P := 147) (j := 16) d3 rfl).trans hx16)]
    refine mw_go mu_g321 (k := 1) (f1 := (45, [(0, .inr (.inr (some 147)))], [.inr (.inl (mu_l Q3 150 (nI x).toNatClampNeg)), .inl (nI (x * 64)), .inr (.inr (U.2.2.2.1 129 6)), .inr (.inr (some 147))], Q3)) (C := [mu_isr Q3 (some 150) 102, vp_in (nI x) (mu_n Q3 150)]) rfl (show (mu_isr Q3 (some 150) 102) ∧ (vp_in (nI x) (mu_n Q3 150)) from ⟨((u3.1.1.a (p := 150) (x := (102, 256)) rfl).1).r, (by rw [show mu_n Q3 150 = 256 from (u3.1.1.a (p := 150) (x := (102, 256)) rfl).2]; exact vp_in_nI (n := x) (by omega) (by decide))⟩) ?_
    rw [(show (mu_l Q3 150 (nI x).toNatClampNeg) = (U.2.2.2.2.1 150) x from (congrArg (mu_l Q3 150) (show (nI x).toNatClampNeg = x from nI_clamp (by omega))).trans ((ud_l (m := m) (p := 150) (i := x) d3 rfl).trans (congrFun (show V3.2.2.2.2.1 150 = (U.2.2.2.2.1 150) from (z3.l 150 rfl)) x)))]
    refine mw_cIe (fun _ => rfl) trivial (jl_tz_ok (d := d) ((U.2.2.2.2.1 150) x)) ?_
    rw [show jl_tz ((U.2.2.2.2.1 150) x) = nI t from tz64 kt1 kt2 kt3]
    refine mw_go mu_g321 (k := 1) (f1 := (49, [(0, .inr (.inr (some 147)))], [.inl ((nI (x * 64)) + (nI t)), .inr (.inr (U.2.2.2.1 129 6)), .inr (.inr (some 147))], Q3)) (C := []) rfl trivial ?_
    rw [(show ((nI (x * 64)) + (nI t)) = (nI ((x * 64) + t)) from (nI_add (x * 64) t))]
    refine mw_go mu_g321 (k := 1) (f1 := (50, [(0, .inr (.inr (some 147)))], [.inl (mu_i Q3 (mu_p (U.2.2.2.1 129 6)) (nI ((x * 64) + t)).toNatClampNeg), .inr (.inr (some 147))], Q3)) (C := [mu_isr Q3 (U.2.2.2.1 129 6) 100, vp_in (nI ((x * 64) + t)) (mu_n Q3 (mu_p (U.2.2.2.1 129 6)))]) rfl (show (mu_isr Q3 (U.2.2.2.1 129 6) 100) ∧ (vp_in (nI ((x * 64) + t)) (mu_n Q3 (mu_p (U.2.2.2.1 129 6)))) from ⟨((u3.iA d3 rfl rfl (show V3.2.2.2.1 129 6 = (U.2.2.2.1 129 6) from (z3.r 129 6 rfl)))).r, (u3.vA (i := (x * 64) + t) d3 rfl rfl (show V3.2.2.2.1 129 6 = (U.2.2.2.1 129 6) from (z3.r 129 6 rfl)) (show (V3.2.2.1 129 6).1 = (U.2.2.1 129 6).1 from (z3.n 129 6 rfl)) (by omega) (by omega))⟩) ?_
    rw [(show (mu_i Q3 (mu_p (U.2.2.2.1 129 6)) (nI ((x * 64) + t)).toNatClampNeg) = (nI (rx (x * 64 + t))) from ((congrArg (mu_i Q3 (mu_p (U.2.2.2.1 129 6))) (show (nI ((x * 64) + t)).toNatClampNeg = (x * 64) + t from nI_clamp (by omega))).trans (u3.gA d3 rfl rfl (show V3.2.2.2.1 129 6 = (U.2.2.2.1 129 6) from (z3.r 129 6 rfl)))).trans ((congrArg (fun z => z.2 ((x * 64) + t)) (show V3.2.2.1 129 6 = (U.2.2.1 129 6) from (z3.a 129 6 rfl))).trans (hrx (x * 64 + t) hst).1))]
    refine mw_go mu_g321 (k := 1) (f1 := (53, [(0, .inr (.inr (some 147)))], [], (mu_si Q3 147 15 (nI (rx (x * 64 + t)))))) (C := [mu_is Q3 (some 147) 2]) rfl (show mu_is Q3 (some 147) 2 from (u3.1.1.is rfl)) ?_
    obtain ⟨u6, r6, d6⟩ : um m (mu_si Q3 147 15 (nI (rx (x * 64 + t)))) ∧ ur m C Q3 (mu_si Q3 147 15 (nI (rx (x * 64 + t)))) ∧ ud m (mu_si Q3 147 15 (nI (rx (x * 64 + t)))) = (upI V3 147 15 (nI (rx (x * 64 + t)))) := u3.sI (C := C) d3 rfl
    generalize (mu_si Q3 147 15 (nI (rx (x * 64 + t)))) = Q6 at u6 r6 d6 ⊢
    have qf6 : uq F321 U (upI V3 147 15 (nI (rx (x * 64 + t)))) := qf3.I rfl
    have ht6 : ur m C H Q6 := ht3.trans r6
    refine mw_of (fun _ => mu_ret rfl trivial ⟨Q6, rfl, u6, ht6, (by rw [d6]; exact qf6), ?_⟩)
    rw [d6]
    exact ⟨(z3.i 147 14 rfl), x, hx16, hx1, hx2, hx0, Or.inr ⟨x * 64 + t, hst, hbt, hfst, rfl⟩⟩
  · -- (1 : Int32)
    have ht3 : ur m C H Q3 := ht2.trans r3
    obtain ⟨V3, d3⟩ : ∃ V, ud m Q3 = V := ⟨_, rfl⟩
    rw [d3] at z3 hx16
    have qf3 : uq F321 U V3 := qf2.tr z3 rfl
    have hx0 : ∀ i, i < x → U.2.2.2.2.1 150 i = 0 := hx0
    refine mw_if (P := (1 : Int32) = 0) (a := 21) (b := 53) (fun _ => rfl) trivial (fun h7 => absurd h7 (by decide)) (fun h7 => ?_)
    refine mw_of (fun _ => mu_ret rfl trivial ⟨Q3, rfl, u3, ht3, (by rw [d3]; exact qf3), ?_⟩)
    rw [d3]
    exact ⟨(z3.i 147 14 rfl), x, hx16, hx1, hx2, hx0, Or.inl ⟨(z3.i 147 15 rfl), by omega⟩⟩
end EnterNext
