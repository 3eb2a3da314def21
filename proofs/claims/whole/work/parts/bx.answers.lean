/-! THE MACHINE: what it answers -/
section Answers
variable {H : mu_H} {m d A W l s t k o f O p n q i a sc cp P c wt at0 : Nat} {C : Nat → Nat} {U V : Ud} {it fs : Nat → Nat} {fz2 : Nat → Nat} {v : Int32}
/-- PathProver$Machine.results()[I -/
abbrev mu_m209 : ev_M := (1, (some (.array .int)), [], ev_b209)
theorem mu_g209 : mu_good mu_m209 := mu_goodk ev_k209
theorem mc_results (h : um m H) (e : ud m H = U) (hs : mst U A W l t it) (h1 : 1 ≤ t) : mu_TA (mu_D (d + 4)) 209 [.inr (.inr (some 100))] H (fun x H1 => x = some 107 ∧ um m H1 ∧ ur m C H H1 ∧ uq FLf U (ud m H1) ∧ ∀ k, k < l → ((ud m H1).2.2.1 100 9).2 k = cvl U W (it 0) k) := by
  obtain ⟨hx, ht, ht13, c13, hit⟩ := hs
  obtain ⟨hW, hl, hl1, hlW, hW2, hA8, c8, hA12, c12⟩ := hx
  refine mu_meth (M := mu_m209) rfl rfl ?_
  refine mw_ht (mu_fn_of (show [0].Nodup by decide)) ?_
  refine mw_go mu_g209 (k := 3) (f1 := (5, [(0, .inr (.inr (some 100)))], [.inr (.inr (mu_r H 100 13)), .inr (.inr (some 100))], H)) (C := [mu_is H (some 100) 5]) rfl (show mu_is H (some 100) 5 from (h.1.1.is rfl)) ?_
  rw [(show mu_r H 100 13 = (U.2.2.2.1 100 13) from (ud_q (U := U) (m := m) (P := 100) (j := 13) e rfl))]
  refine mw_go mu_g209 (k := 2) (f1 := (7, [(0, .inr (.inr (some 100)))], [.inl (mu_i H (mu_p (U.2.2.2.1 100 13)) (0 : Int32).toNatClampNeg), .inr (.inr (some 100))], H)) (C := [mu_isr H (U.2.2.2.1 100 13) 100, vp_in (0 : Int32) (mu_n H (mu_p (U.2.2.2.1 100 13)))]) rfl (show (mu_isr H (U.2.2.2.1 100 13) 100) ∧ (vp_in (0 : Int32) (mu_n H (mu_p (U.2.2.2.1 100 13)))) from ⟨((h.iA e rfl rfl (show U.2.2.2.1 100 13 = (U.2.2.2.1 100 13) from rfl))).r, (h.vA (i := 0) e rfl rfl (show U.2.2.2.1 100 13 = (U.2.2.2.1 100 13) from rfl) (show (U.2.2.1 100 13).1 = (U.2.2.1 100 13).1 from rfl) (by omega) (by omega))⟩) ?_
  rw [(show (mu_i H (mu_p (U.2.2.2.1 100 13)) (0 : Int32).toNatClampNeg) = (nI (it 0)) from ((congrArg (mu_i H (mu_p (U.2.2.2.1 100 13))) (show (0 : Int32).toNatClampNeg = 0 from by decide)).trans (h.gA e rfl rfl (show U.2.2.2.1 100 13 = (U.2.2.2.1 100 13) from rfl))).trans ((congrArg (fun z => z.2 0) (show U.2.2.1 100 13 = (U.2.2.1 100 13) from rfl)).trans (hit 0 (by omega)).1))]
  have hJ1 := (hit 0 (by omega)).2
  refine mw_go mu_g209 (k := 2) (f1 := (11, [(0, .inr (.inr (some 100)))], [.inr (.inr (mu_r H 100 9)), .inl (nI (it 0)), .inr (.inr (some 100))], H)) (C := [mu_is H (some 100) 5]) rfl (show mu_is H (some 100) 5 from (h.1.1.is rfl)) ?_
  rw [(h.1.1.r (p := 100) (j := 9) (q := 107) rfl)]
  refine mw_cV (fun _ => rfl) (show mu_is H (some 100) 5 from (h.1.1.is rfl)) (mc_left2 (d := d) (C := C) h e (show mx U A W l from ⟨hW, hl, hl1, hlW, hW2, by rw [(show (U.2.2.1 100 8).1 = (U.2.2.1 100 8).1 from rfl)]; exact hA8, by rw [(show (U.2.2.1 100 8).1 = (U.2.2.1 100 8).1 from rfl)]; exact c8, by rw [(show (U.2.2.1 100 12).1 = (U.2.2.1 100 12).1 from rfl)]; exact hA12, by rw [(show (U.2.2.1 100 12).1 = (U.2.2.1 100 12).1 from rfl)]; exact c12⟩) (hit 0 (by omega)).2) (fun Q2 q2 => ?_)
  obtain ⟨u2, r2, z2, b2⟩ := q2
  have ht2 : ur m C H Q2 := (ur.refl m C H).trans r2
  obtain ⟨V2, d2⟩ : ∃ V, ud m Q2 = V := ⟨_, rfl⟩
  rw [d2] at z2 b2
  have qf2 : uq FLf U V2 := (uq.refl FLf U).tr z2 rfl
  have hB2 : ∀ k, k < l → (V2.2.2.1 100 9).2 k = cvl U W (it 0) k := fun k hk => (b2 k hk).trans (cv_of (show U.2.2.1 100 8 = U.2.2.1 100 8 from rfl) (show U.2.2.1 100 12 = U.2.2.1 100 12 from rfl))
  refine mw_go mu_g209 (k := 2) (f1 := (18, [(0, .inr (.inr (some 100)))], [.inr (.inr (mu_r Q2 100 9))], Q2)) (C := [mu_is Q2 (some 100) 5]) rfl (show mu_is Q2 (some 100) 5 from (u2.1.1.is rfl)) ?_
  rw [(u2.1.1.r (p := 100) (j := 9) (q := 107) rfl)]
  exact mw_of (fun _ => mu_ret rfl trivial ⟨_, Q2, rfl, rfl, u2, ht2, (by rw [d2]; exact qf2), (by rw [d2]; exact hB2)⟩)
/-- PathProver$Machine.choices(I)I -/
abbrev mu_m214 : ev_M := (3, (some .int), [], ev_b214)
theorem mu_g214 : mu_good mu_m214 := mu_goodk ev_k214
theorem mc_choices0 (h : um m H) (e : ud m H = U) (hs : mst U A W l t it) (hO : U.2.1 100 7 = nI O) (hcp : U.2.1 100 5 = nI cp) (hn : n < l) (hc0 : cp = 0) : mu_TI (mu_D (d + 2)) 214 [.inr (.inr (some 100)), .inl (nI n)] H (fun x H1 => x = nI t ∧ H1 = H) := by
  obtain ⟨hx, ht, ht13, c13, hit⟩ := hs
  have hx0 := hx
  obtain ⟨hW, hl, hl1, hlW, hW2, hA8, c8, hA12, c12⟩ := hx0
  refine mu_meth (M := mu_m214) rfl rfl ?_
  refine mw_ht (mu_fn_of (show [0, 1].Nodup by decide)) ?_
  refine mw_go mu_g214 (k := 2) (f1 := (4, [(0, .inr (.inr (some 100))), (1, .inl (nI n))], [.inl (mu_i H 100 5)], H)) (C := [mu_is H (some 100) 5]) rfl (show mu_is H (some 100) 5 from (h.1.1.is rfl)) ?_
  rw [(show mu_i H 100 5 = (nI cp) from (ud_i (U := U) (m := m) (P := 100) (j := 5) e rfl).trans hcp)]
  refine mw_if (P := (nI cp) = 0) (a := 7) (b := 12) (fun _ => rfl) trivial (fun h1 => ?_) (fun h1 => absurd (by rw [hc0]; rfl) h1)
  refine mw_go mu_g214 (k := 2) (f1 := (11, [(0, .inr (.inr (some 100))), (1, .inl (nI n))], [.inl (mu_i H 100 14)], H)) (C := [mu_is H (some 100) 5]) rfl (show mu_is H (some 100) 5 from (h.1.1.is rfl)) ?_
  rw [(show mu_i H 100 14 = (nI t) from (ud_i (U := U) (m := m) (P := 100) (j := 14) e rfl).trans ht)]
  exact mw_of (fun _ => mu_ret rfl trivial ⟨(nI t), H, rfl, rfl, rfl⟩)
theorem mc_choicesN (h : um m H) (e : ud m H = U) (hs : mst U A W l t it) (hO : U.2.1 100 7 = nI O) (hcp : U.2.1 100 5 = nI cp) (hn : n < l) (hc0 : 1 ≤ cp) (hc2 : cp < 2147483648) (h1 : 1 ≤ t) (hv : cvl U W (it 0) n = -1) : mu_TI (mu_D (d + 2)) 214 [.inr (.inr (some 100)), .inl (nI n)] H (fun x H1 => x = 1 ∧ H1 = H) := by
  obtain ⟨hx, ht, ht13, c13, hit⟩ := hs
  have hx0 := hx
  obtain ⟨hW, hl, hl1, hlW, hW2, hA8, c8, hA12, c12⟩ := hx0
  refine mu_meth (M := mu_m214) rfl rfl ?_
  refine mw_ht (mu_fn_of (show [0, 1].Nodup by decide)) ?_
  refine mw_go mu_g214 (k := 2) (f1 := (4, [(0, .inr (.inr (some 100))), (1, .inl (nI n))], [.inl (mu_i H 100 5)], H)) (C := [mu_is H (some 100) 5]) rfl (show mu_is H (some 100) 5 from (h.1.1.is rfl)) ?_
  rw [(show mu_i H 100 5 = (nI cp) from (ud_i (U := U) (m := m) (P := 100) (j := 5) e rfl).trans hcp)]
  refine mw_if (P := (nI cp) = 0) (a := 7) (b := 12) (fun _ => rfl) trivial (fun h1 => absurd h1 (fun y => absurd ((nI_eq (b := 0) (by omega) (by decide)).mp (show nI cp = nI 0 from y)) (by omega))) (fun h1 => ?_)
  refine mw_go mu_g214 (k := 3) (f1 := (17, [(0, .inr (.inr (some 100))), (1, .inl (nI n))], [.inr (.inr (mu_r H 100 13)), .inr (.inr (some 100))], H)) (C := [mu_is H (some 100) 5]) rfl (show mu_is H (some 100) 5 from (h.1.1.is rfl)) ?_
  rw [(show mu_r H 100 13 = (U.2.2.2.1 100 13) from (ud_q (U := U) (m := m) (P := 100) (j := 13) e rfl))]
  refine mw_go mu_g214 (k := 2) (f1 := (19, [(0, .inr (.inr (some 100))), (1, .inl (nI n))], [.inl (mu_i H (mu_p (U.2.2.2.1 100 13)) (0 : Int32).toNatClampNeg), .inr (.inr (some 100))], H)) (C := [mu_isr H (U.2.2.2.1 100 13) 100, vp_in (0 : Int32) (mu_n H (mu_p (U.2.2.2.1 100 13)))]) rfl (show (mu_isr H (U.2.2.2.1 100 13) 100) ∧ (vp_in (0 : Int32) (mu_n H (mu_p (U.2.2.2.1 100 13)))) from ⟨((h.iA e rfl rfl (show U.2.2.2.1 100 13 = (U.2.2.2.1 100 13) from rfl))).r, (h.vA (i := 0) e rfl rfl (show U.2.2.2.1 100 13 = (U.2.2.2.1 100 13) from rfl) (show (U.2.2.1 100 13).1 = (U.2.2.1 100 13).1 from rfl) (by omega) (by omega))⟩) ?_
  rw [(show (mu_i H (mu_p (U.2.2.2.1 100 13)) (0 : Int32).toNatClampNeg) = (nI (it 0)) from ((congrArg (mu_i H (mu_p (U.2.2.2.1 100 13))) (show (0 : Int32).toNatClampNeg = 0 from by decide)).trans (h.gA e rfl rfl (show U.2.2.2.1 100 13 = (U.2.2.2.1 100 13) from rfl))).trans ((congrArg (fun z => z.2 0) (show U.2.2.1 100 13 = (U.2.2.1 100 13) from rfl)).trans (hit 0 (by omega)).1))]
  have hJ2 := (hit 0 (by omega)).2
  refine mw_go mu_g214 (k := 1) (f1 := (20, [(0, .inr (.inr (some 100))), (1, .inl (nI n))], [.inl (nI n), .inl (nI (it 0)), .inr (.inr (some 100))], H)) (C := []) rfl trivial ?_
  refine mw_cIe (fun _ => rfl) (show mu_is H (some 100) 5 from (h.1.1.is rfl)) (mc_cell (d := d) (s := it 0) (k := n) h e hx (by omega) (by omega)) ?_
  rw [hv]
  refine mw_go mu_g214 (k := 2) (f1 := (25, [(2, .inl (-1 : Int32)), (0, .inr (.inr (some 100))), (1, .inl (nI n))], [.inl (-1 : Int32)], H)) (C := []) rfl trivial ?_
  refine mw_if (P := (-1 : Int32) < 0) (a := 28) (b := 32) (fun _ => rfl) trivial (fun h4 => ?_) (fun h4 => absurd (by decide) h4)
  refine mw_go mu_g214 (k := 2) (f1 := (47, [(2, .inl (-1 : Int32)), (0, .inr (.inr (some 100))), (1, .inl (nI n))], [.inl (1 : Int32)], H)) (C := []) rfl trivial ?_
  exact mw_of (fun _ => mu_ret rfl trivial ⟨(1 : Int32), H, rfl, rfl, rfl⟩)
theorem mc_choicesC (h : um m H) (e : ud m H = U) (hs : mst U A W l t it) (hO : U.2.1 100 7 = nI O) (hcp : U.2.1 100 5 = nI cp) (hn : n < l) (hc0 : 1 ≤ cp) (hc2 : cp < 2147483648) (h1 : 1 ≤ t) (hv : cvl U W (it 0) n = nI c) (hc : c < sc) (hsc : sc < (U.2.2.1 100 15).1) (hsl : (U.2.2.1 100 15).1 ≤ 16777216) (hfs : ∀ k, k ≤ sc → (U.2.2.1 100 15).2 k = nI (fs k)) (hmn : fs c ≤ fs (c + 1)) (hfb : fs (c + 1) ≤ 16777216) : mu_TI (mu_D (d + 2)) 214 [.inr (.inr (some 100)), .inl (nI n)] H (fun x H1 => x = nI (fs (c + 1) - fs c) ∧ H1 = H) := by
  obtain ⟨hx, ht, ht13, c13, hit⟩ := hs
  have hx0 := hx
  obtain ⟨hW, hl, hl1, hlW, hW2, hA8, c8, hA12, c12⟩ := hx0
  refine mu_meth (M := mu_m214) rfl rfl ?_
  refine mw_ht (mu_fn_of (show [0, 1].Nodup by decide)) ?_
  refine mw_go mu_g214 (k := 2) (f1 := (4, [(0, .inr (.inr (some 100))), (1, .inl (nI n))], [.inl (mu_i H 100 5)], H)) (C := [mu_is H (some 100) 5]) rfl (show mu_is H (some 100) 5 from (h.1.1.is rfl)) ?_
  rw [(show mu_i H 100 5 = (nI cp) from (ud_i (U := U) (m := m) (P := 100) (j := 5) e rfl).trans hcp)]
  refine mw_if (P := (nI cp) = 0) (a := 7) (b := 12) (fun _ => rfl) trivial (fun h1 => absurd h1 (fun y => absurd ((nI_eq (b := 0) (by omega) (by decide)).mp (show nI cp = nI 0 from y)) (by omega))) (fun h1 => ?_)
  refine mw_go mu_g214 (k := 3) (f1 := (17, [(0, .inr (.inr (some 100))), (1, .inl (nI n))], [.inr (.inr (mu_r H 100 13)), .inr (.inr (some 100))], H)) (C := [mu_is H (some 100) 5]) rfl (show mu_is H (some 100) 5 from (h.1.1.is rfl)) ?_
  rw [(show mu_r H 100 13 = (U.2.2.2.1 100 13) from (ud_q (U := U) (m := m) (P := 100) (j := 13) e rfl))]
  refine mw_go mu_g214 (k := 2) (f1 := (19, [(0, .inr (.inr (some 100))), (1, .inl (nI n))], [.inl (mu_i H (mu_p (U.2.2.2.1 100 13)) (0 : Int32).toNatClampNeg), .inr (.inr (some 100))], H)) (C := [mu_isr H (U.2.2.2.1 100 13) 100, vp_in (0 : Int32) (mu_n H (mu_p (U.2.2.2.1 100 13)))]) rfl (show (mu_isr H (U.2.2.2.1 100 13) 100) ∧ (vp_in (0 : Int32) (mu_n H (mu_p (U.2.2.2.1 100 13)))) from ⟨((h.iA e rfl rfl (show U.2.2.2.1 100 13 = (U.2.2.2.1 100 13) from rfl))).r, (h.vA (i := 0) e rfl rfl (show U.2.2.2.1 100 13 = (U.2.2.2.1 100 13) from rfl) (show (U.2.2.1 100 13).1 = (U.2.2.1 100 13).1 from rfl) (by omega) (by omega))⟩) ?_
  rw [(show (mu_i H (mu_p (U.2.2.2.1 100 13)) (0 : Int32).toNatClampNeg) = (nI (it 0)) from ((congrArg (mu_i H (mu_p (U.2.2.2.1 100 13))) (show (0 : Int32).toNatClampNeg = 0 from by decide)).trans (h.gA e rfl rfl (show U.2.2.2.1 100 13 = (U.2.2.2.1 100 13) from rfl))).trans ((congrArg (fun z => z.2 0) (show U.2.2.1 100 13 = (U.2.2.1 100 13) from rfl)).trans (hit 0 (by omega)).1))]
  have hJ2 := (hit 0 (by omega)).2
  refine mw_go mu_g214 (k := 1) (f1 := (20, [(0, .inr (.inr (some 100))), (1, .inl (nI n))], [.inl (nI n), .inl (nI (it 0)), .inr (.inr (some 100))], H)) (C := []) rfl trivial ?_
  refine mw_cIe (fun _ => rfl) (show mu_is H (some 100) 5 from (h.1.1.is rfl)) (mc_cell (d := d) (s := it 0) (k := n) h e hx (by omega) (by omega)) ?_
  rw [hv]
  refine mw_go mu_g214 (k := 2) (f1 := (25, [(2, .inl (nI c)), (0, .inr (.inr (some 100))), (1, .inl (nI n))], [.inl (nI c)], H)) (C := []) rfl trivial ?_
  refine mw_if (P := (nI c) < 0) (a := 28) (b := 32) (fun _ => rfl) trivial (fun h4 => absurd h4 (nI_pos (by omega))) (fun h4 => ?_)
  refine mw_go mu_g214 (k := 2) (f1 := (36, [(2, .inl (nI c)), (0, .inr (.inr (some 100))), (1, .inl (nI n))], [.inr (.inr (mu_r H 100 15))], H)) (C := [mu_is H (some 100) 5]) rfl (show mu_is H (some 100) 5 from (h.1.1.is rfl)) ?_
  rw [(show mu_r H 100 15 = (U.2.2.2.1 100 15) from (ud_q (U := U) (m := m) (P := 100) (j := 15) e rfl))]
  refine mw_go mu_g214 (k := 3) (f1 := (39, [(2, .inl (nI c)), (0, .inr (.inr (some 100))), (1, .inl (nI n))], [.inl ((nI c) + (1 : Int32)), .inr (.inr (U.2.2.2.1 100 15))], H)) (C := []) rfl trivial ?_
  rw [(show ((nI c) + (1 : Int32)) = (nI (c + 1)) from (nI_add c 1))]
  refine mw_go mu_g214 (k := 1) (f1 := (40, [(2, .inl (nI c)), (0, .inr (.inr (some 100))), (1, .inl (nI n))], [.inl (mu_i H (mu_p (U.2.2.2.1 100 15)) (nI (c + 1)).toNatClampNeg)], H)) (C := [mu_isr H (U.2.2.2.1 100 15) 100, vp_in (nI (c + 1)) (mu_n H (mu_p (U.2.2.2.1 100 15)))]) rfl (show (mu_isr H (U.2.2.2.1 100 15) 100) ∧ (vp_in (nI (c + 1)) (mu_n H (mu_p (U.2.2.2.1 100 15)))) from ⟨((h.iA e rfl rfl (show U.2.2.2.1 100 15 = (U.2.2.2.1 100 15) from rfl))).r, (h.vA (i := c + 1) e rfl rfl (show U.2.2.2.1 100 15 = (U.2.2.2.1 100 15) from rfl) (show (U.2.2.1 100 15).1 = (U.2.2.1 100 15).1 from rfl) (by omega) (by omega))⟩) ?_
  rw [(show (mu_i H (mu_p (U.2.2.2.1 100 15)) (nI (c + 1)).toNatClampNeg) = (nI (fs (c + 1))) from ((congrArg (mu_i H (mu_p (U.2.2.2.1 100 15))) (show (nI (c + 1)).toNatClampNeg = c + 1 from nI_clamp (by omega))).trans (h.gA e rfl rfl (show U.2.2.2.1 100 15 = (U.2.2.2.1 100 15) from rfl))).trans ((congrArg (fun z => z.2 (c + 1)) (show U.2.2.1 100 15 = (U.2.2.1 100 15) from rfl)).trans (hfs (c + 1) (by omega))))]
  refine mw_go mu_g214 (k := 2) (f1 := (44, [(2, .inl (nI c)), (0, .inr (.inr (some 100))), (1, .inl (nI n))], [.inr (.inr (mu_r H 100 15)), .inl (nI (fs (c + 1)))], H)) (C := [mu_is H (some 100) 5]) rfl (show mu_is H (some 100) 5 from (h.1.1.is rfl)) ?_
  rw [(show mu_r H 100 15 = (U.2.2.2.1 100 15) from (ud_q (U := U) (m := m) (P := 100) (j := 15) e rfl))]
  refine mw_go mu_g214 (k := 2) (f1 := (46, [(2, .inl (nI c)), (0, .inr (.inr (some 100))), (1, .inl (nI n))], [.inl (mu_i H (mu_p (U.2.2.2.1 100 15)) (nI c).toNatClampNeg), .inl (nI (fs (c + 1)))], H)) (C := [mu_isr H (U.2.2.2.1 100 15) 100, vp_in (nI c) (mu_n H (mu_p (U.2.2.2.1 100 15)))]) rfl (show (mu_isr H (U.2.2.2.1 100 15) 100) ∧ (vp_in (nI c) (mu_n H (mu_p (U.2.2.2.1 100 15)))) from ⟨((h.iA e rfl rfl (show U.2.2.2.1 100 15 = (U.2.2.2.1 100 15) from rfl))).r, (h.vA (i := c) e rfl rfl (show U.2.2.2.1 100 15 = (U.2.2.2.1 100 15) from rfl) (show (U.2.2.1 100 15).1 = (U.2.2.1 100 15).1 from rfl) (by omega) (by omega))⟩) ?_
  rw [(show (mu_i H (mu_p (U.2.2.2.1 100 15)) (nI c).toNatClampNeg) = (nI (fs c)) from ((congrArg (mu_i H (mu_p (U.2.2.2.1 100 15))) (show (nI c).toNatClampNeg = c from nI_clamp (by omega))).trans (h.gA e rfl rfl (show U.2.2.2.1 100 15 = (U.2.2.2.1 100 15) from rfl))).trans ((congrArg (fun z => z.2 c) (show U.2.2.1 100 15 = (U.2.2.1 100 15) from rfl)).trans (hfs c (by omega))))]
  refine mw_go mu_g214 (k := 1) (f1 := (47, [(2, .inl (nI c)), (0, .inr (.inr (some 100))), (1, .inl (nI n))], [.inl ((nI (fs (c + 1))) - (nI (fs c)))], H)) (C := []) rfl trivial ?_
  rw [(show ((nI (fs (c + 1))) - (nI (fs c))) = (nI ((fs (c + 1)) - (fs c))) from (nI_sub (a := fs (c + 1)) (b := fs c) (by omega)))]
  exact mw_of (fun _ => mu_ret rfl trivial ⟨(nI ((fs (c + 1)) - (fs c))), H, rfl, rfl, rfl⟩)
/-- PathProver$Machine.choice(II)I -/
abbrev mu_m215 : ev_M := (4, (some .int), [], ev_b215)
theorem mu_g215 : mu_good mu_m215 := mu_goodk ev_k215
theorem mc_choice0 (h : um m H) (e : ud m H = U) (hs : mst U A W l t it) (hO : U.2.1 100 7 = nI O) (hcp : U.2.1 100 5 = nI cp) (hn : n < l) (hc0 : cp = 0) (hk : k < t) : mu_TI (mu_D (d + 2)) 215 [.inr (.inr (some 100)), .inl (nI n), .inl (nI k)] H (fun x H1 => x = cvl U W (it k) n ∧ H1 = H) := by
  obtain ⟨hx, ht, ht13, c13, hit⟩ := hs
  have hx0 := hx
  obtain ⟨hW, hl, hl1, hlW, hW2, hA8, c8, hA12, c12⟩ := hx0
  refine mu_meth (M := mu_m215) rfl rfl ?_
  refine mw_ht (mu_fn_of (show [0, 1, 2].Nodup by decide)) ?_
  refine mw_go mu_g215 (k := 2) (f1 := (4, [(0, .inr (.inr (some 100))), (1, .inl (nI n)), (2, .inl (nI k))], [.inl (mu_i H 100 5)], H)) (C := [mu_is H (some 100) 5]) rfl (show mu_is H (some 100) 5 from (h.1.1.is rfl)) ?_
  rw [(show mu_i H 100 5 = (nI cp) from (ud_i (U := U) (m := m) (P := 100) (j := 5) e rfl).trans hcp)]
  refine mw_if (P := (nI cp) = 0) (a := 7) (b := 19) (fun _ => rfl) trivial (fun h1 => ?_) (fun h1 => absurd (by rw [hc0]; rfl) h1)
  refine mw_go mu_g215 (k := 3) (f1 := (12, [(0, .inr (.inr (some 100))), (1, .inl (nI n)), (2, .inl (nI k))], [.inr (.inr (mu_r H 100 13)), .inr (.inr (some 100))], H)) (C := [mu_is H (some 100) 5]) rfl (show mu_is H (some 100) 5 from (h.1.1.is rfl)) ?_
  rw [(show mu_r H 100 13 = (U.2.2.2.1 100 13) from (ud_q (U := U) (m := m) (P := 100) (j := 13) e rfl))]
  refine mw_go mu_g215 (k := 2) (f1 := (14, [(0, .inr (.inr (some 100))), (1, .inl (nI n)), (2, .inl (nI k))], [.inl (mu_i H (mu_p (U.2.2.2.1 100 13)) (nI k).toNatClampNeg), .inr (.inr (some 100))], H)) (C := [mu_isr H (U.2.2.2.1 100 13) 100, vp_in (nI k) (mu_n H (mu_p (U.2.2.2.1 100 13)))]) rfl (show (mu_isr H (U.2.2.2.1 100 13) 100) ∧ (vp_in (nI k) (mu_n H (mu_p (U.2.2.2.1 100 13)))) from ⟨((h.iA e rfl rfl (show U.2.2.2.1 100 13 = (U.2.2.2.1 100 13) from rfl))).r, (h.vA (i := k) e rfl rfl (show U.2.2.2.1 100 13 = (U.2.2.2.1 100 13) from rfl) (show (U.2.2.1 100 13).1 = (U.2.2.1 100 13).1 from rfl) (by omega) (by omega))⟩) ?_
  rw [(show (mu_i H (mu_p (U.2.2.2.1 100 13)) (nI k).toNatClampNeg) = (nI (it k)) from ((congrArg (mu_i H (mu_p (U.2.2.2.1 100 13))) (show (nI k).toNatClampNeg = k from nI_clamp (by omega))).trans (h.gA e rfl rfl (show U.2.2.2.1 100 13 = (U.2.2.2.1 100 13) from rfl))).trans ((congrArg (fun z => z.2 k) (show U.2.2.1 100 13 = (U.2.2.1 100 13) from rfl)).trans (hit k (by omega)).1))]
  have hJ2 := (hit k (by omega)).2
  refine mw_go mu_g215 (k := 1) (f1 := (15, [(0, .inr (.inr (some 100))), (1, .inl (nI n)), (2, .inl (nI k))], [.inl (nI n), .inl (nI (it k)), .inr (.inr (some 100))], H)) (C := []) rfl trivial ?_
  refine mw_cIe (fun _ => rfl) (show mu_is H (some 100) 5 from (h.1.1.is rfl)) (mc_cell (d := d) (s := it k) (k := n) h e hx (by omega) (by omega)) ?_
  exact mw_of (fun _ => mu_ret rfl trivial ⟨(cvl U W (it k) n), H, rfl, rfl, rfl⟩)
theorem mc_choiceN (h : um m H) (e : ud m H = U) (hs : mst U A W l t it) (hO : U.2.1 100 7 = nI O) (hcp : U.2.1 100 5 = nI cp) (hn : n < l) (hc0 : 1 ≤ cp) (hc2 : cp < 2147483648) (h1 : 1 ≤ t) (hv : cvl U W (it 0) n = -1) : mu_TI (mu_D (d + 2)) 215 [.inr (.inr (some 100)), .inl (nI n), .inl (nI k)] H (fun x H1 => x = 0 ∧ H1 = H) := by
  obtain ⟨hx, ht, ht13, c13, hit⟩ := hs
  have hx0 := hx
  obtain ⟨hW, hl, hl1, hlW, hW2, hA8, c8, hA12, c12⟩ := hx0
  refine mu_meth (M := mu_m215) rfl rfl ?_
  refine mw_ht (mu_fn_of (show [0, 1, 2].Nodup by decide)) ?_
  refine mw_go mu_g215 (k := 2) (f1 := (4, [(0, .inr (.inr (some 100))), (1, .inl (nI n)), (2, .inl (nI k))], [.inl (mu_i H 100 5)], H)) (C := [mu_is H (some 100) 5]) rfl (show mu_is H (some 100) 5 from (h.1.1.is rfl)) ?_
  rw [(show mu_i H 100 5 = (nI cp) from (ud_i (U := U) (m := m) (P := 100) (j := 5) e rfl).trans hcp)]
  refine mw_if (P := (nI cp) = 0) (a := 7) (b := 19) (fun _ => rfl) trivial (fun h1 => absurd h1 (fun y => absurd ((nI_eq (b := 0) (by omega) (by decide)).mp (show nI cp = nI 0 from y)) (by omega))) (fun h1 => ?_)
  refine mw_go mu_g215 (k := 3) (f1 := (24, [(0, .inr (.inr (some 100))), (1, .inl (nI n)), (2, .inl (nI k))], [.inr (.inr (mu_r H 100 13)), .inr (.inr (some 100))], H)) (C := [mu_is H (some 100) 5]) rfl (show mu_is H (some 100) 5 from (h.1.1.is rfl)) ?_
  rw [(show mu_r H 100 13 = (U.2.2.2.1 100 13) from (ud_q (U := U) (m := m) (P := 100) (j := 13) e rfl))]
  refine mw_go mu_g215 (k := 2) (f1 := (26, [(0, .inr (.inr (some 100))), (1, .inl (nI n)), (2, .inl (nI k))], [.inl (mu_i H (mu_p (U.2.2.2.1 100 13)) (0 : Int32).toNatClampNeg), .inr (.inr (some 100))], H)) (C := [mu_isr H (U.2.2.2.1 100 13) 100, vp_in (0 : Int32) (mu_n H (mu_p (U.2.2.2.1 100 13)))]) rfl (show (mu_isr H (U.2.2.2.1 100 13) 100) ∧ (vp_in (0 : Int32) (mu_n H (mu_p (U.2.2.2.1 100 13)))) from ⟨((h.iA e rfl rfl (show U.2.2.2.1 100 13 = (U.2.2.2.1 100 13) from rfl))).r, (h.vA (i := 0) e rfl rfl (show U.2.2.2.1 100 13 = (U.2.2.2.1 100 13) from rfl) (show (U.2.2.1 100 13).1 = (U.2.2.1 100 13).1 from rfl) (by omega) (by omega))⟩) ?_
  rw [(show (mu_i H (mu_p (U.2.2.2.1 100 13)) (0 : Int32).toNatClampNeg) = (nI (it 0)) from ((congrArg (mu_i H (mu_p (U.2.2.2.1 100 13))) (show (0 : Int32).toNatClampNeg = 0 from by decide)).trans (h.gA e rfl rfl (show U.2.2.2.1 100 13 = (U.2.2.2.1 100 13) from rfl))).trans ((congrArg (fun z => z.2 0) (show U.2.2.1 100 13 = (U.2.2.1 100 13) from rfl)).trans (hit 0 (by omega)).1))]
  have hJ2 := (hit 0 (by omega)).2
  refine mw_go mu_g215 (k := 1) (f1 := (27, [(0, .inr (.inr (some 100))), (1, .inl (nI n)), (2, .inl (nI k))], [.inl (nI n), .inl (nI (it 0)), .inr (.inr (some 100))], H)) (C := []) rfl trivial ?_
  refine mw_cIe (fun _ => rfl) (show mu_is H (some 100) 5 from (h.1.1.is rfl)) (mc_cell (d := d) (s := it 0) (k := n) h e hx (by omega) (by omega)) ?_
  rw [hv]
  refine mw_go mu_g215 (k := 2) (f1 := (32, [(3, .inl (-1 : Int32)), (0, .inr (.inr (some 100))), (1, .inl (nI n)), (2, .inl (nI k))], [.inl (-1 : Int32)], H)) (C := []) rfl trivial ?_
  refine mw_if (P := (-1 : Int32) < 0) (a := 35) (b := 39) (fun _ => rfl) trivial (fun h4 => ?_) (fun h4 => absurd (by decide) h4)
  refine mw_go mu_g215 (k := 2) (f1 := (62, [(3, .inl (-1 : Int32)), (0, .inr (.inr (some 100))), (1, .inl (nI n)), (2, .inl (nI k))], [.inl (0 : Int32)], H)) (C := []) rfl trivial ?_
  exact mw_of (fun _ => mu_ret rfl trivial ⟨(0 : Int32), H, rfl, rfl, rfl⟩)
theorem mc_choiceC (h : um m H) (e : ud m H = U) (hs : mst U A W l t it) (hO : U.2.1 100 7 = nI O) (hcp : U.2.1 100 5 = nI cp) (hn : n < l) (hc0 : 1 ≤ cp) (hc2 : cp < 2147483648) (h1 : 1 ≤ t) (hv : cvl U W (it 0) n = nI c) (hc : c < sc) (hsc : sc < (U.2.2.1 100 15).1) (hsl : (U.2.2.1 100 15).1 ≤ 16777216) (hfs : ∀ k, k ≤ sc → (U.2.2.1 100 15).2 k = nI (fs k)) (hmn : fs c ≤ fs (c + 1)) (hfb : fs (c + 1) ≤ 16777216) (hcO : cp ≤ O) (hkA : O - cp + fs c + k < A) (hA : A ≤ 16777216) : mu_TI (mu_D (d + 2)) 215 [.inr (.inr (some 100)), .inl (nI n), .inl (nI k)] H (fun x H1 => x = cvl U W (O - cp + fs c + k) n ∧ H1 = H) := by
  obtain ⟨hx, ht, ht13, c13, hit⟩ := hs
  have hx0 := hx
  obtain ⟨hW, hl, hl1, hlW, hW2, hA8, c8, hA12, c12⟩ := hx0
  refine mu_meth (M := mu_m215) rfl rfl ?_
  refine mw_ht (mu_fn_of (show [0, 1, 2].Nodup by decide)) ?_
  refine mw_go mu_g215 (k := 2) (f1 := (4, [(0, .inr (.inr (some 100))), (1, .inl (nI n)), (2, .inl (nI k))], [.inl (mu_i H 100 5)], H)) (C := [mu_is H (some 100) 5]) rfl (show mu_is H (some 100) 5 from (h.1.1.is rfl)) ?_
  rw [(show mu_i H 100 5 = (nI cp) from (ud_i (U := U) (m := m) (P := 100) (j := 5) e rfl).trans hcp)]
  refine mw_if (P := (nI cp) = 0) (a := 7) (b := 19) (fun _ => rfl) trivial (fun h1 => absurd h1 (fun y => absurd ((nI_eq (b := 0) (by omega) (by decide)).mp (show nI cp = nI 0 from y)) (by omega))) (fun h1 => ?_)
  refine mw_go mu_g215 (k := 3) (f1 := (24, [(0, .inr (.inr (some 100))), (1, .inl (nI n)), (2, .inl (nI k))], [.inr (.inr (mu_r H 100 13)), .inr (.inr (some 100))], H)) (C := [mu_is H (some 100) 5]) rfl (show mu_is H (some 100) 5 from (h.1.1.is rfl)) ?_
  rw [(show mu_r H 100 13 = (U.2.2.2.1 100 13) from (ud_q (U := U) (m := m) (P := 100) (j := 13) e rfl))]
  refine mw_go mu_g215 (k := 2) (f1 := (26, [(0, .inr (.inr (some 100))), (1, .inl (nI n)), (2, .inl (nI k))], [.inl (mu_i H (mu_p (U.2.2.2.1 100 13)) (0 : Int32).toNatClampNeg), .inr (.inr (some 100))], H)) (C := [mu_isr H (U.2.2.2.1 100 13) 100, vp_in (0 : Int32) (mu_n H (mu_p (U.2.2.2.1 100 13)))]) rfl (show (mu_isr H (U.2.2.2.1 100 13) 100) ∧ (vp_in (0 : Int32) (mu_n H (mu_p (U.2.2.2.1 100 13)))) from ⟨((h.iA e rfl rfl (show U.2.2.2.1 100 13 = (U.2.2.2.1 100 13) from rfl))).r, (h.vA (i := 0) e rfl rfl (show U.2.2.2.1 100 13 = (U.2.2.2.1 100 13) from rfl) (show (U.2.2.1 100 13).1 = (U.2.2.1 100 13).1 from rfl) (by omega) (by omega))⟩) ?_
  rw [(show (mu_i H (mu_p (U.2.2.2.1 100 13)) (0 : Int32).toNatClampNeg) = (nI (it 0)) from ((congrArg (mu_i H (mu_p (U.2.2.2.1 100 13))) (show (0 : Int32).toNatClampNeg = 0 from by decide)).trans (h.gA e rfl rfl (show U.2.2.2.1 100 13 = (U.2.2.2.1 100 13) from rfl))).trans ((congrArg (fun z => z.2 0) (show U.2.2.1 100 13 = (U.2.2.1 100 13) from rfl)).trans (hit 0 (by omega)).1))]
  have hJ2 := (hit 0 (by omega)).2
  refine mw_go mu_g215 (k := 1) (f1 := (27, [(0, .inr (.inr (some 100))), (1, .inl (nI n)), (2, .inl (nI k))], [.inl (nI n), .inl (nI (it 0)), .inr (.inr (some 100))], H)) (C := []) rfl trivial ?_
  refine mw_cIe (fun _ => rfl) (show mu_is H (some 100) 5 from (h.1.1.is rfl)) (mc_cell (d := d) (s := it 0) (k := n) h e hx (by omega) (by omega)) ?_
  rw [hv]
  refine mw_go mu_g215 (k := 2) (f1 := (32, [(3, .inl (nI c)), (0, .inr (.inr (some 100))), (1, .inl (nI n)), (2, .inl (nI k))], [.inl (nI c)], H)) (C := []) rfl trivial ?_
  refine mw_if (P := (nI c) < 0) (a := 35) (b := 39) (fun _ => rfl) trivial (fun h4 => absurd h4 (nI_pos (by omega))) (fun h4 => ?_)
  refine mw_go mu_g215 (k := 3) (f1 := (44, [(3, .inl (nI c)), (0, .inr (.inr (some 100))), (1, .inl (nI n)), (2, .inl (nI k))], [.inl (mu_i H 100 7), .inr (.inr (some 100))], H)) (C := [mu_is H (some 100) 5]) rfl (show mu_is H (some 100) 5 from (h.1.1.is rfl)) ?_
  rw [(show mu_i H 100 7 = (nI O) from (ud_i (U := U) (m := m) (P := 100) (j := 7) e rfl).trans hO)]
  refine mw_go mu_g215 (k := 2) (f1 := (48, [(3, .inl (nI c)), (0, .inr (.inr (some 100))), (1, .inl (nI n)), (2, .inl (nI k))], [.inl (mu_i H 100 5), .inl (nI O), .inr (.inr (some 100))], H)) (C := [mu_is H (some 100) 5]) rfl (show mu_is H (some 100) 5 from (h.1.1.is rfl)) ?_
  rw [(show mu_i H 100 5 = (nI cp) from (ud_i (U := U) (m := m) (P := 100) (j := 5) e rfl).trans hcp)]
  refine mw_go mu_g215 (k := 1) (f1 := (49, [(3, .inl (nI c)), (0, .inr (.inr (some 100))), (1, .inl (nI n)), (2, .inl (nI k))], [.inl ((nI O) - (nI cp)), .inr (.inr (some 100))], H)) (C := []) rfl trivial ?_
  rw [(show ((nI O) - (nI cp)) = (nI (O - cp)) from (nI_sub (a := O) (b := cp) (by omega)))]
  refine mw_go mu_g215 (k := 2) (f1 := (53, [(3, .inl (nI c)), (0, .inr (.inr (some 100))), (1, .inl (nI n)), (2, .inl (nI k))], [.inr (.inr (mu_r H 100 15)), .inl (nI (O - cp)), .inr (.inr (some 100))], H)) (C := [mu_is H (some 100) 5]) rfl (show mu_is H (some 100) 5 from (h.1.1.is rfl)) ?_
  rw [(show mu_r H 100 15 = (U.2.2.2.1 100 15) from (ud_q (U := U) (m := m) (P := 100) (j := 15) e rfl))]
  refine mw_go mu_g215 (k := 2) (f1 := (55, [(3, .inl (nI c)), (0, .inr (.inr (some 100))), (1, .inl (nI n)), (2, .inl (nI k))], [.inl (mu_i H (mu_p (U.2.2.2.1 100 15)) (nI c).toNatClampNeg), .inl (nI (O - cp)), .inr (.inr (some 100))], H)) (C := [mu_isr H (U.2.2.2.1 100 15) 100, vp_in (nI c) (mu_n H (mu_p (U.2.2.2.1 100 15)))]) rfl (show (mu_isr H (U.2.2.2.1 100 15) 100) ∧ (vp_in (nI c) (mu_n H (mu_p (U.2.2.2.1 100 15)))) from ⟨((h.iA e rfl rfl (show U.2.2.2.1 100 15 = (U.2.2.2.1 100 15) from rfl))).r, (h.vA (i := c) e rfl rfl (show U.2.2.2.1 100 15 = (U.2.2.2.1 100 15) from rfl) (show (U.2.2.1 100 15).1 = (U.2.2.1 100 15).1 from rfl) (by omega) (by omega))⟩) ?_
  rw [(show (mu_i H (mu_p (U.2.2.2.1 100 15)) (nI c).toNatClampNeg) = (nI (fs c)) from ((congrArg (mu_i H (mu_p (U.2.2.2.1 100 15))) (show (nI c).toNatClampNeg = c from nI_clamp (by omega))).trans (h.gA e rfl rfl (show U.2.2.2.1 100 15 = (U.2.2.2.1 100 15) from rfl))).trans ((congrArg (fun z => z.2 c) (show U.2.2.1 100 15 = (U.2.2.1 100 15) from rfl)).trans (hfs c (by omega))))]
  refine mw_go mu_g215 (k := 1) (f1 := (56, [(3, .inl (nI c)), (0, .inr (.inr (some 100))), (1, .inl (nI n)), (2, .inl (nI k))], [.inl ((nI (O - cp)) + (nI (fs c))), .inr (.inr (some 100))], H)) (C := []) rfl trivial ?_
  rw [(show ((nI (O - cp)) + (nI (fs c))) = (nI ((O - cp) + (fs c))) from (nI_add (O - cp) (fs c)))]
  refine mw_go mu_g215 (k := 2) (f1 := (58, [(3, .inl (nI c)), (0, .inr (.inr (some 100))), (1, .inl (nI n)), (2, .inl (nI k))], [.inl ((nI ((O - cp) + (fs c))) + (nI k)), .inr (.inr (some 100))], H)) (C := []) rfl trivial ?_
  rw [(show ((nI ((O - cp) + (fs c))) + (nI k)) = (nI (((O - cp) + (fs c)) + k)) from (nI_add ((O - cp) + (fs c)) k))]
  refine mw_go mu_g215 (k := 1) (f1 := (59, [(3, .inl (nI c)), (0, .inr (.inr (some 100))), (1, .inl (nI n)), (2, .inl (nI k))], [.inl (nI n), .inl (nI (((O - cp) + (fs c)) + k)), .inr (.inr (some 100))], H)) (C := []) rfl trivial ?_
  refine mw_cIe (fun _ => rfl) (show mu_is H (some 100) 5 from (h.1.1.is rfl)) (mc_cell (d := d) (s := ((O - cp) + (fs c)) + k) (k := n) h e hx (by omega) (by omega)) ?_
  exact mw_of (fun _ => mu_ret rfl trivial ⟨(cvl U W (((O - cp) + (fs c)) + k) n), H, rfl, rfl, rfl⟩)
/-- PathProver$Machine.digitAt(II)I -/
abbrev mu_m210 : ev_M := (4, (some .int), [], ev_b210)
theorem mu_g210 : mu_good mu_m210 := mu_goodk ev_k210
theorem mc_digitAt (h : um m H) (e : ud m H = U) (hS : spx m U P fz2) (hat : U.2.1 100 19 = nI at0) (hwt : (U.1 22).2 k 1 = nI wt) (hw2 : wt < 2147483648) (hk : k % 14 < P) (hk28 : k < 28) (hs : at0 + n < 2147483648) (hfb : fz2 (k % 14) < 2147483648) : mu_TI (mu_D (d + 2)) 210 [.inr (.inr (some 100)), .inl (nI k), .inl (nI n)] H (fun x H1 => x = nI ((at0 + n) / max 1 wt % max 1 (fz2 (k % 14))) ∧ H1 = H) := by
  obtain ⟨⟨s4, s10, s11, s12⟩, hk5, ⟨g8, g8b, g18, g18b⟩, ⟨gP, gpd, gsm⟩, hsp, hmo⟩ := hS
  have hdv : (at0 + n) / max 1 wt ≤ at0 + n := Nat.div_le_self _ _
  refine mu_meth (M := mu_m210) rfl rfl ?_
  refine mw_ht (mu_fn_of (show [0, 1, 2].Nodup by decide)) ?_
  refine mw_go mu_g210 (k := 3) (f1 := (5, [(0, .inr (.inr (some 100))), (1, .inl (nI k)), (2, .inl (nI n))], [.inr (.inr (mu_r H 100 2)), .inl (1 : Int32)], H)) (C := [mu_is H (some 100) 5]) rfl (show mu_is H (some 100) 5 from (h.1.1.is rfl)) ?_
  rw [(h.1.1.r (p := 100) (j := 2) (q := 103) rfl)]
  refine mw_go mu_g210 (k := 2) (f1 := (7, [(0, .inr (.inr (some 100))), (1, .inl (nI k)), (2, .inl (nI n))], [.inl (1 : Int32), .inl (nI k), .inr (.inr (some 103)), .inl (1 : Int32)], H)) (C := []) rfl trivial ?_
  refine mw_cIe (fun _ => rfl) (show mu_is H (some 103) 10 from (h.1.1.is rfl)) (h.getr (d := d) e (j := 22) (by decide) rfl (nI k) (c := 1) (by decide)) ?_
  rw [show (tget (U.1 22) (nI k) 1) = (nI wt) from ((congrArg (fun z => tget z (nI k) 1) (show U.1 22 = (U.1 22) from rfl)).trans (tget_nI (by omega))).trans hwt]
  refine mw_cIe (fun _ => rfl) trivial (mu_max_ok (d := d) (1 : Int32) (nI wt)) ?_
  rw [show (mu_max (1 : Int32) (nI wt)) = nI (max 1 wt) from mu_max_n (a := 1) (b := wt) (by omega) (by omega)]
  refine mw_go mu_g210 (k := 3) (f1 := (18, [(3, .inl (nI (max 1 wt))), (0, .inr (.inr (some 100))), (1, .inl (nI k)), (2, .inl (nI n))], [.inl (mu_i H 100 19)], H)) (C := [mu_is H (some 100) 5]) rfl (show mu_is H (some 100) 5 from (h.1.1.is rfl)) ?_
  rw [(show mu_i H 100 19 = (nI at0) from (ud_i (U := U) (m := m) (P := 100) (j := 19) e rfl).trans hat)]
  refine mw_go mu_g210 (k := 2) (f1 := (20, [(3, .inl (nI (max 1 wt))), (0, .inr (.inr (some 100))), (1, .inl (nI k)), (2, .inl (nI n))], [.inl ((nI at0) + (nI n))], H)) (C := []) rfl trivial ?_
  rw [(show ((nI at0) + (nI n)) = (nI (at0 + n)) from (nI_add at0 n))]
  refine mw_go mu_g210 (k := 2) (f1 := (22, [(3, .inl (nI (max 1 wt))), (0, .inr (.inr (some 100))), (1, .inl (nI k)), (2, .inl (nI n))], [.inl ((nI (at0 + n)) / (nI (max 1 wt)))], H)) (C := [¬ (nI (max 1 wt)) = 0]) rfl (show ¬ (nI (max 1 wt)) = 0 from (nI_ne0 (by omega) (by omega))) ?_
  rw [(show ((nI (at0 + n)) / (nI (max 1 wt))) = (nI ((at0 + n) / (max 1 wt))) from (nI_div (a := at0 + n) (b := max 1 wt) (by omega) (by omega)))]
  refine mw_go mu_g210 (k := 3) (f1 := (27, [(3, .inl (nI (max 1 wt))), (0, .inr (.inr (some 100))), (1, .inl (nI k)), (2, .inl (nI n))], [.inr (.inr (mu_r H 100 0)), .inl (1 : Int32), .inl (nI ((at0 + n) / (max 1 wt)))], H)) (C := [mu_is H (some 100) 5]) rfl (show mu_is H (some 100) 5 from (h.1.1.is rfl)) ?_
  rw [(show mu_r H 100 0 = (some 99) from (ud_q (U := U) (m := m) (P := 100) (j := 0) e rfl).trans hsp)]
  refine mw_go mu_g210 (k := 1) (f1 := (30, [(3, .inl (nI (max 1 wt))), (0, .inr (.inr (some 100))), (1, .inl (nI k)), (2, .inl (nI n))], [.inr (.inr (mu_r H 99 5)), .inl (1 : Int32), .inl (nI ((at0 + n) / (max 1 wt)))], H)) (C := [mu_is H (some 99) 13]) rfl (show mu_is H (some 99) 13 from (h.1.1.is rfl)) ?_
  rw [(h.1.1.r (p := 99) (j := 5) (q := 120) rfl)]
  refine mw_go mu_g210 (k := 3) (f1 := (34, [(3, .inl (nI (max 1 wt))), (0, .inr (.inr (some 100))), (1, .inl (nI k)), (2, .inl (nI n))], [.inl ((nI k) - (nI k) / (14 : Int32) * (14 : Int32)), .inr (.inr (some 120)), .inl (1 : Int32), .inl (nI ((at0 + n) / (max 1 wt)))], H)) (C := [¬ (14 : Int32) = 0]) rfl (show ¬ (14 : Int32) = 0 from (by decide)) ?_
  rw [(show ((nI k) - (nI k) / (14 : Int32) * (14 : Int32)) = (nI (k % 14)) from (nI_mod (a := k) (b := 14) (by omega) (by omega)))]
  refine mw_go mu_g210 (k := 1) (f1 := (35, [(3, .inl (nI (max 1 wt))), (0, .inr (.inr (some 100))), (1, .inl (nI k)), (2, .inl (nI n))], [.inl (mu_i H 120 (nI (k % 14)).toNatClampNeg), .inl (1 : Int32), .inl (nI ((at0 + n) / (max 1 wt)))], H)) (C := [mu_isr H (some 120) 100, vp_in (nI (k % 14)) (mu_n H 120)]) rfl (show (mu_isr H (some 120) 100) ∧ (vp_in (nI (k % 14)) (mu_n H 120)) from ⟨((h.iA e rfl rfl ((ud_q (m := m) (P := 99) (j := 5) e rfl).symm.trans (h.1.1.r (p := 99) (j := 5) (q := 120) rfl)))).r, (by rw [show mu_n H 120 = 14 from (h.1.1.a (p := 120) (x := (100, 14)) rfl).2]; exact vp_in_nI (n := k % 14) (by omega) (by decide))⟩) ?_
  rw [(show (mu_i H 120 (nI (k % 14)).toNatClampNeg) = (nI (fz2 (k % 14))) from ((congrArg (mu_i H 120) (show (nI (k % 14)).toNatClampNeg = k % 14 from nI_clamp (by omega))).trans (h.gA e rfl rfl ((ud_q (m := m) (P := 99) (j := 5) e rfl).symm.trans (h.1.1.r (p := 99) (j := 5) (q := 120) rfl)))).trans ((congrArg (fun z => z.2 (k % 14)) (show U.2.2.1 99 5 = (U.2.2.1 99 5) from rfl)).trans (hk5 (k % 14) (by omega)).1))]
  refine mw_cIe (fun _ => rfl) trivial (mu_max_ok (d := d) (1 : Int32) (nI (fz2 (k % 14)))) ?_
  rw [show (mu_max (1 : Int32) (nI (fz2 (k % 14)))) = nI (max 1 (fz2 (k % 14))) from mu_max_n (a := 1) (b := fz2 (k % 14)) (by omega) (by omega)]
  refine mw_go mu_g210 (k := 1) (f1 := (39, [(3, .inl (nI (max 1 wt))), (0, .inr (.inr (some 100))), (1, .inl (nI k)), (2, .inl (nI n))], [.inl ((nI ((at0 + n) / (max 1 wt))) - (nI ((at0 + n) / (max 1 wt))) / (nI (max 1 (fz2 (k % 14)))) * (nI (max 1 (fz2 (k % 14)))))], H)) (C := [¬ (nI (max 1 (fz2 (k % 14)))) = 0]) rfl (show ¬ (nI (max 1 (fz2 (k % 14)))) = 0 from (nI_ne0 (by omega) (by omega))) ?_
  rw [(show ((nI ((at0 + n) / (max 1 wt))) - (nI ((at0 + n) / (max 1 wt))) / (nI (max 1 (fz2 (k % 14)))) * (nI (max 1 (fz2 (k % 14))))) = (nI (((at0 + n) / (max 1 wt)) % (max 1 (fz2 (k % 14))))) from (nI_mod (a := (at0 + n) / (max 1 wt)) (b := max 1 (fz2 (k % 14))) (by omega) (by omega)))]
  exact mw_of (fun _ => mu_ret rfl trivial ⟨(nI (((at0 + n) / (max 1 wt)) % (max 1 (fz2 (k % 14))))), H, rfl, rfl, rfl⟩)
end Answers
