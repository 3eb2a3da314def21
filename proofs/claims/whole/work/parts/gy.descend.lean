/-! GRAPH: on to what is unseen in a row -/
section Descend
variable {H : mu_H} {U V : Ud} {m d T R wn bf bt r cr t : Nat} {C : Nat → Nat} {rx mb me : Nat → Nat}
theorem nx_alt {H H1 : mu_H} {x : Int32} {fr : Nat} (h : H1 = H ∧ ((x = -1 ∧ ∀ t, fr ≤ t → t < 16384 → ¬ BUN U t = true) ∨ ∃ t, x = nI t ∧ fr ≤ t ∧ t < 16384 ∧ BUN U t = true ∧ ∀ i, fr ≤ i → i < t → ¬ BUN U i = true)) : (x = -1 ∧ (∀ t, fr ≤ t → t < 16384 → ¬ BUN U t = true) ∧ H = H1) ∨ ∃ t, x = nI t ∧ fr ≤ t ∧ t < 16384 ∧ BUN U t = true ∧ (∀ i, fr ≤ i → i < t → ¬ BUN U i = true) ∧ H = H1 := by
  obtain ⟨h0, h⟩ := h
  rcases h with ⟨h1, h2⟩ | ⟨t, h1, h2, h3, h4, h5⟩
  · exact Or.inl ⟨h1, h2, h0.symm⟩
  · exact Or.inr ⟨t, h1, h2, h3, h4, h5, h0.symm⟩
theorem bun_un (h : BUN U t = true) : bts (U.2.2.2.2.1 146) t = true := by
  unfold BUN at h
  rw [Bool.and_eq_true] at h
  exact h.1

/-- PathProver$Graph.descend(I)V -/
abbrev mu_m326 : ev_M := (4, none, [], ev_b326)
theorem mu_g326 : mu_good mu_m326 := mu_goodk ev_k326
theorem gr_descend (h : um m H) (e : ud m H = U) (hG : GRB U T R wn rx mb me) (hz : BZ U bf bt) (hr : r < R) (hcr : (U.2.2.1 147 10).2 (r * 7 + 3) = nI cr) (hcrT : cr ≤ T) (hT146 : ∀ s, s < 16384 → bts (U.2.2.2.2.1 146) s = true → s < T) : mu_TV (mu_D (d + 4)) 326 [.inr (.inr (some 147)), .inl (nI r)] H (fun H1 => um m H1 ∧ ur m C H H1 ∧ (((∀ t, cr ≤ t → t < 16384 → ¬ BUN U t = true) ∧ ud m H1 = upI (upA U 147 10 (r * 7 + 3) (nI T)) 147 14 (5 : Int32)) ∨ ∃ t, t < T ∧ cr ≤ t ∧ BUN U t = true ∧ (∀ i, cr ≤ i → i < t → ¬ BUN U i = true) ∧ ∃ c2, c2 ≤ T ∧ (∀ i, t + 1 ≤ i → i < 16384 → BUN U i = true → c2 ≤ i) ∧ ud m H1 = upI (upI (upA U 147 10 (r * 7 + 3) (nI c2)) 147 14 (2 : Int32)) 147 15 (nI (rx t)))) := by
  obtain ⟨⟨⟨hg12, hg11⟩, hgwn, hTb⟩, ⟨⟨g6a, g6b⟩, hrx⟩, ⟨hRT, g10a, g10b⟩, ⟨g11a, g11b⟩, ⟨g12a, g12b⟩, ⟨g13a, g13b⟩, hmb, hme, hmp1, hmp2, hmp3, hmp4⟩ := id hG
  refine mu_meth (M := mu_m326) rfl rfl ?_
  refine mw_ht (mu_fn_of (show [0, 1].Nodup by decide)) ?_
  refine mw_go mu_g326 (k := 4) (f1 := (4, [(0, .inr (.inr (some 147))), (1, .inl (nI r))], [.inl (3 : Int32), .inl (nI r), .inr (.inr (some 147)), .inr (.inr (some 147))], H)) (C := []) rfl trivial ?_
  refine mw_cIe (fun _ => rfl) (show mu_is H (some 147) 2 from (h.1.1.is rfl)) (gr_node (d := (d + 2)) (r := r) (c := 3) h e (by omega) (by omega)) ?_
  rw [show (U.2.2.1 147 10).2 (r * 7 + 3) = nI cr from hcr]
  refine mw_cI (fun _ => rfl) (show mu_is H (some 147) 2 from (h.1.1.is rfl)) ((gr_next (d := d) (fr := cr) (bf := bf) (bt := bt) h e hz (by omega)).imp (fun x H1 z => nx_alt z)) (fun x2 H2 q2 => ?_)
  rcases q2 with ⟨rfl, hno2, rfl⟩ | ⟨t, rfl, hx2, hy2, hb2, hc2, rfl⟩
  · -- (-1 : Int32)
    have hlast : ∀ i, cr ≤ i → i < 16384 → ¬ BUN U i = true := hno2
    refine mw_go mu_g326 (k := 2) (f1 := (12, [(2, .inl (-1 : Int32)), (0, .inr (.inr (some 147))), (1, .inl (nI r))], [.inl (-1 : Int32)], H)) (C := []) rfl trivial ?_
    refine mw_if (P := (-1 : Int32) < 0) (a := 15) (b := 34) (fun _ => rfl) trivial (fun h3 => ?_) (fun h3 => absurd (by decide) h3)
    refine mw_go mu_g326 (k := 5) (f1 := (22, [(2, .inl (-1 : Int32)), (0, .inr (.inr (some 147))), (1, .inl (nI r))], [.inr (.inr (mu_r H 147 0)), .inl (3 : Int32), .inl (nI r), .inr (.inr (some 147))], H)) (C := [mu_is H (some 147) 2]) rfl (show mu_is H (some 147) 2 from (h.1.1.is rfl)) ?_
    rw [(h.1.1.r (p := 147) (j := 0) (q := 99) rfl)]
    refine mw_go mu_g326 (k := 1) (f1 := (25, [(2, .inl (-1 : Int32)), (0, .inr (.inr (some 147))), (1, .inl (nI r))], [.inl (mu_i H 99 11), .inl (3 : Int32), .inl (nI r), .inr (.inr (some 147))], H)) (C := [mu_is H (some 99) 13]) rfl (show mu_is H (some 99) 13 from (h.1.1.is rfl)) ?_
    rw [(show mu_i H 99 11 = (nI T) from (ud_i (U := U) (m := m) (P := 99) (j := 11) e rfl).trans hg11)]
    refine mw_cV (fun _ => rfl) (show mu_is H (some 147) 2 from (h.1.1.is rfl)) (gr_set (d := (d + 2)) (C := C) (r := r) (c := 3) (v := (nI T)) h e (by omega) (by omega)) (fun Q4 q4 => ?_)
    obtain ⟨u4, r4, d4⟩ := q4
    have ht4 : ur m C H Q4 := (ur.refl m C H).trans r4
    refine mw_go mu_g326 (k := 3) (f1 := (33, [(2, .inl (-1 : Int32)), (0, .inr (.inr (some 147))), (1, .inl (nI r))], [], (mu_si Q4 147 14 (5 : Int32)))) (C := [mu_is Q4 (some 147) 2]) rfl (show mu_is Q4 (some 147) 2 from (u4.1.1.is rfl)) ?_
    obtain ⟨u5, r5, d5⟩ : um m (mu_si Q4 147 14 (5 : Int32)) ∧ ur m C Q4 (mu_si Q4 147 14 (5 : Int32)) ∧ ud m (mu_si Q4 147 14 (5 : Int32)) = (upI (upA U 147 10 (r * 7 + 3) (nI T)) 147 14 (5 : Int32)) := u4.sI (C := C) d4 rfl
    generalize (mu_si Q4 147 14 (5 : Int32)) = Q5 at u5 r5 d5 ⊢
    have ht5 : ur m C H Q5 := ht4.trans r5
    exact mw_of (fun _ => mu_ret rfl trivial ⟨Q5, rfl, u5, ht5, Or.inl ⟨hlast, d5⟩⟩)
  · -- (nI t)
    have htT : t < T := hT146 t hy2 (bun_un hb2)
    have hbt := hb2
    have hct := hx2
    have hft := hc2
    refine mw_go mu_g326 (k := 2) (f1 := (12, [(2, .inl (nI t)), (0, .inr (.inr (some 147))), (1, .inl (nI r))], [.inl (nI t)], H)) (C := []) rfl trivial ?_
    refine mw_if (P := (nI t) < 0) (a := 15) (b := 34) (fun _ => rfl) trivial (fun h6 => absurd h6 (show ¬ (nI t) < 0 from nI_pos (by omega))) (fun h6 => ?_)
    refine mw_go mu_g326 (k := 4) (f1 := (38, [(2, .inl (nI t)), (0, .inr (.inr (some 147))), (1, .inl (nI r))], [.inl ((nI t) + (1 : Int32)), .inr (.inr (some 147))], H)) (C := []) rfl trivial ?_
    rw [(show ((nI t) + (1 : Int32)) = (nI (t + 1)) from (nI_add t 1))]
    refine mw_cI (fun _ => rfl) (show mu_is H (some 147) 2 from (h.1.1.is rfl)) ((gr_next (d := d) (fr := t + 1) (bf := bf) (bt := bt) h e hz (by omega)).imp (fun x H1 z => nx_alt z)) (fun x7 H7 q7 => ?_)
    rcases q7 with ⟨rfl, hno7, rfl⟩ | ⟨t2, rfl, hx7, hy7, hb7, hc7, rfl⟩
    · -- (-1 : Int32)
      have hlast : ∀ i, t + 1 ≤ i → i < 16384 → ¬ BUN U i = true := hno7
      refine mw_go mu_g326 (k := 5) (f1 := (46, [(3, .inl (-1 : Int32)), (2, .inl (nI t)), (0, .inr (.inr (some 147))), (1, .inl (nI r))], [.inl (-1 : Int32), .inl (3 : Int32), .inl (nI r), .inr (.inr (some 147))], H)) (C := []) rfl trivial ?_
      refine mw_if (P := (-1 : Int32) < 0) (a := 49) (b := 59) (fun _ => rfl) trivial (fun h8 => ?_) (fun h8 => absurd (by decide) h8)
      refine mw_go mu_g326 (k := 2) (f1 := (53, [(3, .inl (-1 : Int32)), (2, .inl (nI t)), (0, .inr (.inr (some 147))), (1, .inl (nI r))], [.inr (.inr (mu_r H 147 0)), .inl (3 : Int32), .inl (nI r), .inr (.inr (some 147))], H)) (C := [mu_is H (some 147) 2]) rfl (show mu_is H (some 147) 2 from (h.1.1.is rfl)) ?_
      rw [(h.1.1.r (p := 147) (j := 0) (q := 99) rfl)]
      refine mw_go mu_g326 (k := 1) (f1 := (56, [(3, .inl (-1 : Int32)), (2, .inl (nI t)), (0, .inr (.inr (some 147))), (1, .inl (nI r))], [.inl (mu_i H 99 11), .inl (3 : Int32), .inl (nI r), .inr (.inr (some 147))], H)) (C := [mu_is H (some 99) 13]) rfl (show mu_is H (some 99) 13 from (h.1.1.is rfl)) ?_
      rw [(show mu_i H 99 11 = (nI T) from (ud_i (U := U) (m := m) (P := 99) (j := 11) e rfl).trans hg11)]
      refine mw_go mu_g326 (k := 1) (f1 := (60, [(3, .inl (-1 : Int32)), (2, .inl (nI t)), (0, .inr (.inr (some 147))), (1, .inl (nI r))], [.inl (nI T), .inl (3 : Int32), .inl (nI r), .inr (.inr (some 147))], H)) (C := []) rfl trivial ?_
      refine mw_cV (fun _ => rfl) (show mu_is H (some 147) 2 from (h.1.1.is rfl)) (gr_set (d := (d + 2)) (C := C) (r := r) (c := 3) (v := (nI T)) h e (by omega) (by omega)) (fun Q9 q9 => ?_)
      obtain ⟨u9, r9, d9⟩ := q9
      have ht9 : ur m C H Q9 := (ur.refl m C H).trans r9
      refine mw_go mu_g326 (k := 3) (f1 := (68, [(3, .inl (-1 : Int32)), (2, .inl (nI t)), (0, .inr (.inr (some 147))), (1, .inl (nI r))], [], (mu_si Q9 147 14 (2 : Int32)))) (C := [mu_is Q9 (some 147) 2]) rfl (show mu_is Q9 (some 147) 2 from (u9.1.1.is rfl)) ?_
      obtain ⟨u10, r10, d10⟩ : um m (mu_si Q9 147 14 (2 : Int32)) ∧ ur m C Q9 (mu_si Q9 147 14 (2 : Int32)) ∧ ud m (mu_si Q9 147 14 (2 : Int32)) = (upI (upA U 147 10 (r * 7 + 3) (nI T)) 147 14 (2 : Int32)) := u9.sI (C := C) d9 rfl
      generalize (mu_si Q9 147 14 (2 : Int32)) = Q10 at u10 r10 d10 ⊢
      have ht10 : ur m C H Q10 := ht9.trans r10
      refine mw_go mu_g326 (k := 3) (f1 := (73, [(3, .inl (-1 : Int32)), (2, .inl (nI t)), (0, .inr (.inr (some 147))), (1, .inl (nI r))], [.inr (.inr (mu_r Q10 147 1)), .inr (.inr (some 147))], Q10)) (C := [mu_is Q10 (some 147) 2]) rfl (show mu_is Q10 (some 147) 2 from (u10.1.1.is rfl)) ?_
      rw [(u10.1.1.r (p := 147) (j := 1) (q := 129) rfl)]
      refine mw_go mu_g326 (k := 1) (f1 := (76, [(3, .inl (-1 : Int32)), (2, .inl (nI t)), (0, .inr (.inr (some 147))), (1, .inl (nI r))], [.inr (.inr (mu_r Q10 129 6)), .inr (.inr (some 147))], Q10)) (C := [mu_is Q10 (some 129) 9]) rfl (show mu_is Q10 (some 129) 9 from (u10.1.1.is rfl)) ?_
      rw [(show mu_r Q10 129 6 = (U.2.2.2.1 129 6) from (ud_q (U := (upI (upA U 147 10 (r * 7 + 3) (nI T)) 147 14 (2 : Int32))) (m := m) (P := 129) (j := 6) d10 rfl))]
      refine mw_go mu_g326 (k := 2) (f1 := (78, [(3, .inl (-1 : Int32)), (2, .inl (nI t)), (0, .inr (.inr (some 147))), (1, .inl (nI r))], [.inl (mu_i Q10 (mu_p (U.2.2.2.1 129 6)) (nI t).toNatClampNeg), .inr (.inr (some 147))], Q10)) (C := [mu_isr Q10 (U.2.2.2.1 129 6) 100, vp_in (nI t) (mu_n Q10 (mu_p (U.2.2.2.1 129 6)))]) rfl (show (mu_isr Q10 (U.2.2.2.1 129 6) 100) ∧ (vp_in (nI t) (mu_n Q10 (mu_p (U.2.2.2.1 129 6)))) from ⟨((u10.iA d10 rfl rfl (show (upI (upA U 147 10 (r * 7 + 3) (nI T)) 147 14 (2 : Int32)).2.2.2.1 129 6 = (U.2.2.2.1 129 6) from rfl))).r, (u10.vA (i := t) d10 rfl rfl (show (upI (upA U 147 10 (r * 7 + 3) (nI T)) 147 14 (2 : Int32)).2.2.2.1 129 6 = (U.2.2.2.1 129 6) from rfl) (show ((upI (upA U 147 10 (r * 7 + 3) (nI T)) 147 14 (2 : Int32)).2.2.1 129 6).1 = (U.2.2.1 129 6).1 from rfl) (by omega) (by omega))⟩) ?_
      rw [(show (mu_i Q10 (mu_p (U.2.2.2.1 129 6)) (nI t).toNatClampNeg) = (nI (rx t)) from ((congrArg (mu_i Q10 (mu_p (U.2.2.2.1 129 6))) (show (nI t).toNatClampNeg = t from nI_clamp (by omega))).trans (u10.gA d10 rfl rfl (show (upI (upA U 147 10 (r * 7 + 3) (nI T)) 147 14 (2 : Int32)).2.2.2.1 129 6 = (U.2.2.2.1 129 6) from rfl))).trans ((congrArg (fun z => z.2 t) (show (upI (upA U 147 10 (r * 7 + 3) (nI T)) 147 14 (2 : Int32)).2.2.1 129 6 = (U.2.2.1 129 6) from rfl)).trans (hrx t htT).1))]
      refine mw_go mu_g326 (k := 1) (f1 := (81, [(3, .inl (-1 : Int32)), (2, .inl (nI t)), (0, .inr (.inr (some 147))), (1, .inl (nI r))], [], (mu_si Q10 147 15 (nI (rx t))))) (C := [mu_is Q10 (some 147) 2]) rfl (show mu_is Q10 (some 147) 2 from (u10.1.1.is rfl)) ?_
      obtain ⟨u11, r11, d11⟩ : um m (mu_si Q10 147 15 (nI (rx t))) ∧ ur m C Q10 (mu_si Q10 147 15 (nI (rx t))) ∧ ud m (mu_si Q10 147 15 (nI (rx t))) = (upI (upI (upA U 147 10 (r * 7 + 3) (nI T)) 147 14 (2 : Int32)) 147 15 (nI (rx t))) := u10.sI (C := C) d10 rfl
      generalize (mu_si Q10 147 15 (nI (rx t))) = Q11 at u11 r11 d11 ⊢
      have ht11 : ur m C H Q11 := ht10.trans r11
      exact mw_of (fun _ => mu_ret rfl trivial ⟨Q11, rfl, u11, ht11, Or.inr ⟨t, htT, hct, hbt, hft, T, Nat.le_refl _, (fun i i1 i2 y => absurd y (hlast i i1 i2)), d11⟩⟩)
    · -- (nI t2)
      have htT2 : t2 < T := hT146 t2 hy7 (bun_un hb7)
      have hlt2 : ∀ i, t + 1 ≤ i → i < 16384 → BUN U i = true → t2 ≤ i := fun i i1 i2 y => Nat.le_of_not_lt (fun z => hc7 i i1 z y)
      refine mw_go mu_g326 (k := 5) (f1 := (46, [(3, .inl (nI t2)), (2, .inl (nI t)), (0, .inr (.inr (some 147))), (1, .inl (nI r))], [.inl (nI t2), .inl (3 : Int32), .inl (nI r), .inr (.inr (some 147))], H)) (C := []) rfl trivial ?_
      refine mw_if (P := (nI t2) < 0) (a := 49) (b := 59) (fun _ => rfl) trivial (fun h12 => absurd h12 (show ¬ (nI t2) < 0 from nI_pos (by omega))) (fun h12 => ?_)
      refine mw_go mu_g326 (k := 1) (f1 := (60, [(3, .inl (nI t2)), (2, .inl (nI t)), (0, .inr (.inr (some 147))), (1, .inl (nI r))], [.inl (nI t2), .inl (3 : Int32), .inl (nI r), .inr (.inr (some 147))], H)) (C := []) rfl trivial ?_
      refine mw_cV (fun _ => rfl) (show mu_is H (some 147) 2 from (h.1.1.is rfl)) (gr_set (d := (d + 2)) (C := C) (r := r) (c := 3) (v := (nI t2)) h e (by omega) (by omega)) (fun Q13 q13 => ?_)
      obtain ⟨u13, r13, d13⟩ := q13
      have ht13 : ur m C H Q13 := (ur.refl m C H).trans r13
      refine mw_go mu_g326 (k := 3) (f1 := (68, [(3, .inl (nI t2)), (2, .inl (nI t)), (0, .inr (.inr (some 147))), (1, .inl (nI r))], [], (mu_si Q13 147 14 (2 : Int32)))) (C := [mu_is Q13 (some 147) 2]) rfl (show mu_is Q13 (some 147) 2 from (u13.1.1.is rfl)) ?_
      obtain ⟨u14, r14, d14⟩ : um m (mu_si Q13 147 14 (2 : Int32)) ∧ ur m C Q13 (mu_si Q13 147 14 (2 : Int32)) ∧ ud m (mu_si Q13 147 14 (2 : Int32)) = (upI (upA U 147 10 (r * 7 + 3) (nI t2)) 147 14 (2 : Int32)) := u13.sI (C := C) d13 rfl
      generalize (mu_si Q13 147 14 (2 : Int32)) = Q14 at u14 r14 d14 ⊢
      have ht14 : ur m C H Q14 := ht13.trans r14
      refine mw_go mu_g326 (k := 3) (f1 := (73, [(3, .inl (nI t2)), (2, .inl (nI t)), (0, .inr (.inr (some 147))), (1, .inl (nI r))], [.inr (.inr (mu_r Q14 147 1)), .inr (.inr (some 147))], Q14)) (C := [mu_is Q14 (some 147) 2]) rfl (show mu_is Q14 (some 147) 2 from (u14.1.1.is rfl)) ?_
      rw [(u14.1.1.r (p := 147) (j := 1) (q := 129) rfl)]
      refine mw_go mu_g326 (k := 1) (f1 := (76, [(3, .inl (nI t2)), (2, .inl (nI t)), (0, .inr (.inr (some 147))), (1, .inl (nI r))], [.inr (.inr (mu_r Q14 129 6)), .inr (.inr (some 147))], Q14)) (C := [mu_is Q14 (some 129) 9]) rfl (show mu_is Q14 (some 129) 9 from (u14.1.1.is rfl)) ?_
      rw [(show mu_r Q14 129 6 = (U.2.2.2.1 129 6) from (ud_q (U := (upI (upA U 147 10 (r * 7 + 3) (nI t2)) 147 14 (2 : Int32))) (m := m) (P := 129) (j := 6) d14 rfl))]
      refine mw_go mu_g326 (k := 2) (f1 := (78, [(3, .inl (nI t2)), (2, .inl (nI t)), (0, .inr (.inr (some 147))), (1, .inl (nI r))], [.inl (mu_i Q14 (mu_p (U.2.2.2.1 129 6)) (nI t).toNatClampNeg), .inr (.inr (some 147))], Q14)) (C := [mu_isr Q14 (U.2.2.2.1 129 6) 100, vp_in (nI t) (mu_n Q14 (mu_p (U.2.2.2.1 129 6)))]) rfl (show (mu_isr Q14 (U.2.2.2.1 129 6) 100) ∧ (vp_in (nI t) (mu_n Q14 (mu_p (U.2.2.2.1 129 6)))) from ⟨((u14.iA d14 rfl rfl (show (upI (upA U 147 10 (r * 7 + 3) (nI t2)) 147 14 (2 : Int32)).2.2.2.1 129 6 = (U.2.2.2.1 129 6) from rfl))).r, (u14.vA (i := t) d14 rfl rfl (show (upI (upA U 147 10 (r * 7 + 3) (nI t2)) 147 14 (2 : Int32)).2.2.2.1 129 6 = (U.2.2.2.1 129 6) from rfl) (show ((upI (upA U 147 10 (r * 7 + 3) (nI t2)) 147 14 (2 : Int32)).2.2.1 129 6).1 = (U.2.2.1 129 6).1 from rfl) (by omega) (by omega))⟩) ?_
      rw [(show (mu_i Q14 (mu_p (U.2.2.2.1 129 6)) (nI t).toNatClampNeg) = (nI (rx t)) from ((congrArg (mu_i Q14 (mu_p (U.2.2.2.1 129 6))) (show (nI t).toNatClampNeg = t from nI_clamp (by omega))).trans (u14.gA d14 rfl rfl (show (upI (upA U 147 10 (r * 7 + 3) (nI t2)) 147 14 (2 : Int32)).2.2.2.1 129 6 = (U.2.2.2.1 129 6) from rfl))).trans ((congrArg (fun z => z.2 t) (show (upI (upA U 147 10 (r * 7 + 3) (nI t2)) 147 14 (2 : Int32)).2.2.1 129 6 = (U.2.2.1 129 6) from rfl)).trans (hrx t htT).1))]
      refine mw_go mu_g326 (k := 1) (f1 := (81, [(3, .inl (nI t2)), (2, .inl (nI t)), (0, .inr (.inr (some 147))), (1, .inl (nI r))], [], (mu_si Q14 147 15 (nI (rx t))))) (C := [mu_is Q14 (some 147) 2]) rfl (show mu_is Q14 (some 147) 2 from (u14.1.1.is rfl)) ?_
      obtain ⟨u15, r15, d15⟩ : um m (mu_si Q14 147 15 (nI (rx t))) ∧ ur m C Q14 (mu_si Q14 147 15 (nI (rx t))) ∧ ud m (mu_si Q14 147 15 (nI (rx t))) = (upI (upI (upA U 147 10 (r * 7 + 3) (nI t2)) 147 14 (2 : Int32)) 147 15 (nI (rx t))) := u14.sI (C := C) d14 rfl
      generalize (mu_si Q14 147 15 (nI (rx t))) = Q15 at u15 r15 d15 ⊢
      have ht15 : ur m C H Q15 := ht14.trans r15
      exact mw_of (fun _ => mu_ret rfl trivial ⟨Q15, rfl, u15, ht15, Or.inr ⟨t, htT, hct, hbt, hft, t2, by omega, hlt2, d15⟩⟩)
end Descend
