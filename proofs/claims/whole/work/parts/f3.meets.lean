/-! GRAPH: what a row meets; what is left of a set -/
section Meets
variable {H : mu_H} {U V : Ud} {m d bf bt s T c : Nat} {C : Nat → Nat}
theorem meet_yes {L K : Nat → Int64} {w : Nat} (h : ¬ L w &&& K w = 0) (hw : w < 256) : ∃ t, t < 16384 ∧ bts L t = true ∧ bts K t = true := by
  obtain ⟨q, q1, q2, -⟩ := low_ex h
  rw [btz_and, Bool.and_eq_true] at q2
  refine ⟨w * 64 + q, by omega, ?_, ?_⟩
  · unfold bts
    rw [show (w * 64 + q) / 64 = w by omega, show (w * 64 + q) % 64 = q by omega]
    exact q2.1
  · unfold bts
    rw [show (w * 64 + q) / 64 = w by omega, show (w * 64 + q) % 64 = q by omega]
    exact q2.2
theorem meet_no {L K : Nat → Int64} (hz : ∀ w, w < 256 → ¬ (bf ≤ w ∧ w < bt) → L w = 0) (h : ∀ w, bf ≤ w → w < bt → L w &&& K w = 0) : ¬ ∃ t, t < 16384 ∧ bts L t = true ∧ bts K t = true := by
  rintro ⟨t, t1, t2, t3⟩
  unfold bts at t2 t3
  by_cases hw : bf ≤ t / 64 ∧ t / 64 < bt
  · have y := h (t / 64) hw.1 hw.2
    have y2 : btz (L (t / 64) &&& K (t / 64)) (t % 64) = true := by rw [btz_and, t2, t3]; rfl
    rw [y, btz_0] at y2
    cases y2
  · rw [hz (t / 64) (by omega) hw, btz_0] at t2
    cases t2
/-- PathProver$Graph.rowMeets([J)Z -/
abbrev mu_m335 : ev_M := (3, (some .boolean), [], ev_b335)
theorem mu_g335 : mu_good mu_m335 := mu_goodk ev_k335
theorem gr_meets148 (h : um m H) (e : ud m H = U) (hz : BZ U bf bt) : mu_TI (mu_D (d + 1)) 335 [.inr (.inr (some 147)), .inr (.inr (some 148))] H (fun x H1 => H1 = H ∧ ((x = 0 ∧ ¬ ∃ t, t < 16384 ∧ bts (U.2.2.2.2.1 146) t = true ∧ bts (U.2.2.2.2.1 148) t = true) ∨ (x = 1 ∧ ∃ t, t < 16384 ∧ bts (U.2.2.2.2.1 146) t = true ∧ bts (U.2.2.2.2.1 148) t = true))) := by
  obtain ⟨hz1, hz2, hz3, hz4⟩ := hz.1
  refine mu_meth (M := mu_m335) rfl rfl ?_
  refine mw_ht (mu_fn_of (show [0, 1].Nodup by decide)) ?_
  refine mw_go mu_g335 (k := 2) (f1 := (4, [(0, .inr (.inr (some 147))), (1, .inr (.inr (some 148)))], [.inr (.inr (mu_r H 147 1))], H)) (C := [mu_is H (some 147) 2]) rfl (show mu_is H (some 147) 2 from (h.1.1.is rfl)) ?_
  rw [(h.1.1.r (p := 147) (j := 1) (q := 129) rfl)]
  refine mw_go mu_g335 (k := 1) (f1 := (7, [(0, .inr (.inr (some 147))), (1, .inr (.inr (some 148)))], [.inl (mu_i H 129 19)], H)) (C := [mu_is H (some 129) 9]) rfl (show mu_is H (some 129) 9 from (h.1.1.is rfl)) ?_
  rw [(show mu_i H 129 19 = (nI bf) from (ud_i (U := U) (m := m) (P := 129) (j := 19) e rfl).trans hz1)]
  refine mw_go mu_g335 (k := 1) (f1 := (8, [(2, .inl (nI bf)), (0, .inr (.inr (some 147))), (1, .inr (.inr (some 148)))], [], H)) (C := []) rfl trivial ?_
  refine mw_sub (L' := [(2, .inl (nI bf)), (0, .inr (.inr (some 147))), (1, .inr (.inr (some 148)))]) (by simp) ?_
  refine mw_down (α := Nat) (fun zs => (8, [(2, .inl (nI zs)), (0, .inr (.inr (some 147))), (1, .inr (.inr (some 148)))], [], H)) (fun zs => bt - zs) (fun zs => (bf ≤ zs ∧ zs ≤ bt) ∧ (∀ i, bf ≤ i → i < zs → U.2.2.2.2.1 146 i &&& U.2.2.2.2.1 148 i = 0)) (fun zs hza iha => ?_) bf ⟨(show bf ≤ bf ∧ bf ≤ bt from (by omega)), (show ∀ i, bf ≤ i → i < bf → U.2.2.2.2.1 146 i &&& U.2.2.2.2.1 148 i = 0 from (fun i i1 i2 => absurd i2 (by omega)))⟩
  obtain ⟨w, rfl⟩ : ∃ y, y = zs := ⟨zs, rfl⟩
  obtain ⟨hw, hno⟩ := hza
  have hw : bf ≤ w ∧ w ≤ bt := hw
  have hno : ∀ i, bf ≤ i → i < w → U.2.2.2.2.1 146 i &&& U.2.2.2.2.1 148 i = 0 := hno
  show mu_W _ _ (8, [(2, .inl (nI w)), (0, .inr (.inr (some 147))), (1, .inr (.inr (some 148)))], [], H) _
  refine mw_go mu_g335 (k := 3) (f1 := (13, [(2, .inl (nI w)), (0, .inr (.inr (some 147))), (1, .inr (.inr (some 148)))], [.inr (.inr (mu_r H 147 1)), .inl (nI w)], H)) (C := [mu_is H (some 147) 2]) rfl (show mu_is H (some 147) 2 from (h.1.1.is rfl)) ?_
  rw [(h.1.1.r (p := 147) (j := 1) (q := 129) rfl)]
  refine mw_go mu_g335 (k := 1) (f1 := (16, [(2, .inl (nI w)), (0, .inr (.inr (some 147))), (1, .inr (.inr (some 148)))], [.inl (mu_i H 129 20), .inl (nI w)], H)) (C := [mu_is H (some 129) 9]) rfl (show mu_is H (some 129) 9 from (h.1.1.is rfl)) ?_
  rw [(show mu_i H 129 20 = (nI bt) from (ud_i (U := U) (m := m) (P := 129) (j := 20) e rfl).trans hz2)]
  refine mw_if (P := (nI w) < (nI bt)) (a := 19) (b := 45) (fun _ => rfl) trivial (fun h1 => ?_) (fun h1 => ?_)
  · -- 19: (nI w) < (nI bt)
    have nh1 : w < bt := (nI_ltI (by omega) (by omega)).mp (show nI w < nI bt from h1)
    refine mw_go mu_g335 (k := 2) (f1 := (23, [(2, .inl (nI w)), (0, .inr (.inr (some 147))), (1, .inr (.inr (some 148)))], [.inr (.inr (mu_r H 147 1))], H)) (C := [mu_is H (some 147) 2]) rfl (show mu_is H (some 147) 2 from (h.1.1.is rfl)) ?_
    rw [(h.1.1.r (p := 147) (j := 1) (q := 129) rfl)]
    refine mw_go mu_g335 (k := 1) (f1 := (26, [(2, .inl (nI w)), (0, .inr (.inr (some 147))), (1, .inr (.inr (some 148)))], [.inr (.inr (mu_r H 129 18))], H)) (C := [mu_is H (some 129) 9]) rfl (show mu_is H (some 129) 9 from (h.1.1.is rfl)) ?_
    rw [(h.1.1.r (p := 129) (j := 18) (q := 146) rfl)]
    refine mw_go mu_g335 (k := 2) (f1 := (28, [(2, .inl (nI w)), (0, .inr (.inr (some 147))), (1, .inr (.inr (some 148)))], [.inr (.inl (mu_l H 146 (nI w).toNatClampNeg))], H)) (C := [mu_isr H (some 146) 102, vp_in (nI w) (mu_n H 146)]) rfl (show (mu_isr H (some 146) 102) ∧ (vp_in (nI w) (mu_n H 146)) from ⟨((h.1.1.a (p := 146) (x := (102, 256)) rfl).1).r, (by rw [show mu_n H 146 = 256 from (h.1.1.a (p := 146) (x := (102, 256)) rfl).2]; exact vp_in_nI (n := w) (by omega) (by decide))⟩) ?_
    rw [(show (mu_l H 146 (nI w).toNatClampNeg) = (U.2.2.2.2.1 146) w from (congrArg (mu_l H 146) (show (nI w).toNatClampNeg = w from nI_clamp (by omega))).trans ((ud_l (m := m) (p := 146) (i := w) e rfl).trans (congrFun (show U.2.2.2.2.1 146 = (U.2.2.2.2.1 146) from rfl) w)))]
    refine mw_go mu_g335 (k := 3) (f1 := (31, [(2, .inl (nI w)), (0, .inr (.inr (some 147))), (1, .inr (.inr (some 148)))], [.inr (.inl (mu_l H 148 (nI w).toNatClampNeg)), .inr (.inl ((U.2.2.2.2.1 146) w))], H)) (C := [mu_isr H (some 148) 102, vp_in (nI w) (mu_n H 148)]) rfl (show (mu_isr H (some 148) 102) ∧ (vp_in (nI w) (mu_n H 148)) from ⟨((h.1.1.a (p := 148) (x := (102, 256)) rfl).1).r, (by rw [show mu_n H 148 = 256 from (h.1.1.a (p := 148) (x := (102, 256)) rfl).2]; exact vp_in_nI (n := w) (by omega) (by decide))⟩) ?_
    rw [(show (mu_l H 148 (nI w).toNatClampNeg) = (U.2.2.2.2.1 148) w from (congrArg (mu_l H 148) (show (nI w).toNatClampNeg = w from nI_clamp (by omega))).trans ((ud_l (m := m) (p := 148) (i := w) e rfl).trans (congrFun (show U.2.2.2.2.1 148 = (U.2.2.2.2.1 148) from rfl) w)))]
    refine mw_go mu_g335 (k := 3) (f1 := (34, [(2, .inl (nI w)), (0, .inr (.inr (some 147))), (1, .inr (.inr (some 148)))], [.inl (lg_cmp (((U.2.2.2.2.1 146) w) &&& ((U.2.2.2.2.1 148) w)) (0 : Int64))], H)) (C := []) rfl trivial ?_
    refine mw_if (P := (lg_cmp (((U.2.2.2.2.1 146) w) &&& ((U.2.2.2.2.1 148) w)) (0 : Int64)) = 0) (a := 39) (b := 37) (fun _ => rfl) trivial (fun h2 => ?_) (fun h2 => ?_)
    · -- 39: (lg_cmp (((U.2.2.2.2.1 146) w) &&& ((U.2.2.2.2.1 148) w)) (0 : Int64)) = 0
      refine mw_go mu_g335 (k := 1) (f1 := (42, [(2, .inl ((nI w) + 1)), (0, .inr (.inr (some 147))), (1, .inr (.inr (some 148)))], [], H)) (C := []) rfl trivial ?_
      rw [(show ((nI w) + 1) = (nI (w + 1)) from (nI_add w 1))]
      refine mw_go mu_g335 (k := 1) (f1 := (8, [(2, .inl (nI (w + 1))), (0, .inr (.inr (some 147))), (1, .inr (.inr (some 148)))], [], H)) (C := []) rfl trivial ?_
      exact mw_sub (by simp) (iha (w + 1) ⟨(show bf ≤ (w + 1) ∧ (w + 1) ≤ bt from (by omega)), (show ∀ i, bf ≤ i → i < (w + 1) → U.2.2.2.2.1 146 i &&& U.2.2.2.2.1 148 i = 0 from (fun i i1 i2 => by by_cases y : i = w; (rw [y]; exact lg_ne.mp h2); (exact hno i i1 (by omega))))⟩ (by show bt - (w + 1) < bt - w; omega))
    · -- 37: not (lg_cmp (((U.2.2.2.2.1 146) w) &&& ((U.2.2.2.2.1 148) w)) (0 : Int64)) = 0
      refine mw_go mu_g335 (k := 1) (f1 := (38, [(2, .inl (nI w)), (0, .inr (.inr (some 147))), (1, .inr (.inr (some 148)))], [.inl (1 : Int32)], H)) (C := []) rfl trivial ?_
      exact mw_of (fun _ => mu_ret rfl (Or.inr rfl) ⟨_, H, rfl, rfl, Or.inr ⟨rfl, meet_yes (w := w) (fun y => h2 (lg_ne.mpr y)) (by omega)⟩⟩)
  · -- 45: not (nI w) < (nI bt)
    have nh1 : ¬ w < bt := fun z => h1 (show nI w < nI bt from (nI_ltI (by omega) (by omega)).mpr z)
    refine mw_go mu_g335 (k := 1) (f1 := (46, [(2, .inl (nI w)), (0, .inr (.inr (some 147))), (1, .inr (.inr (some 148)))], [.inl (0 : Int32)], H)) (C := []) rfl trivial ?_
    exact mw_of (fun _ => mu_ret rfl (Or.inl rfl) ⟨_, H, rfl, rfl, Or.inl ⟨rfl, meet_no hz.2 (fun i i1 i2 => hno i i1 (by omega))⟩⟩)
theorem gr_meets153 (h : um m H) (e : ud m H = U) (hz : BZ U bf bt) : mu_TI (mu_D (d + 1)) 335 [.inr (.inr (some 147)), .inr (.inr (some 153))] H (fun x H1 => H1 = H ∧ ((x = 0 ∧ ¬ ∃ t, t < 16384 ∧ bts (U.2.2.2.2.1 146) t = true ∧ bts (U.2.2.2.2.1 153) t = true) ∨ (x = 1 ∧ ∃ t, t < 16384 ∧ bts (U.2.2.2.2.1 146) t = true ∧ bts (U.2.2.2.2.1 153) t = true))) := by
  obtain ⟨hz1, hz2, hz3, hz4⟩ := hz.1
  refine mu_meth (M := mu_m335) rfl rfl ?_
  refine mw_ht (mu_fn_of (show [0, 1].Nodup by decide)) ?_
  refine mw_go mu_g335 (k := 2) (f1 := (4, [(0, .inr (.inr (some 147))), (1, .inr (.inr (some 153)))], [.inr (.inr (mu_r H 147 1))], H)) (C := [mu_is H (some 147) 2]) rfl (show mu_is H (some 147) 2 from (h.1.1.is rfl)) ?_
  rw [(h.1.1.r (p := 147) (j := 1) (q := 129) rfl)]
  refine mw_go mu_g335 (k := 1) (f1 := (7, [(0, .inr (.inr (some 147))), (1, .inr (.inr (some 153)))], [.inl (mu_i H 129 19)], H)) (C := [mu_is H (some 129) 9]) rfl (show mu_is H (some 129) 9 from (h.1.1.is rfl)) ?_
  rw [(show mu_i H 129 19 = (nI bf) from (ud_i (U := U) (m := m) (P := 129) (j := 19) e rfl).trans hz1)]
  refine mw_go mu_g335 (k := 1) (f1 := (8, [(2, .inl (nI bf)), (0, .inr (.inr (some 147))), (1, .inr (.inr (some 153)))], [], H)) (C := []) rfl trivial ?_
  refine mw_sub (L' := [(2, .inl (nI bf)), (0, .inr (.inr (some 147))), (1, .inr (.inr (some 153)))]) (by simp) ?_
  refine mw_down (α := Nat) (fun zs => (8, [(2, .inl (nI zs)), (0, .inr (.inr (some 147))), (1, .inr (.inr (some 153)))], [], H)) (fun zs => bt - zs) (fun zs => (bf ≤ zs ∧ zs ≤ bt) ∧ (∀ i, bf ≤ i → i < zs → U.2.2.2.2.1 146 i &&& U.2.2.2.2.1 153 i = 0)) (fun zs hza iha => ?_) bf ⟨(show bf ≤ bf ∧ bf ≤ bt from (by omega)), (show ∀ i, bf ≤ i → i < bf → U.2.2.2.2.1 146 i &&& U.2.2.2.2.1 153 i = 0 from (fun i i1 i2 => absurd i2 (by omega)))⟩
  obtain ⟨w, rfl⟩ : ∃ y, y = zs := ⟨zs, rfl⟩
  obtain ⟨hw, hno⟩ := hza
  have hw : bf ≤ w ∧ w ≤ bt := hw
  have hno : ∀ i, bf ≤ i → i < w → U.2.2.2.2.1 146 i &&& U.2.2.2.2.1 153 i = 0 := hno
  show mu_W _ _ (8, [(2, .inl (nI w)), (0, .inr (.inr (some 147))), (1, .inr (.inr (some 153)))], [], H) _
  refine mw_go mu_g335 (k := 3) (f1 := (13, [(2, .inl (nI w)), (0, .inr (.inr (some 147))), (1, .inr (.inr (some 153)))], [.inr (.inr (mu_r H 147 1)), .inl (nI w)], H)) (C := [mu_is H (some 147) 2]) rfl (show mu_is H (some 147) 2 from (h.1.1.is rfl)) ?_
  rw [(h.1.1.r (p := 147) (j := 1) (q := 129) rfl)]
  refine mw_go mu_g335 (k := 1) (f1 := (16, [(2, .inl (nI w)), (0, .inr (.inr (some 147))), (1, .inr (.inr (some 153)))], [.inl (mu_i H 129 20), .inl (nI w)], H)) (C := [mu_is H (some 129) 9]) rfl (show mu_is H (some 129) 9 from (h.1.1.is rfl)) ?_
  rw [(show mu_i H 129 20 = (nI bt) from (ud_i (U := U) (m := m) (P := 129) (j := 20) e rfl).trans hz2)]
  refine mw_if (P := (nI w) < (nI bt)) (a := 19) (b := 45) (fun _ => rfl) trivial (fun h1 => ?_) (fun h1 => ?_)
  · -- 19: (nI w) < (nI bt)
    have nh1 : w < bt := (nI_ltI (by omega) (by omega)).mp (show nI w < nI bt from h1)
    refine mw_go mu_g335 (k := 2) (f1 := (23, [(2, .inl (nI w)), (0, .inr (.inr (some 147))), (1, .inr (.inr (some 153)))], [.inr (.inr (mu_r H 147 1))], H)) (C := [mu_is H (some 147) 2]) rfl (show mu_is H (some 147) 2 from (h.1.1.is rfl)) ?_
    rw [(h.1.1.r (p := 147) (j := 1) (q := 129) rfl)]
    refine mw_go mu_g335 (k := 1) (f1 := (26, [(2, .inl (nI w)), (0, .inr (.inr (some 147))), (1, .inr (.inr (some 153)))], [.inr (.inr (mu_r H 129 18))], H)) (C := [mu_is H (some 129) 9]) rfl (show mu_is H (some 129) 9 from (h.1.1.is rfl)) ?_
    rw [(h.1.1.r (p := 129) (j := 18) (q := 146) rfl)]
    refine mw_go mu_g335 (k := 2) (f1 := (28, [(2, .inl (nI w)), (0, .inr (.inr (some 147))), (1, .inr (.inr (some 153)))], [.inr (.inl (mu_l H 146 (nI w).toNatClampNeg))], H)) (C := [mu_isr H (some 146) 102, vp_in (nI w) (mu_n H 146)]) rfl (show (mu_isr H (some 146) 102) ∧ (vp_in (nI w) (mu_n H 146)) from ⟨((h.1.1.a (p := 146) (x := (102, 256)) rfl).1).r, (by rw [show mu_n H 146 = 256 from (h.1.1.a (p := 146) (x := (102, 256)) rfl).2]; exact vp_in_nI (n := w) (by omega) (by decide))⟩) ?_
    rw [(show (mu_l H 146 (nI w).toNatClampNeg) = (U.2.2.2.2.1 146) w from (congrArg (mu_l H 146) (show (nI w).toNatClampNeg = w from nI_clamp (by omega))).trans ((ud_l (m := m) (p := 146) (i := w) e rfl).trans (congrFun (show U.2.2.2.2.1 146 = (U.2.2.2.2.1 146) from rfl) w)))]
    refine mw_go mu_g335 (k := 3) (f1 := (31, [(2, .inl (nI w)), (0, .inr (.inr (some 147))), (1, .inr (.inr (some 153)))], [.inr (.inl (mu_l H 153 (nI w).toNatClampNeg)), .inr (.inl ((U.2.2.2.2.1 146) w))], H)) (C := [mu_isr H (some 153) 102, vp_in (nI w) (mu_n H 153)]) rfl (show (mu_isr H (some 153) 102) ∧ (vp_in (nI w) (mu_n H 153)) from ⟨((h.1.1.a (p := 153) (x := (102, 256)) rfl).1).r, (by rw [show mu_n H 153 = 256 from (h.1.1.a (p := 153) (x := (102, 256)) rfl).2]; exact vp_in_nI (n := w) (by omega) (by decide))⟩) ?_
    rw [(show (mu_l H 153 (nI w).toNatClampNeg) = (U.2.2.2.2.1 153) w from (congrArg (mu_l H 153) (show (nI w).toNatClampNeg = w from nI_clamp (by omega))).trans ((ud_l (m := m) (p := 153) (i := w) e rfl).trans (congrFun (show U.2.2.2.2.1 153 = (U.2.2.2.2.1 153) from rfl) w)))]
    refine mw_go mu_g335 (k := 3) (f1 := (34, [(2, .inl (nI w)), (0, .inr (.inr (some 147))), (1, .inr (.inr (some 153)))], [.inl (lg_cmp (((U.2.2.2.2.1 146) w) &&& ((U.2.2.2.2.1 153) w)) (0 : Int64))], H)) (C := []) rfl trivial ?_
    refine mw_if (P := (lg_cmp (((U.2.2.2.2.1 146) w) &&& ((U.2.2.2.2.1 153) w)) (0 : Int64)) = 0) (a := 39) (b := 37) (fun _ => rfl) trivial (fun h2 => ?_) (fun h2 => ?_)
    · -- 39: (lg_cmp (((U.2.2.2.2.1 146) w) &&& ((U.2.2.2.2.1 153) w)) (0 : Int64)) = 0
      refine mw_go mu_g335 (k := 1) (f1 := (42, [(2, .inl ((nI w) + 1)), (0, .inr (.inr (some 147))), (1, .inr (.inr (some 153)))], [], H)) (C := []) rfl trivial ?_
      rw [(show ((nI w) + 1) = (nI (w + 1)) from (nI_add w 1))]
      refine mw_go mu_g335 (k := 1) (f1 := (8, [(2, .inl (nI (w + 1))), (0, .inr (.inr (some 147))), (1, .inr (.inr (some 153)))], [], H)) (C := []) rfl trivial ?_
      exact mw_sub (by simp) (iha (w + 1) ⟨(show bf ≤ (w + 1) ∧ (w + 1) ≤ bt from (by omega)), (show ∀ i, bf ≤ i → i < (w + 1) → U.2.2.2.2.1 146 i &&& U.2.2.2.2.1 153 i = 0 from (fun i i1 i2 => by by_cases y : i = w; (rw [y]; exact lg_ne.mp h2); (exact hno i i1 (by omega))))⟩ (by show bt - (w + 1) < bt - w; omega))
    · -- 37: not (lg_cmp (((U.2.2.2.2.1 146) w) &&& ((U.2.2.2.2.1 153) w)) (0 : Int64)) = 0
      refine mw_go mu_g335 (k := 1) (f1 := (38, [(2, .inl (nI w)), (0, .inr (.inr (some 147))), (1, .inr (.inr (some 153)))], [.inl (1 : Int32)], H)) (C := []) rfl trivial ?_
      exact mw_of (fun _ => mu_ret rfl (Or.inr rfl) ⟨_, H, rfl, rfl, Or.inr ⟨rfl, meet_yes (w := w) (fun y => h2 (lg_ne.mpr y)) (by omega)⟩⟩)
  · -- 45: not (nI w) < (nI bt)
    have nh1 : ¬ w < bt := fun z => h1 (show nI w < nI bt from (nI_ltI (by omega) (by omega)).mpr z)
    refine mw_go mu_g335 (k := 1) (f1 := (46, [(2, .inl (nI w)), (0, .inr (.inr (some 147))), (1, .inr (.inr (some 153)))], [.inl (0 : Int32)], H)) (C := []) rfl trivial ?_
    exact mw_of (fun _ => mu_ret rfl (Or.inl rfl) ⟨_, H, rfl, rfl, Or.inl ⟨rfl, meet_no hz.2 (fun i i1 i2 => hno i i1 (by omega))⟩⟩)
theorem gr_meets162 (h : um m H) (e : ud m H = U) (hz : BZ U bf bt) : mu_TI (mu_D (d + 1)) 335 [.inr (.inr (some 147)), .inr (.inr (some 162))] H (fun x H1 => H1 = H ∧ ((x = 0 ∧ ¬ ∃ t, t < 16384 ∧ bts (U.2.2.2.2.1 146) t = true ∧ bts (U.2.2.2.2.1 162) t = true) ∨ (x = 1 ∧ ∃ t, t < 16384 ∧ bts (U.2.2.2.2.1 146) t = true ∧ bts (U.2.2.2.2.1 162) t = true))) := by
  obtain ⟨hz1, hz2, hz3, hz4⟩ := hz.1
  refine mu_meth (M := mu_m335) rfl rfl ?_
  refine mw_ht (mu_fn_of (show [0, 1].Nodup by decide)) ?_
  refine mw_go mu_g335 (k := 2) (f1 := (4, [(0, .inr (.inr (some 147))), (1, .inr (.inr (some 162)))], [.inr (.inr (mu_r H 147 1))], H)) (C := [mu_is H (some 147) 2]) rfl (show mu_is H (some 147) 2 from (h.1.1.is rfl)) ?_
  rw [(h.1.1.r (p := 147) (j := 1) (q := 129) rfl)]
  refine mw_go mu_g335 (k := 1) (f1 := (7, [(0, .inr (.inr (some 147))), (1, .inr (.inr (some 162)))], [.inl (mu_i H 129 19)], H)) (C := [mu_is H (some 129) 9]) rfl (show mu_is H (some 129) 9 from (h.1.1.is rfl)) ?_
  rw [(show mu_i H 129 19 = (nI bf) from (ud_i (U := U) (m := m) (P := 129) (j := 19) e rfl).trans hz1)]
  refine mw_go mu_g335 (k := 1) (f1 := (8, [(2, .inl (nI bf)), (0, .inr (.inr (some 147))), (1, .inr (.inr (some 162)))], [], H)) (C := []) rfl trivial ?_
  refine mw_sub (L' := [(2, .inl (nI bf)), (0, .inr (.inr (some 147))), (1, .inr (.inr (some 162)))]) (by simp) ?_
  refine mw_down (α := Nat) (fun zs => (8, [(2, .inl (nI zs)), (0, .inr (.inr (some 147))), (1, .inr (.inr (some 162)))], [], H)) (fun zs => bt - zs) (fun zs => (bf ≤ zs ∧ zs ≤ bt) ∧ (∀ i, bf ≤ i → i < zs → U.2.2.2.2.1 146 i &&& U.2.2.2.2.1 162 i = 0)) (fun zs hza iha => ?_) bf ⟨(show bf ≤ bf ∧ bf ≤ bt from (by omega)), (show ∀ i, bf ≤ i → i < bf → U.2.2.2.2.1 146 i &&& U.2.2.2.2.1 162 i = 0 from (fun i i1 i2 => absurd i2 (by omega)))⟩
  obtain ⟨w, rfl⟩ : ∃ y, y = zs := ⟨zs, rfl⟩
  obtain ⟨hw, hno⟩ := hza
  have hw : bf ≤ w ∧ w ≤ bt := hw
  have hno : ∀ i, bf ≤ i → i < w → U.2.2.2.2.1 146 i &&& U.2.2.2.2.1 162 i = 0 := hno
  show mu_W _ _ (8, [(2, .inl (nI w)), (0, .inr (.inr (some 147))), (1, .inr (.inr (some 162)))], [], H) _
  refine mw_go mu_g335 (k := 3) (f1 := (13, [(2, .inl (nI w)), (0, .inr (.inr (some 147))), (1, .inr (.inr (some 162)))], [.inr (.inr (mu_r H 147 1)), .inl (nI w)], H)) (C := [mu_is H (some 147) 2]) rfl (show mu_is H (some 147) 2 from (h.1.1.is rfl)) ?_
  rw [(h.1.1.r (p := 147) (j := 1) (q := 129) rfl)]
  refine mw_go mu_g335 (k := 1) (f1 := (16, [(2, .inl (nI w)), (0, .inr (.inr (some 147))), (1, .inr (.inr (some 162)))], [.inl (mu_i H 129 20), .inl (nI w)], H)) (C := [mu_is H (some 129) 9]) rfl (show mu_is H (some 129) 9 from (h.1.1.is rfl)) ?_
  rw [(show mu_i H 129 20 = (nI bt) from (ud_i (U := U) (m := m) (P := 129) (j := 20) e rfl).trans hz2)]
  refine mw_if (P := (nI w) < (nI bt)) (a := 19) (b := 45) (fun _ => rfl) trivial (fun h1 => ?_) (fun h1 => ?_)
  · -- 19: (nI w) < (nI bt)
    have nh1 : w < bt := (nI_ltI (by omega) (by omega)).mp (show nI w < nI bt from h1)
    refine mw_go mu_g335 (k := 2) (f1 := (23, [(2, .inl (nI w)), (0, .inr (.inr (some 147))), (1, .inr (.inr (some 162)))], [.inr (.inr (mu_r H 147 1))], H)) (C := [mu_is H (some 147) 2]) rfl (show mu_is H (some 147) 2 from (h.1.1.is rfl)) ?_
    rw [(h.1.1.r (p := 147) (j := 1) (q := 129) rfl)]
    refine mw_go mu_g335 (k := 1) (f1 := (26, [(2, .inl (nI w)), (0, .inr (.inr (some 147))), (1, .inr (.inr (some 162)))], [.inr (.inr (mu_r H 129 18))], H)) (C := [mu_is H (some 129) 9]) rfl (show mu_is H (some 129) 9 from (h.1.1.is rfl)) ?_
    rw [(h.1.1.r (p := 129) (j := 18) (q := 146) rfl)]
    refine mw_go mu_g335 (k := 2) (f1 := (28, [(2, .inl (nI w)), (0, .inr (.inr (some 147))), (1, .inr (.inr (some 162)))], [.inr (.inl (mu_l H 146 (nI w).toNatClampNeg))], H)) (C := [mu_isr H (some 146) 102, vp_in (nI w) (mu_n H 146)]) rfl (show (mu_isr H (some 146) 102) ∧ (vp_in (nI w) (mu_n H 146)) from ⟨((h.1.1.a (p := 146) (x := (102, 256)) rfl).1).r, (by rw [show mu_n H 146 = 256 from (h.1.1.a (p := 146) (x := (102, 256)) rfl).2]; exact vp_in_nI (n := w) (by omega) (by decide))⟩) ?_
    rw [(show (mu_l H 146 (nI w).toNatClampNeg) = (U.2.2.2.2.1 146) w from (congrArg (mu_l H 146) (show (nI w).toNatClampNeg = w from nI_clamp (by omega))).trans ((ud_l (m := m) (p := 146) (i := w) e rfl).trans (congrFun (show U.2.2.2.2.1 146 = (U.2.2.2.2.1 146) from rfl) w)))]
    refine mw_go mu_g335 (k := 3) (f1 := (31, [(2, .inl (nI w)), (0, .inr (.inr (some 147))), (1, .inr (.inr (some 162)))], [.inr (.inl (mu_l H 162 (nI w).toNatClampNeg)), .inr (.inl ((U.2.2.2.2.1 146) w))], H)) (C := [mu_isr H (some 162) 102, vp_in (nI w) (mu_n H 162)]) rfl (show (mu_isr H (some 162) 102) ∧ (vp_in (nI w) (mu_n H 162)) from ⟨((h.1.1.a (p := 162) (x := (102, 256)) rfl).1).r, (by rw [show mu_n H 162 = 256 from (h.1.1.a (p := 162) (x := (102, 256)) rfl).2]; exact vp_in_nI (n := w) (by omega) (by decide))⟩) ?_
    rw [(show (mu_l H 162 (nI w).toNatClampNeg) = (U.2.2.2.2.1 162) w from (congrArg (mu_l H 162) (show (nI w).toNatClampNeg = w from nI_clamp (by omega))).trans ((ud_l (m := m) (p := 162) (i := w) e rfl).trans (congrFun (show U.2.2.2.2.1 162 = (U.2.2.2.2.1 162) from rfl) w)))]
    refine mw_go mu_g335 (k := 3) (f1 := (34, [(2, .inl (nI w)), (0, .inr (.inr (some 147))), (1, .inr (.inr (some 162)))], [.inl (lg_cmp (((U.2.2.2.2.1 146) w) &&& ((U.2.2.2.2.1 162) w)) (0 : Int64))], H)) (C := []) rfl trivial ?_
    refine mw_if (P := (lg_cmp (((U.2.2.2.2.1 146) w) &&& ((U.2.2.2.2.1 162) w)) (0 : Int64)) = 0) (a := 39) (b := 37) (fun _ => rfl) trivial (fun h2 => ?_) (fun h2 => ?_)
    · -- 39: (lg_cmp (((U.2.2.2.2.1 146) w) &&& ((U.2.2.2.2.1 162) w)) (0 : Int64)) = 0
      refine mw_go mu_g335 (k := 1) (f1 := (42, [(2, .inl ((nI w) + 1)), (0, .inr (.inr (some 147))), (1, .inr (.inr (some 162)))], [], H)) (C := []) rfl trivial ?_
      rw [(show ((nI w) + 1) = (nI (w + 1)) from (nI_add w 1))]
      refine mw_go mu_g335 (k := 1) (f1 := (8, [(2, .inl (nI (w + 1))), (0, .inr (.inr (some 147))), (1, .inr (.inr (some 162)))], [], H)) (C := []) rfl trivial ?_
      exact mw_sub (by simp) (iha (w + 1) ⟨(show bf ≤ (w + 1) ∧ (w + 1) ≤ bt from (by omega)), (show ∀ i, bf ≤ i → i < (w + 1) → U.2.2.2.2.1 146 i &&& U.2.2.2.2.1 162 i = 0 from (fun i i1 i2 => by by_cases y : i = w; (rw [y]; exact lg_ne.mp h2); (exact hno i i1 (by omega))))⟩ (by show bt - (w + 1) < bt - w; omega))
    · -- 37: not (lg_cmp (((U.2.2.2.2.1 146) w) &&& ((U.2.2.2.2.1 162) w)) (0 : Int64)) = 0
      refine mw_go mu_g335 (k := 1) (f1 := (38, [(2, .inl (nI w)), (0, .inr (.inr (some 147))), (1, .inr (.inr (some 162)))], [.inl (1 : Int32)], H)) (C := []) rfl trivial ?_
      exact mw_of (fun _ => mu_ret rfl (Or.inr rfl) ⟨_, H, rfl, rfl, Or.inr ⟨rfl, meet_yes (w := w) (fun y => h2 (lg_ne.mpr y)) (by omega)⟩⟩)
  · -- 45: not (nI w) < (nI bt)
    have nh1 : ¬ w < bt := fun z => h1 (show nI w < nI bt from (nI_ltI (by omega) (by omega)).mpr z)
    refine mw_go mu_g335 (k := 1) (f1 := (46, [(2, .inl (nI w)), (0, .inr (.inr (some 147))), (1, .inr (.inr (some 162)))], [.inl (0 : Int32)], H)) (C := []) rfl trivial ?_
    exact mw_of (fun _ => mu_ret rfl (Or.inl rfl) ⟨_, H, rfl, rfl, Or.inl ⟨rfl, meet_no hz.2 (fun i i1 i2 => hno i i1 (by omega))⟩⟩)
/-- PathProver$Graph.fetch(I)V -/
abbrev mu_m313 : ev_M := (2, none, [], ev_b313)
theorem mu_g313 : mu_good mu_m313 := mu_goodk ev_k313
theorem gr_fetch (h : um m H) (e : ud m H = U) (hs : s < (U.2.2.1 129 6).1) (hb : (U.2.2.1 129 6).1 ≤ 16777216) : mu_TV (mu_D (d + 1)) 313 [.inr (.inr (some 147)), .inl (nI s)] H (fun H1 => um m H1 ∧ ur m C H H1 ∧ ud m H1 = upI (upI U 147 14 (6 : Int32)) 147 15 ((U.2.2.1 129 6).2 s)) := by
  refine mu_meth (M := mu_m313) rfl rfl ?_
  refine mw_ht (mu_fn_of (show [0, 1].Nodup by decide)) ?_
  refine mw_go mu_g313 (k := 3) (f1 := (6, [(0, .inr (.inr (some 147))), (1, .inl (nI s))], [], (mu_si H 147 14 (6 : Int32)))) (C := [mu_is H (some 147) 2]) rfl (show mu_is H (some 147) 2 from (h.1.1.is rfl)) ?_
  obtain ⟨u1, r1, d1⟩ : um m (mu_si H 147 14 (6 : Int32)) ∧ ur m C H (mu_si H 147 14 (6 : Int32)) ∧ ud m (mu_si H 147 14 (6 : Int32)) = (upI U 147 14 (6 : Int32)) := h.sI (C := C) e rfl
  generalize (mu_si H 147 14 (6 : Int32)) = Q1 at u1 r1 d1 ⊢
  have ht1 : ur m C H Q1 := (ur.refl m C H).trans r1
  refine mw_go mu_g313 (k := 3) (f1 := (11, [(0, .inr (.inr (some 147))), (1, .inl (nI s))], [.inr (.inr (mu_r Q1 147 1)), .inr (.inr (some 147))], Q1)) (C := [mu_is Q1 (some 147) 2]) rfl (show mu_is Q1 (some 147) 2 from (u1.1.1.is rfl)) ?_
  rw [(u1.1.1.r (p := 147) (j := 1) (q := 129) rfl)]
  refine mw_go mu_g313 (k := 1) (f1 := (14, [(0, .inr (.inr (some 147))), (1, .inl (nI s))], [.inr (.inr (mu_r Q1 129 6)), .inr (.inr (some 147))], Q1)) (C := [mu_is Q1 (some 129) 9]) rfl (show mu_is Q1 (some 129) 9 from (u1.1.1.is rfl)) ?_
  rw [(show mu_r Q1 129 6 = (U.2.2.2.1 129 6) from (ud_q (U := (upI U 147 14 (6 : Int32))) (m := m) (P := 129) (j := 6) d1 rfl))]
  refine mw_go mu_g313 (k := 2) (f1 := (16, [(0, .inr (.inr (some 147))), (1, .inl (nI s))], [.inl (mu_i Q1 (mu_p (U.2.2.2.1 129 6)) (nI s).toNatClampNeg), .inr (.inr (some 147))], Q1)) (C := [mu_isr Q1 (U.2.2.2.1 129 6) 100, vp_in (nI s) (mu_n Q1 (mu_p (U.2.2.2.1 129 6)))]) rfl (show (mu_isr Q1 (U.2.2.2.1 129 6) 100) ∧ (vp_in (nI s) (mu_n Q1 (mu_p (U.2.2.2.1 129 6)))) from ⟨((u1.iA d1 rfl rfl (show (upI U 147 14 (6 : Int32)).2.2.2.1 129 6 = (U.2.2.2.1 129 6) from rfl))).r, (u1.vA (i := s) d1 rfl rfl (show (upI U 147 14 (6 : Int32)).2.2.2.1 129 6 = (U.2.2.2.1 129 6) from rfl) (show ((upI U 147 14 (6 : Int32)).2.2.1 129 6).1 = (U.2.2.1 129 6).1 from rfl) (by omega) (by omega))⟩) ?_
  rw [(show (mu_i Q1 (mu_p (U.2.2.2.1 129 6)) (nI s).toNatClampNeg) = ((U.2.2.1 129 6).2 s) from ((congrArg (mu_i Q1 (mu_p (U.2.2.2.1 129 6))) (show (nI s).toNatClampNeg = s from nI_clamp (by omega))).trans (u1.gA d1 rfl rfl (show (upI U 147 14 (6 : Int32)).2.2.2.1 129 6 = (U.2.2.2.1 129 6) from rfl))).trans ((congrArg (fun z => z.2 s) (show (upI U 147 14 (6 : Int32)).2.2.1 129 6 = (U.2.2.1 129 6) from rfl)).trans rfl))]
  refine mw_go mu_g313 (k := 1) (f1 := (19, [(0, .inr (.inr (some 147))), (1, .inl (nI s))], [], (mu_si Q1 147 15 ((U.2.2.1 129 6).2 s)))) (C := [mu_is Q1 (some 147) 2]) rfl (show mu_is Q1 (some 147) 2 from (u1.1.1.is rfl)) ?_
  obtain ⟨u2, r2, d2⟩ : um m (mu_si Q1 147 15 ((U.2.2.1 129 6).2 s)) ∧ ur m C Q1 (mu_si Q1 147 15 ((U.2.2.1 129 6).2 s)) ∧ ud m (mu_si Q1 147 15 ((U.2.2.1 129 6).2 s)) = (upI (upI U 147 14 (6 : Int32)) 147 15 ((U.2.2.1 129 6).2 s)) := u1.sI (C := C) d1 rfl
  generalize (mu_si Q1 147 15 ((U.2.2.1 129 6).2 s)) = Q2 at u2 r2 d2 ⊢
  have ht2 : ur m C H Q2 := ht1.trans r2
  exact mw_of (fun _ => mu_ret rfl trivial ⟨Q2, rfl, u2, ht2, d2⟩)
end Meets
