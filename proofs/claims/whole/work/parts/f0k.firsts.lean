/-! RELATION: where the first next stands, how many steps there may be, the longest wide | -/
section Firsts
variable {H : mu_H} {U : Ud} {m d P a n nw nb : Nat} {bo : Nat → Nat → Nat} {Y : Ts} {es : Nat → Int32} {f wa wn wi : Nat → Nat} {wk : Nat → Bool} {x : Int32}
/-- PathProver$Relation.firstNext(II)I -/
abbrev mu_m388 : ev_M := (4, (some .int), [], ev_b388)
theorem mu_g388 : mu_good mu_m388 := mu_goodk ev_k388
theorem rl_fnext (h : um m H) (e : ud m H = U) (hmo : U.2.2.2.1 99 0 = some m) (hj0 : U.1 0 = Y 0) (hC : Cc Y) (hb : a + n ≤ (Y 0).1) (hb2 : (Y 0).1 ≤ 67108864) : mu_TI (mu_D (d + 2)) 388 [.inr (.inr (some 129)), .inl (nI a), .inl (nI (a + n))] H (fun x H1 => (H1 = H ∧ x = nI (a + n) ∧ ∀ q, q < n → ¬ oc Y (a + q) = 3) ∨ ∃ q, H1 = H ∧ x = nI (a + q) ∧ q < n ∧ oc Y (a + q) = 3 ∧ ∀ r, r < q → ¬ oc Y (a + r) = 3) := by
  refine mu_meth (M := mu_m388) rfl rfl ?_
  refine mw_ht (mu_fn_of (show [0, 1, 2].Nodup by decide)) ?_
  refine mw_go mu_g388 (k := 2) (f1 := (2, [(3, .inl (nI a)), (0, .inr (.inr (some 129))), (1, .inl (nI a)), (2, .inl (nI (a + n)))], [], H)) (C := []) rfl trivial ?_
  show mu_W _ _ (2, [(3, .inl (nI (a + 0))), (0, .inr (.inr (some 129))), (1, .inl (nI a)), (2, .inl (nI (a + n)))], [], H) _
  refine mw_sub (L' := [(3, .inl (nI (a + 0))), (0, .inr (.inr (some 129))), (1, .inl (nI a)), (2, .inl (nI (a + n)))]) (by simp) ?_
  refine mw_down (α := Nat) (fun zs => (2, [(3, .inl (nI (a + zs))), (0, .inr (.inr (some 129))), (1, .inl (nI a)), (2, .inl (nI (a + n)))], [], H)) (fun zs => n - zs) (fun zs => (zs ≤ n) ∧ (∀ q, q < zs → ¬ oc Y (a + q) = 3)) (fun zs hza iha => ?_) 0 ⟨(show 0 ≤ n from (by omega)), (show ∀ q, q < 0 → ¬ oc Y (a + q) = 3 from (fun q hq => absurd hq (Nat.not_lt_zero _)))⟩
  obtain ⟨w, rfl⟩ : ∃ y, y = zs := ⟨zs, rfl⟩
  obtain ⟨hw, hno⟩ := hza
  have hw : w ≤ n := hw
  have hno : ∀ q, q < w → ¬ oc Y (a + q) = 3 := hno
  show mu_W _ _ (2, [(3, .inl (nI (a + w))), (0, .inr (.inr (some 129))), (1, .inl (nI a)), (2, .inl (nI (a + n)))], [], H) _
  refine mw_go mu_g388 (k := 2) (f1 := (4, [(3, .inl (nI (a + w))), (0, .inr (.inr (some 129))), (1, .inl (nI a)), (2, .inl (nI (a + n)))], [.inl (nI (a + n)), .inl (nI (a + w))], H)) (C := []) rfl trivial ?_
  refine mw_if (P := (nI (a + w)) < (nI (a + n))) (a := 7) (b := 34) (fun _ => rfl) trivial (fun h1 => ?_) (fun h1 => ?_)
  · -- 7: (nI (a + w)) < (nI (a + n))
    have nh1 : (a + w) < (a + n) := (nI_ltI (by omega) (by omega)).mp (show nI (a + w) < nI (a + n) from h1)
    obtain ⟨ok1, ok2, ok3⟩ := okc_n hC (show a + w < (Y 0).1 by omega)
    have hjz : (U.1 0).1 = (Y 0).1 := congrArg Prod.fst hj0
    refine mw_go mu_g388 (k := 2) (f1 := (11, [(3, .inl (nI (a + w))), (0, .inr (.inr (some 129))), (1, .inl (nI a)), (2, .inl (nI (a + n)))], [.inr (.inr (mu_r H 129 0))], H)) (C := [mu_is H (some 129) 9]) rfl (show mu_is H (some 129) 9 from (h.1.1.is rfl)) ?_
    rw [(h.1.1.r (p := 129) (j := 0) (q := 99) rfl)]
    refine mw_go mu_g388 (k := 1) (f1 := (14, [(3, .inl (nI (a + w))), (0, .inr (.inr (some 129))), (1, .inl (nI a)), (2, .inl (nI (a + n)))], [.inr (.inr (mu_r H 99 0))], H)) (C := [mu_is H (some 99) 13]) rfl (show mu_is H (some 99) 13 from (h.1.1.is rfl)) ?_
    rw [(show mu_r H 99 0 = (some m) from (ud_q (U := U) (m := m) (P := 99) (j := 0) e rfl).trans hmo)]
    refine mw_go mu_g388 (k := 1) (f1 := (17, [(3, .inl (nI (a + w))), (0, .inr (.inr (some 129))), (1, .inl (nI a)), (2, .inl (nI (a + n)))], [.inr (.inr (mu_r H m 0))], H)) (C := [mu_is H (some m) 6]) rfl (show mu_is H (some m) 6 from (show mu_is H (some m) 6 from gi_im h.1.1 h.2)) ?_
    rw [(show mu_r H m 0 = some (m + 1) from (gi_mr h.1.1 h.2 (j := 0) (by decide)).trans (congrArg some (by omega)))]
    refine mw_go mu_g388 (k := 2) (f1 := (19, [(3, .inl (nI (a + w))), (0, .inr (.inr (some 129))), (1, .inl (nI a)), (2, .inl (nI (a + n)))], [.inl (0 : Int32), .inl (nI (a + w)), .inr (.inr (some (m + 1)))], H)) (C := []) rfl trivial ?_
    refine mw_cIe (fun _ => rfl) (show mu_is H (some (m + 1)) 10 from ((h.1.1.w (md_w0 h.2)).1)) (h.getr (d := d) e (j := 0) (by decide) rfl (nI (a + w)) (c := 0) (by decide)) ?_
    rw [show (tget (U.1 0) (nI (a + w)) 0) = (nI (oc Y (a + w))) from ((congrArg (fun z => tget z (nI (a + w)) 0) (show U.1 0 = (U.1 0) from rfl)).trans (tget_nI (by omega))).trans ((congrArg (fun y => y.2 (a + w) 0) hj0).trans ok1)]
    refine mw_go mu_g388 (k := 1) (f1 := (23, [(3, .inl (nI (a + w))), (0, .inr (.inr (some 129))), (1, .inl (nI a)), (2, .inl (nI (a + n)))], [.inl (3 : Int32), .inl (nI (oc Y (a + w)))], H)) (C := []) rfl trivial ?_
    refine mw_if (P := (nI (oc Y (a + w))) = (3 : Int32)) (a := 26) (b := 28) (fun _ => rfl) trivial (fun h3 => ?_) (fun h3 => ?_)
    · -- 26: (nI (oc Y (a + w))) = (3 : Int32)
      have nh3 : (oc Y (a + w)) = 3 := (nI_eq (by omega) (by omega)).mp (show nI (oc Y (a + w)) = nI 3 from h3)
      refine mw_go mu_g388 (k := 1) (f1 := (27, [(3, .inl (nI (a + w))), (0, .inr (.inr (some 129))), (1, .inl (nI a)), (2, .inl (nI (a + n)))], [.inl (nI (a + w))], H)) (C := []) rfl trivial ?_
      exact mw_of (fun _ => mu_ret rfl trivial ⟨_, H, rfl, Or.inr ⟨w, rfl, rfl, by omega, nh3, hno⟩⟩)
    · -- 28: not (nI (oc Y (a + w))) = (3 : Int32)
      have nh3 : ¬ (oc Y (a + w)) = 3 := fun z => h3 (show nI (oc Y (a + w)) = nI 3 from (nI_eq (by omega) (by omega)).mpr z)
      refine mw_go mu_g388 (k := 1) (f1 := (31, [(3, .inl ((nI (a + w)) + 1)), (0, .inr (.inr (some 129))), (1, .inl (nI a)), (2, .inl (nI (a + n)))], [], H)) (C := []) rfl trivial ?_
      rw [(show ((nI (a + w)) + 1) = (nI ((a + w) + 1)) from (nI_add (a + w) 1))]
      refine mw_go mu_g388 (k := 1) (f1 := (2, [(3, .inl (nI ((a + w) + 1))), (0, .inr (.inr (some 129))), (1, .inl (nI a)), (2, .inl (nI (a + n)))], [], H)) (C := []) rfl trivial ?_
      show mu_W _ _ (2, [(3, .inl (nI (a + (w + 1)))), (0, .inr (.inr (some 129))), (1, .inl (nI a)), (2, .inl (nI (a + n)))], [], H) _
      exact mw_sub (by simp) (iha (w + 1) ⟨(show (w + 1) ≤ n from (by omega)), (show ∀ q, q < (w + 1) → ¬ oc Y (a + q) = 3 from (fun q hq => by by_cases e0 : q = w; (rw [e0]; exact nh3); exact hno q (by omega)))⟩ (by show n - (w + 1) < n - w; omega))
  · -- 34: not (nI (a + w)) < (nI (a + n))
    have nh1 : ¬ (a + w) < (a + n) := fun z => h1 (show nI (a + w) < nI (a + n) from (nI_ltI (by omega) (by omega)).mpr z)
    refine mw_go mu_g388 (k := 1) (f1 := (35, [(3, .inl (nI (a + w))), (0, .inr (.inr (some 129))), (1, .inl (nI a)), (2, .inl (nI (a + n)))], [.inl (nI (a + n))], H)) (C := []) rfl trivial ?_
    exact mw_of (fun _ => mu_ret rfl trivial ⟨_, H, rfl, Or.inl ⟨rfl, rfl, fun q hq => hno q (by omega)⟩⟩)
/-- PathProver$Relation.mostSteps()I -/
abbrev mu_m391 : ev_M := (3, (some .int), [], ev_b391)
theorem mu_g391 : mu_good mu_m391 := mu_goodk ev_k391
theorem rl_msteps (h : um m H) (e : ud m H = U) (hS : spx m U P f) : mu_TI (mu_D (d + 1)) 391 [.inr (.inr (some 129))] H (fun x H1 => H1 = H) := by
  obtain ⟨⟨s4, s10, s11, s12⟩, hk5, ⟨g8, g8b, g18, g18b⟩, ⟨gP, gpd, gsm⟩, hsp, hmo⟩ := (show spx m U P f from hS)
  refine mu_meth (M := mu_m391) rfl rfl ?_
  refine mw_ht (mu_fn_of (show [0].Nodup by decide)) ?_
  refine mw_go mu_g391 (k := 4) (f1 := (4, [(2, .inl (0 : Int32)), (1, .inl (1 : Int32)), (0, .inr (.inr (some 129)))], [], H)) (C := []) rfl trivial ?_
  show mu_W _ _ (4, [(2, .inl (nI 0)), (1, .inl (1 : Int32)), (0, .inr (.inr (some 129)))], [], H) _
  refine mw_sub (L' := [(2, .inl (nI 0)), (1, .inl (1 : Int32)), (0, .inr (.inr (some 129)))]) (by simp) ?_
  refine mw_down (α := Nat × Int32) (fun zs => (4, [(2, .inl (nI zs.1)), (1, .inl zs.2), (0, .inr (.inr (some 129)))], [], H)) (fun zs => P - zs.1) (fun zs => (zs.1 ≤ P)) (fun zs hza iha => ?_) (0, (1 : Int32)) (show 0 ≤ P from (by omega))
  obtain ⟨k, v⟩ := zs
  have hk := hza
  have hk : k ≤ P := hk
  show mu_W _ _ (4, [(2, .inl (nI k)), (1, .inl v), (0, .inr (.inr (some 129)))], [], H) _
  refine mw_go mu_g391 (k := 3) (f1 := (9, [(2, .inl (nI k)), (1, .inl v), (0, .inr (.inr (some 129)))], [.inr (.inr (mu_r H 129 0)), .inl (nI k)], H)) (C := [mu_is H (some 129) 9]) rfl (show mu_is H (some 129) 9 from (h.1.1.is rfl)) ?_
  rw [(h.1.1.r (p := 129) (j := 0) (q := 99) rfl)]
  refine mw_go mu_g391 (k := 1) (f1 := (12, [(2, .inl (nI k)), (1, .inl v), (0, .inr (.inr (some 129)))], [.inl (mu_i H 99 4), .inl (nI k)], H)) (C := [mu_is H (some 99) 13]) rfl (show mu_is H (some 99) 13 from (h.1.1.is rfl)) ?_
  rw [(show mu_i H 99 4 = (nI P) from (ud_i (U := U) (m := m) (P := 99) (j := 4) e rfl).trans s4)]
  refine mw_if (P := (nI k) < (nI P)) (a := 15) (b := 30) (fun _ => rfl) trivial (fun h1 => ?_) (fun h1 => ?_)
  · -- 15: (nI k) < (nI P)
    have nh1 : k < P := (nI_ltI (by omega) (by omega)).mp (show nI k < nI P from h1)
    refine mw_go mu_g391 (k := 3) (f1 := (20, [(2, .inl (nI k)), (1, .inl v), (0, .inr (.inr (some 129)))], [.inr (.inr (mu_r H 129 14)), .inl v], H)) (C := [mu_is H (some 129) 9]) rfl (show mu_is H (some 129) 9 from (h.1.1.is rfl)) ?_
    rw [(h.1.1.r (p := 129) (j := 14) (q := 142) rfl)]
    refine mw_go mu_g391 (k := 2) (f1 := (22, [(2, .inl (nI k)), (1, .inl v), (0, .inr (.inr (some 129)))], [.inl (mu_i H 142 (nI k).toNatClampNeg), .inl v], H)) (C := [mu_isr H (some 142) 100, vp_in (nI k) (mu_n H 142)]) rfl (show (mu_isr H (some 142) 100) ∧ (vp_in (nI k) (mu_n H 142)) from ⟨((h.iA e rfl rfl ((ud_q (m := m) (P := 129) (j := 14) e rfl).symm.trans (h.1.1.r (p := 129) (j := 14) (q := 142) rfl)))).r, (by rw [show mu_n H 142 = 28 from (h.1.1.a (p := 142) (x := (100, 28)) rfl).2]; exact vp_in_nI (n := k) (by omega) (by decide))⟩) ?_
    obtain ⟨y2, hy2⟩ : ∃ y, y = (mu_i H 142 (nI k).toNatClampNeg) := ⟨_, rfl⟩
    rw [← hy2]
    refine mw_go mu_g391 (k := 3) (f1 := (27, [(2, .inl ((nI k) + 1)), (1, .inl (v * y2)), (0, .inr (.inr (some 129)))], [], H)) (C := []) rfl trivial ?_
    rw [(show ((nI k) + 1) = (nI (k + 1)) from (nI_add k 1))]
    refine mw_go mu_g391 (k := 1) (f1 := (4, [(2, .inl (nI (k + 1))), (1, .inl (v * y2)), (0, .inr (.inr (some 129)))], [], H)) (C := []) rfl trivial ?_
    exact mw_sub (by simp) (iha (k + 1, (v * y2)) (show (k + 1) ≤ P from (by omega)) (by show P - (k + 1) < P - k; omega))
  · -- 30: not (nI k) < (nI P)
    have nh1 : ¬ k < P := fun z => h1 (show nI k < nI P from (nI_ltI (by omega) (by omega)).mpr z)
    refine mw_go mu_g391 (k := 1) (f1 := (31, [(2, .inl (nI k)), (1, .inl v), (0, .inr (.inr (some 129)))], [.inl v], H)) (C := []) rfl trivial ?_
    exact mw_of (fun _ => mu_ret rfl trivial ⟨_, H, rfl, rfl⟩)
end Firsts
