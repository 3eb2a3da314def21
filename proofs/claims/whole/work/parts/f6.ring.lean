/-! GRAPH: startOfRing -/
section Ring
variable {H : mu_H} {U : Ud} {m d r q ps : Nat} {C : Nat → Nat} {pl : Nat → Nat}
/-- PathProver$Graph.startOfRing(I)I -/
abbrev mu_m331 : ev_M := (3, (some .int), [], ev_b331)
theorem mu_g331 : mu_good mu_m331 := mu_goodk ev_k331
theorem gr_ring (h : um m H) (e : ud m H = U) (hps : U.2.1 147 21 = nI ps) (hl : 7 * ps ≤ (U.2.2.1 147 10).1) (hb : (U.2.2.1 147 10).1 ≤ 16777216) (hpl : ∀ i, i < ps → (U.2.2.1 147 10).2 (i * 7 + 6) = nI (pl i) ∧ pl i < 2147483648) (hr : r < 2147483648) (hq1 : q < ps) (hq2 : pl q = r) (hq3 : ∀ i, q < i → i < ps → ¬ pl i = r) : mu_TI (mu_D (d + 2)) 331 [.inr (.inr (some 147)), .inl (nI r)] H (fun x H1 => x = nI q ∧ H1 = H) := by
  refine mu_meth (M := mu_m331) rfl rfl ?_
  refine mw_ht (mu_fn_of (show [0, 1].Nodup by decide)) ?_
  refine mw_go mu_g331 (k := 2) (f1 := (4, [(0, .inr (.inr (some 147))), (1, .inl (nI r))], [.inl (mu_i H 147 21)], H)) (C := [mu_is H (some 147) 2]) rfl (show mu_is H (some 147) 2 from (h.1.1.is rfl)) ?_
  rw [(show mu_i H 147 21 = (nI ps) from (ud_i (U := U) (m := m) (P := 147) (j := 21) e rfl).trans hps)]
  refine mw_go mu_g331 (k := 2) (f1 := (6, [(0, .inr (.inr (some 147))), (1, .inl (nI r))], [.inl ((nI ps) - (1 : Int32))], H)) (C := []) rfl trivial ?_
  rw [(show ((nI ps) - (1 : Int32)) = (nI (ps - 1)) from (nI_sub (a := ps) (b := 1) (by omega)))]
  refine mw_go mu_g331 (k := 1) (f1 := (7, [(2, .inl (nI (ps - 1))), (0, .inr (.inr (some 147))), (1, .inl (nI r))], [], H)) (C := []) rfl trivial ?_
  refine mw_sub (L' := [(2, .inl (nI (ps - 1))), (0, .inr (.inr (some 147))), (1, .inl (nI r))]) (by simp) ?_
  refine mw_down (α := Nat) (fun zs => (7, [(2, .inl (nI zs)), (0, .inr (.inr (some 147))), (1, .inl (nI r))], [], H)) (fun zs => zs) (fun zs => (q ≤ zs ∧ zs < ps)) (fun zs hza iha => ?_) (ps - 1) (show q ≤ (ps - 1) ∧ (ps - 1) < ps from (by omega))
  obtain ⟨x, rfl⟩ : ∃ y, y = zs := ⟨zs, rfl⟩
  have hx := hza
  have hx : q ≤ x ∧ x < ps := hx
  show mu_W _ _ (7, [(2, .inl (nI x)), (0, .inr (.inr (some 147))), (1, .inl (nI r))], [], H) _
  refine mw_go mu_g331 (k := 1) (f1 := (8, [(2, .inl (nI x)), (0, .inr (.inr (some 147))), (1, .inl (nI r))], [.inl (nI x)], H)) (C := []) rfl trivial ?_
  refine mw_if (P := 0 < (nI x)) (a := 11) (b := 28) (fun _ => rfl) trivial (fun h1 => ?_) (fun h1 => ?_)
  · -- 11: 0 < (nI x)
    have nh1 : 0 < x := (nI_ltI (by omega) (by omega)).mp (show nI 0 < nI x from h1)
    refine mw_go mu_g331 (k := 3) (f1 := (15, [(2, .inl (nI x)), (0, .inr (.inr (some 147))), (1, .inl (nI r))], [.inl (6 : Int32), .inl (nI x), .inr (.inr (some 147))], H)) (C := []) rfl trivial ?_
    refine mw_cIe (fun _ => rfl) (show mu_is H (some 147) 2 from (h.1.1.is rfl)) (gr_node (d := d) (r := x) (c := 6) h e (by omega) hb) ?_
    rw [show (U.2.2.1 147 10).2 (x * 7 + 6) = nI (pl x) from (hpl x (by omega)).1]
    have hpx := (hpl x (by omega)).2
    refine mw_go mu_g331 (k := 1) (f1 := (19, [(2, .inl (nI x)), (0, .inr (.inr (some 147))), (1, .inl (nI r))], [.inl (nI r), .inl (nI (pl x))], H)) (C := []) rfl trivial ?_
    refine mw_if (P := (nI (pl x)) = (nI r)) (a := 28) (b := 22) (fun _ => rfl) trivial (fun h3 => ?_) (fun h3 => ?_)
    · -- 28: (nI (pl x)) = (nI r)
      have nh3 : (pl x) = r := (nI_eq (by omega) (by omega)).mp (show nI (pl x) = nI r from h3)
      refine mw_go mu_g331 (k := 1) (f1 := (29, [(2, .inl (nI x)), (0, .inr (.inr (some 147))), (1, .inl (nI r))], [.inl (nI x)], H)) (C := []) rfl trivial ?_
      exact mw_of (fun _ => mu_ret rfl trivial ⟨_, H, rfl, congrArg nI (Decidable.byContradiction (fun y => hq3 x (by omega) (by omega) nh3)), rfl⟩)
    · -- 22: not (nI (pl x)) = (nI r)
      have nh3 : ¬ (pl x) = r := fun z => h3 (show nI (pl x) = nI r from (nI_eq (by omega) (by omega)).mpr z)
      refine mw_go mu_g331 (k := 1) (f1 := (25, [(2, .inl ((nI x) + (-1))), (0, .inr (.inr (some 147))), (1, .inl (nI r))], [], H)) (C := []) rfl trivial ?_
      rw [(show ((nI x) + (-1)) = (nI (x - 1)) from ((Int32.sub_eq_add_neg _ _).symm.trans (nI_sub (a := x) (b := 1) (by omega))))]
      refine mw_go mu_g331 (k := 1) (f1 := (7, [(2, .inl (nI (x - 1))), (0, .inr (.inr (some 147))), (1, .inl (nI r))], [], H)) (C := []) rfl trivial ?_
      exact mw_sub (by simp) (iha (x - 1) (show q ≤ (x - 1) ∧ (x - 1) < ps from (by have hne : ¬ x = q := fun y => nh3 (by rw [y]; exact hq2); omega)) (by show (x - 1) < x; omega))
  · -- 28: not 0 < (nI x)
    have nh1 : ¬ 0 < x := fun z => h1 (show nI 0 < nI x from (nI_ltI (by omega) (by omega)).mpr z)
    refine mw_go mu_g331 (k := 1) (f1 := (29, [(2, .inl (nI x)), (0, .inr (.inr (some 147))), (1, .inl (nI r))], [.inl (nI x)], H)) (C := []) rfl trivial ?_
    exact mw_of (fun _ => mu_ret rfl trivial ⟨_, H, rfl, congrArg nI (by omega), rfl⟩)
end Ring
