/-! PROVER: what is told of sets -/
section Tell
variable {H : mu_H} {U : Ud} {m d n k T R wn wh sp ga gi gq L st q0 : Nat} {C : Nat → Nat} {B B2 : Nat → Bool} {rx : Nat → Nat}
/-- the n-th of a set -/
def NTH (B : Nat → Bool) (T n : Nat) (x : Int32) : Prop := (∃ s, s < T ∧ B s = true ∧ cnb B s = n ∧ x = nI s) ∨ (x = -1 ∧ cnb B T ≤ n)
/-- PathProver$Prover.nth([JI)I -/
abbrev mu_m362 : ev_M := (5, (some .int), [], ev_b362)
theorem mu_g362 : mu_good mu_m362 := mu_goodk ev_k362
theorem pr_nth125 (h : um m H) (e : ud m H = U) (hT : U.2.1 99 11 = nI T) (hTb : T ≤ 16384) (hB : ∀ t, bts (U.2.2.2.2.1 125) t = B t) (hn : n < 2147483648) : mu_TI (mu_D (d + 2)) 362 [.inr (.inr (some 158)), .inr (.inr (some 125)), .inl (nI n)] H (fun x H1 => NTH B T n x ∧ H1 = H) := by
  refine mu_meth (M := mu_m362) rfl rfl ?_
  refine mw_ht (mu_fn_of (show [0, 1, 2].Nodup by decide)) ?_
  refine mw_go mu_g362 (k := 4) (f1 := (5, [(4, .inl (0 : Int32)), (3, .inl (nI n)), (0, .inr (.inr (some 158))), (1, .inr (.inr (some 125))), (2, .inl (nI n))], [], H)) (C := []) rfl trivial ?_
  show mu_W _ _ (5, [(4, .inl (nI 0)), (3, .inl (nI (n - cnb B 0))), (0, .inr (.inr (some 158))), (1, .inr (.inr (some 125))), (2, .inl (nI n))], [], H) _
  refine mw_sub (L' := [(4, .inl (nI 0)), (3, .inl (nI (n - cnb B 0))), (0, .inr (.inr (some 158))), (1, .inr (.inr (some 125))), (2, .inl (nI n))]) (by simp) ?_
  refine mw_down (α := Nat) (fun zs => (5, [(4, .inl (nI zs)), (3, .inl (nI (n - cnb B zs))), (0, .inr (.inr (some 158))), (1, .inr (.inr (some 125))), (2, .inl (nI n))], [], H)) (fun zs => T - zs) (fun zs => (zs ≤ T) ∧ (cnb B zs ≤ n)) (fun zs hza iha => ?_) 0 ⟨(show 0 ≤ T from (Nat.zero_le _)), (show cnb B 0 ≤ n from (Nat.zero_le _))⟩
  obtain ⟨x, rfl⟩ : ∃ y, y = zs := ⟨zs, rfl⟩
  obtain ⟨hxT, hcn⟩ := hza
  have hxT : x ≤ T := hxT
  have hcn : cnb B x ≤ n := hcn
  show mu_W _ _ (5, [(4, .inl (nI x)), (3, .inl (nI (n - cnb B x))), (0, .inr (.inr (some 158))), (1, .inr (.inr (some 125))), (2, .inl (nI n))], [], H) _
  refine mw_go mu_g362 (k := 3) (f1 := (11, [(4, .inl (nI x)), (3, .inl (nI (n - cnb B x))), (0, .inr (.inr (some 158))), (1, .inr (.inr (some 125))), (2, .inl (nI n))], [.inr (.inr (mu_r H 158 0)), .inl (nI x)], H)) (C := [mu_is H (some 158) 8]) rfl (show mu_is H (some 158) 8 from (h.1.1.is rfl)) ?_
  rw [(h.1.1.r (p := 158) (j := 0) (q := 99) rfl)]
  refine mw_go mu_g362 (k := 1) (f1 := (14, [(4, .inl (nI x)), (3, .inl (nI (n - cnb B x))), (0, .inr (.inr (some 158))), (1, .inr (.inr (some 125))), (2, .inl (nI n))], [.inl (mu_i H 99 11), .inl (nI x)], H)) (C := [mu_is H (some 99) 13]) rfl (show mu_is H (some 99) 13 from (h.1.1.is rfl)) ?_
  rw [(show mu_i H 99 11 = (nI T) from (ud_i (U := U) (m := m) (P := 99) (j := 11) e rfl).trans hT)]
  refine mw_if (P := (nI x) < (nI T)) (a := 17) (b := 42) (fun _ => rfl) trivial (fun h1 => ?_) (fun h1 => ?_)
  · -- 17: (nI x) < (nI T)
    have nh1 : x < T := (nI_ltI (by omega) (by omega)).mp (show nI x < nI T from h1)
    refine mw_go mu_g362 (k := 2) (f1 := (20, [(4, .inl (nI x)), (3, .inl (nI (n - cnb B x))), (0, .inr (.inr (some 158))), (1, .inr (.inr (some 125))), (2, .inl (nI n))], [.inl (nI x), .inr (.inr (some 125))], H)) (C := []) rfl trivial ?_
    refine mw_cI (fun _ => rfl) trivial ((pv_has_125 (d := d) (k := x) h e (by omega)).imp (fun _ _ z => has_alt (b := bts (U.2.2.2.2.1 125) x) z)) (fun x2 H2 q2 => ?_)
    rcases q2 with ⟨rfl, hb2, rfl⟩ | ⟨rfl, hb2, rfl⟩
    · -- (1 : Int32)
      have hbx : B x = true := by rw [← hB]; exact hb2
      refine mw_if (P := (1 : Int32) = 0) (a := 36) (b := 26) (fun _ => rfl) trivial (fun h3 => absurd h3 (by decide)) (fun h3 => ?_)
      refine mw_go mu_g362 (k := 1) (f1 := (27, [(4, .inl (nI x)), (3, .inl (nI (n - cnb B x))), (0, .inr (.inr (some 158))), (1, .inr (.inr (some 125))), (2, .inl (nI n))], [.inl (nI (n - cnb B x))], H)) (C := []) rfl trivial ?_
      refine mw_if (P := (nI (n - cnb B x)) = 0) (a := 30) (b := 33) (fun _ => rfl) trivial (fun h4 => ?_) (fun h4 => ?_)
      · -- 30: (nI (n - cnb B x)) = 0
        have nh4 : (n - cnb B x) = 0 := (nI_eq (by omega) (by omega)).mp (show nI (n - cnb B x) = nI 0 from h4)
        refine mw_go mu_g362 (k := 1) (f1 := (32, [(4, .inl (nI x)), (3, .inl (nI (n - cnb B x))), (0, .inr (.inr (some 158))), (1, .inr (.inr (some 125))), (2, .inl (nI n))], [.inl (nI x)], H)) (C := []) rfl trivial ?_
        exact mw_of (fun _ => mu_ret rfl trivial ⟨(nI x), H, rfl, Or.inl ⟨x, by omega, hbx, by omega, rfl⟩, rfl⟩)
      · -- 33: not (nI (n - cnb B x)) = 0
        have nh4 : ¬ (n - cnb B x) = 0 := fun z => h4 (show nI (n - cnb B x) = nI 0 from (nI_eq (by omega) (by omega)).mpr z)
        refine mw_go mu_g362 (k := 1) (f1 := (36, [(3, .inl ((nI (n - cnb B x)) + (-1))), (4, .inl (nI x)), (0, .inr (.inr (some 158))), (1, .inr (.inr (some 125))), (2, .inl (nI n))], [], H)) (C := []) rfl trivial ?_
        rw [(show ((nI (n - cnb B x)) + (-1)) = (nI ((n - cnb B x) - 1)) from ((Int32.sub_eq_add_neg _ _).symm.trans (nI_sub (a := n - cnb B x) (b := 1) (by omega))))]
        rw [show (nI ((n - cnb B x) - 1)) = (nI (n - cnb B (x + 1))) from congrArg nI (by rw [cnb_yes hbx]; omega)]
        refine mw_go mu_g362 (k := 1) (f1 := (39, [(4, .inl ((nI x) + 1)), (3, .inl (nI (n - cnb B (x + 1)))), (0, .inr (.inr (some 158))), (1, .inr (.inr (some 125))), (2, .inl (nI n))], [], H)) (C := []) rfl trivial ?_
        rw [(show ((nI x) + 1) = (nI (x + 1)) from (nI_add x 1))]
        refine mw_go mu_g362 (k := 1) (f1 := (5, [(4, .inl (nI (x + 1))), (3, .inl (nI (n - cnb B (x + 1)))), (0, .inr (.inr (some 158))), (1, .inr (.inr (some 125))), (2, .inl (nI n))], [], H)) (C := []) rfl trivial ?_
        exact mw_sub (by simp) (iha (x + 1) ⟨(show (x + 1) ≤ T from (by omega)), (show cnb B (x + 1) ≤ n from (by rw [cnb_yes hbx]; omega))⟩ (by show T - (x + 1) < T - x; omega))
    · -- (0 : Int32)
      have hbx : ¬ B x = true := by rw [← hB, hb2]; decide
      refine mw_if (P := (0 : Int32) = 0) (a := 36) (b := 26) (fun _ => rfl) trivial (fun h5 => ?_) (fun h5 => absurd (by decide) h5)
      rw [show (nI (n - cnb B x)) = (nI (n - cnb B (x + 1))) from congrArg nI (by rw [cnb_no hbx])]
      refine mw_go mu_g362 (k := 1) (f1 := (39, [(4, .inl ((nI x) + 1)), (3, .inl (nI (n - cnb B (x + 1)))), (0, .inr (.inr (some 158))), (1, .inr (.inr (some 125))), (2, .inl (nI n))], [], H)) (C := []) rfl trivial ?_
      rw [(show ((nI x) + 1) = (nI (x + 1)) from (nI_add x 1))]
      refine mw_go mu_g362 (k := 1) (f1 := (5, [(4, .inl (nI (x + 1))), (3, .inl (nI (n - cnb B (x + 1)))), (0, .inr (.inr (some 158))), (1, .inr (.inr (some 125))), (2, .inl (nI n))], [], H)) (C := []) rfl trivial ?_
      exact mw_sub (by simp) (iha (x + 1) ⟨(show (x + 1) ≤ T from (by omega)), (show cnb B (x + 1) ≤ n from (by rw [cnb_no hbx]; omega))⟩ (by show T - (x + 1) < T - x; omega))
  · -- 42: not (nI x) < (nI T)
    have nh1 : ¬ x < T := fun z => h1 (show nI x < nI T from (nI_ltI (by omega) (by omega)).mpr z)
    refine mw_go mu_g362 (k := 1) (f1 := (43, [(4, .inl (nI x)), (3, .inl (nI (n - cnb B x))), (0, .inr (.inr (some 158))), (1, .inr (.inr (some 125))), (2, .inl (nI n))], [.inl (-1 : Int32)], H)) (C := []) rfl trivial ?_
    exact mw_of (fun _ => mu_ret rfl trivial ⟨(-1 : Int32), H, rfl, Or.inr ⟨rfl, by rw [show T = x by omega]; exact hcn⟩, rfl⟩)
theorem pr_nth146 (h : um m H) (e : ud m H = U) (hT : U.2.1 99 11 = nI T) (hTb : T ≤ 16384) (hB : ∀ t, bts (U.2.2.2.2.1 146) t = B t) (hn : n < 2147483648) : mu_TI (mu_D (d + 2)) 362 [.inr (.inr (some 158)), .inr (.inr (some 146)), .inl (nI n)] H (fun x H1 => NTH B T n x ∧ H1 = H) := by
  refine mu_meth (M := mu_m362) rfl rfl ?_
  refine mw_ht (mu_fn_of (show [0, 1, 2].Nodup by decide)) ?_
  refine mw_go mu_g362 (k := 4) (f1 := (5, [(4, .inl (0 : Int32)), (3, .inl (nI n)), (0, .inr (.inr (some 158))), (1, .inr (.inr (some 146))), (2, .inl (nI n))], [], H)) (C := []) rfl trivial ?_
  show mu_W _ _ (5, [(4, .inl (nI 0)), (3, .inl (nI (n - cnb B 0))), (0, .inr (.inr (some 158))), (1, .inr (.inr (some 146))), (2, .inl (nI n))], [], H) _
  refine mw_sub (L' := [(4, .inl (nI 0)), (3, .inl (nI (n - cnb B 0))), (0, .inr (.inr (some 158))), (1, .inr (.inr (some 146))), (2, .inl (nI n))]) (by simp) ?_
  refine mw_down (α := Nat) (fun zs => (5, [(4, .inl (nI zs)), (3, .inl (nI (n - cnb B zs))), (0, .inr (.inr (some 158))), (1, .inr (.inr (some 146))), (2, .inl (nI n))], [], H)) (fun zs => T - zs) (fun zs => (zs ≤ T) ∧ (cnb B zs ≤ n)) (fun zs hza iha => ?_) 0 ⟨(show 0 ≤ T from (Nat.zero_le _)), (show cnb B 0 ≤ n from (Nat.zero_le _))⟩
  obtain ⟨x, rfl⟩ : ∃ y, y = zs := ⟨zs, rfl⟩
  obtain ⟨hxT, hcn⟩ := hza
  have hxT : x ≤ T := hxT
  have hcn : cnb B x ≤ n := hcn
  show mu_W _ _ (5, [(4, .inl (nI x)), (3, .inl (nI (n - cnb B x))), (0, .inr (.inr (some 158))), (1, .inr (.inr (some 146))), (2, .inl (nI n))], [], H) _
  refine mw_go mu_g362 (k := 3) (f1 := (11, [(4, .inl (nI x)), (3, .inl (nI (n - cnb B x))), (0, .inr (.inr (some 158))), (1, .inr (.inr (some 146))), (2, .inl (nI n))], [.inr (.inr (mu_r H 158 0)), .inl (nI x)], H)) (C := [mu_is H (some 158) 8]) rfl (show mu_is H (some 158) 8 from (h.1.1.is rfl)) ?_
  rw [(h.1.1.r (p := 158) (j := 0) (q := 99) rfl)]
  refine mw_go mu_g362 (k := 1) (f1 := (14, [(4, .inl (nI x)), (3, .inl (nI (n - cnb B x))), (0, .inr (.inr (some 158))), (1, .inr (.inr (some 146))), (2, .inl (nI n))], [.inl (mu_i H 99 11), .inl (nI x)], H)) (C := [mu_is H (some 99) 13]) rfl (show mu_is H (some 99) 13 from (h.1.1.is rfl)) ?_
  rw [(show mu_i H 99 11 = (nI T) from (ud_i (U := U) (m := m) (P := 99) (j := 11) e rfl).trans hT)]
  refine mw_if (P := (nI x) < (nI T)) (a := 17) (b := 42) (fun _ => rfl) trivial (fun h1 => ?_) (fun h1 => ?_)
  · -- 17: (nI x) < (nI T)
    have nh1 : x < T := (nI_ltI (by omega) (by omega)).mp (show nI x < nI T from h1)
    refine mw_go mu_g362 (k := 2) (f1 := (20, [(4, .inl (nI x)), (3, .inl (nI (n - cnb B x))), (0, .inr (.inr (some 158))), (1, .inr (.inr (some 146))), (2, .inl (nI n))], [.inl (nI x), .inr (.inr (some 146))], H)) (C := []) rfl trivial ?_
    refine mw_cI (fun _ => rfl) trivial ((pv_has_146 (d := d) (k := x) h e (by omega)).imp (fun _ _ z => has_alt (b := bts (U.2.2.2.2.1 146) x) z)) (fun x2 H2 q2 => ?_)
    rcases q2 with ⟨rfl, hb2, rfl⟩ | ⟨rfl, hb2, rfl⟩
    · -- (1 : Int32)
      have hbx : B x = true := by rw [← hB]; exact hb2
      refine mw_if (P := (1 : Int32) = 0) (a := 36) (b := 26) (fun _ => rfl) trivial (fun h3 => absurd h3 (by decide)) (fun h3 => ?_)
      refine mw_go mu_g362 (k := 1) (f1 := (27, [(4, .inl (nI x)), (3, .inl (nI (n - cnb B x))), (0, .inr (.inr (some 158))), (1, .inr (.inr (some 146))), (2, .inl (nI n))], [.inl (nI (n - cnb B x))], H)) (C := []) rfl trivial ?_
      refine mw_if (P := (nI (n - cnb B x)) = 0) (a := 30) (b := 33) (fun _ => rfl) trivial (fun h4 => ?_) (fun h4 => ?_)
      · -- 30: (nI (n - cnb B x)) = 0
        have nh4 : (n - cnb B x) = 0 := (nI_eq (by omega) (by omega)).mp (show nI (n - cnb B x) = nI 0 from h4)
        refine mw_go mu_g362 (k := 1) (f1 := (32, [(4, .inl (nI x)), (3, .inl (nI (n - cnb B x))), (0, .inr (.inr (some 158))), (1, .inr (.inr (some 146))), (2, .inl (nI n))], [.inl (nI x)], H)) (C := []) rfl trivial ?_
        exact mw_of (fun _ => mu_ret rfl trivial ⟨(nI x), H, rfl, Or.inl ⟨x, by omega, hbx, by omega, rfl⟩, rfl⟩)
      · -- 33: not (nI (n - cnb B x)) = 0
        have nh4 : ¬ (n - cnb B x) = 0 := fun z => h4 (show nI (n - cnb B x) = nI 0 from (nI_eq (by omega) (by omega)).mpr z)
        refine mw_go mu_g362 (k := 1) (f1 := (36, [(3, .inl ((nI (n - cnb B x)) + (-1))), (4, .inl (nI x)), (0, .inr (.inr (some 158))), (1, .inr (.inr (some 146))), (2, .inl (nI n))], [], H)) (C := []) rfl trivial ?_
        rw [(show ((nI (n - cnb B x)) + (-1)) = (nI ((n - cnb B x) - 1)) from ((Int32.sub_eq_add_neg _ _).symm.trans (nI_sub (a := n - cnb B x) (b := 1) (by omega))))]
        rw [show (nI ((n - cnb B x) - 1)) = (nI (n - cnb B (x + 1))) from congrArg nI (by rw [cnb_yes hbx]; omega)]
        refine mw_go mu_g362 (k := 1) (f1 := (39, [(4, .inl ((nI x) + 1)), (3, .inl (nI (n - cnb B (x + 1)))), (0, .inr (.inr (some 158))), (1, .inr (.inr (some 146))), (2, .inl (nI n))], [], H)) (C := []) rfl trivial ?_
        rw [(show ((nI x) + 1) = (nI (x + 1)) from (nI_add x 1))]
        refine mw_go mu_g362 (k := 1) (f1 := (5, [(4, .inl (nI (x + 1))), (3, .inl (nI (n - cnb B (x + 1)))), (0, .inr (.inr (some 158))), (1, .inr (.inr (some 146))), (2, .inl (nI n))], [], H)) (C := []) rfl trivial ?_
        exact mw_sub (by simp) (iha (x + 1) ⟨(show (x + 1) ≤ T from (by omega)), (show cnb B (x + 1) ≤ n from (by rw [cnb_yes hbx]; omega))⟩ (by show T - (x + 1) < T - x; omega))
    · -- (0 : Int32)
      have hbx : ¬ B x = true := by rw [← hB, hb2]; decide
      refine mw_if (P := (0 : Int32) = 0) (a := 36) (b := 26) (fun _ => rfl) trivial (fun h5 => ?_) (fun h5 => absurd (by decide) h5)
      rw [show (nI (n - cnb B x)) = (nI (n - cnb B (x + 1))) from congrArg nI (by rw [cnb_no hbx])]
      refine mw_go mu_g362 (k := 1) (f1 := (39, [(4, .inl ((nI x) + 1)), (3, .inl (nI (n - cnb B (x + 1)))), (0, .inr (.inr (some 158))), (1, .inr (.inr (some 146))), (2, .inl (nI n))], [], H)) (C := []) rfl trivial ?_
      rw [(show ((nI x) + 1) = (nI (x + 1)) from (nI_add x 1))]
      refine mw_go mu_g362 (k := 1) (f1 := (5, [(4, .inl (nI (x + 1))), (3, .inl (nI (n - cnb B (x + 1)))), (0, .inr (.inr (some 158))), (1, .inr (.inr (some 146))), (2, .inl (nI n))], [], H)) (C := []) rfl trivial ?_
      exact mw_sub (by simp) (iha (x + 1) ⟨(show (x + 1) ≤ T from (by omega)), (show cnb B (x + 1) ≤ n from (by rw [cnb_no hbx]; omega))⟩ (by show T - (x + 1) < T - x; omega))
  · -- 42: not (nI x) < (nI T)
    have nh1 : ¬ x < T := fun z => h1 (show nI x < nI T from (nI_ltI (by omega) (by omega)).mpr z)
    refine mw_go mu_g362 (k := 1) (f1 := (43, [(4, .inl (nI x)), (3, .inl (nI (n - cnb B x))), (0, .inr (.inr (some 158))), (1, .inr (.inr (some 146))), (2, .inl (nI n))], [.inl (-1 : Int32)], H)) (C := []) rfl trivial ?_
    exact mw_of (fun _ => mu_ret rfl trivial ⟨(-1 : Int32), H, rfl, Or.inr ⟨rfl, by rw [show T = x by omega]; exact hcn⟩, rfl⟩)
/-- PathProver$Prover.initialState(I)I -/
abbrev mu_m363 : ev_M := (2, (some .int), [], ev_b363)
theorem mu_g363 : mu_good mu_m363 := mu_goodk ev_k363
theorem pr_initial (h : um m H) (e : ud m H = U) (hT : U.2.1 99 11 = nI T) (hTb : T ≤ 16384) (hB : ∀ t, bts (U.2.2.2.2.1 125) t = B t) (hn : n < 2147483648) : mu_TI (mu_D (d + 3)) 363 [.inr (.inr (some 158)), .inl (nI n)] H (fun x H1 => NTH B T n x ∧ H1 = H) := by
  refine mu_meth (M := mu_m363) rfl rfl ?_
  refine mw_ht (mu_fn_of (show [0, 1].Nodup by decide)) ?_
  refine mw_go mu_g363 (k := 3) (f1 := (5, [(0, .inr (.inr (some 158))), (1, .inl (nI n))], [.inr (.inr (mu_r H 158 0)), .inr (.inr (some 158))], H)) (C := [mu_is H (some 158) 8]) rfl (show mu_is H (some 158) 8 from (h.1.1.is rfl)) ?_
  rw [(h.1.1.r (p := 158) (j := 0) (q := 99) rfl)]
  refine mw_go mu_g363 (k := 1) (f1 := (8, [(0, .inr (.inr (some 158))), (1, .inl (nI n))], [.inr (.inr (mu_r H 99 15)), .inr (.inr (some 158))], H)) (C := [mu_is H (some 99) 13]) rfl (show mu_is H (some 99) 13 from (h.1.1.is rfl)) ?_
  rw [(h.1.1.r (p := 99) (j := 15) (q := 125) rfl)]
  refine mw_go mu_g363 (k := 1) (f1 := (9, [(0, .inr (.inr (some 158))), (1, .inl (nI n))], [.inl (nI n), .inr (.inr (some 125)), .inr (.inr (some 158))], H)) (C := []) rfl trivial ?_
  refine mw_cI (fun _ => rfl) (show mu_is H (some 158) 8 from (h.1.1.is rfl)) (pr_nth125 (d := d) (n := n) h e hT hTb hB hn) (fun x1 H1 q1 => ?_)
  obtain ⟨hx, rfl⟩ := q1
  exact mw_of (fun _ => mu_ret rfl trivial ⟨x1, _, rfl, hx, rfl⟩)
/-- PathProver$Prover.follower(I)I -/
abbrev mu_m360 : ev_M := (2, (some .int), [], ev_b360)
theorem mu_g360 : mu_good mu_m360 := mu_goodk ev_k360
theorem pr_follower (h : um m H) (e : ud m H = U) (hT : U.2.1 99 11 = nI T) (hTb : T ≤ 16384) (hB : ∀ t, bts (U.2.2.2.2.1 146) t = B t) (hn : n < 2147483648) : mu_TI (mu_D (d + 3)) 360 [.inr (.inr (some 158)), .inl (nI n)] H (fun x H1 => NTH B T n x ∧ H1 = H) := by
  refine mu_meth (M := mu_m360) rfl rfl ?_
  refine mw_ht (mu_fn_of (show [0, 1].Nodup by decide)) ?_
  refine mw_go mu_g360 (k := 3) (f1 := (5, [(0, .inr (.inr (some 158))), (1, .inl (nI n))], [.inr (.inr (mu_r H 158 1)), .inr (.inr (some 158))], H)) (C := [mu_is H (some 158) 8]) rfl (show mu_is H (some 158) 8 from (h.1.1.is rfl)) ?_
  rw [(h.1.1.r (p := 158) (j := 1) (q := 147) rfl)]
  refine mw_go mu_g360 (k := 1) (f1 := (8, [(0, .inr (.inr (some 158))), (1, .inl (nI n))], [.inr (.inr (mu_r H 147 1)), .inr (.inr (some 158))], H)) (C := [mu_is H (some 147) 2]) rfl (show mu_is H (some 147) 2 from (h.1.1.is rfl)) ?_
  rw [(h.1.1.r (p := 147) (j := 1) (q := 129) rfl)]
  refine mw_go mu_g360 (k := 1) (f1 := (11, [(0, .inr (.inr (some 158))), (1, .inl (nI n))], [.inr (.inr (mu_r H 129 18)), .inr (.inr (some 158))], H)) (C := [mu_is H (some 129) 9]) rfl (show mu_is H (some 129) 9 from (h.1.1.is rfl)) ?_
  rw [(h.1.1.r (p := 129) (j := 18) (q := 146) rfl)]
  refine mw_go mu_g360 (k := 1) (f1 := (12, [(0, .inr (.inr (some 158))), (1, .inl (nI n))], [.inl (nI n), .inr (.inr (some 146)), .inr (.inr (some 158))], H)) (C := []) rfl trivial ?_
  refine mw_cI (fun _ => rfl) (show mu_is H (some 158) 8 from (h.1.1.is rfl)) (pr_nth146 (d := d) (n := n) h e hT hTb hB hn) (fun x1 H1 q1 => ?_)
  obtain ⟨hx, rfl⟩ := q1
  exact mw_of (fun _ => mu_ret rfl trivial ⟨x1, _, rfl, hx, rfl⟩)
theorem pv_hasL (h : um m H) (e : ud m H = U) (hgl : LSN U ga gi gq L) (hLb : L ≤ 256) (hk : k < 64 * L) : mu_TI (mu_D (d + 1)) 377 [.inr (.inr (some gq)), .inl (nI k)] H (fun x H1 => x = (if bts (lgf U ga gi) k = true then 1 else 0) ∧ H1 = H) := by
  refine mu_meth (M := mu_m377) rfl rfl ?_
  refine mw_ht (mu_fn_of (show [0, 1].Nodup by decide)) ?_
  refine mw_go mu_g377 (k := 4) (f1 := (5, [(0, .inr (.inr (some gq))), (1, .inl (nI k))], [.inl ((nI k) >>> ((6 : Int32) &&& 31)), .inr (.inr (some gq))], H)) (C := []) rfl trivial ?_
  rw [(show ((nI k) >>> ((6 : Int32) &&& 31)) = (nI (k / 64)) from (nI_shr6 (a := k) (by omega)))]
  obtain ⟨kb1, kc1, kd1⟩ := LSN.read h e (show LSN U ga gi gq L from hgl)
  refine mw_go mu_g377 (k := 1) (f1 := (6, [(0, .inr (.inr (some gq))), (1, .inl (nI k))], [.inr (.inl (mu_l H gq (nI (k / 64)).toNatClampNeg))], H)) (C := [mu_isr H (some gq) 102, vp_in (nI (k / 64)) (mu_n H gq)]) rfl (show (mu_isr H (some gq) 102) ∧ (vp_in (nI (k / 64)) (mu_n H gq)) from ⟨kb1.r, (by rw [kc1]; exact vp_in_nI (n := k / 64) (by omega) (by omega))⟩) ?_
  rw [show (mu_l H gq (nI (k / 64)).toNatClampNeg) = (lgf U ga gi (k / 64)) from (congrArg (mu_l H gq) (show (nI (k / 64)).toNatClampNeg = k / 64 from nI_clamp (by omega))).trans (kd1 (k / 64))]
  refine mw_go mu_g377 (k := 6) (f1 := (12, [(0, .inr (.inr (some gq))), (1, .inl (nI k))], [.inl (lg_cmp ((((lgf U ga gi (k / 64)).toUInt64 >>> ((nI k).toInt64.toUInt64 &&& Int64.toUInt64 63)).toInt64) &&& (1 : Int64)) (0 : Int64))], H)) (C := []) rfl trivial ?_
  refine mw_if (P := (lg_cmp ((((lgf U ga gi (k / 64)).toUInt64 >>> ((nI k).toInt64.toUInt64 &&& Int64.toUInt64 63)).toInt64) &&& (1 : Int64)) (0 : Int64)) = 0) (a := 19) (b := 15) (fun _ => rfl) trivial (fun h2 => ?_) (fun h2 => ?_)
  · -- 19: (lg_cmp ((((lgf U ga gi (k / 64)).toUInt64 >>> ((nI k).toInt64.toUInt64 &&& Int64.toUInt64 63)).toInt64) &&& (1 : Int64)) (0 : Int64)) = 0
    refine mw_go mu_g377 (k := 1) (f1 := (20, [(0, .inr (.inr (some gq))), (1, .inl (nI k))], [.inl (0 : Int32)], H)) (C := []) rfl trivial ?_
    exact mw_of (fun _ => mu_ret rfl (Or.inl rfl) ⟨_, _, rfl, (by have z := lg_ne.mp h2; rw [btz_ask (by omega)] at z; by_cases hb : btz (lgf U ga gi (k / 64)) (k % 64) = true; rw [if_pos hb] at z; exact absurd z (by decide); unfold bts; rw [if_neg hb]), rfl⟩)
  · -- 15: not (lg_cmp ((((lgf U ga gi (k / 64)).toUInt64 >>> ((nI k).toInt64.toUInt64 &&& Int64.toUInt64 63)).toInt64) &&& (1 : Int64)) (0 : Int64)) = 0
    refine mw_go mu_g377 (k := 2) (f1 := (20, [(0, .inr (.inr (some gq))), (1, .inl (nI k))], [.inl (1 : Int32)], H)) (C := []) rfl trivial ?_
    exact mw_of (fun _ => mu_ret rfl (Or.inr rfl) ⟨_, _, rfl, (by have z := fun y => h2 (lg_ne.mpr y); rw [btz_ask (by omega)] at z; by_cases hb : btz (lgf U ga gi (k / 64)) (k % 64) = true; unfold bts; rw [if_pos hb]; rw [if_neg hb] at z; exact absurd rfl z), rfl⟩)
/-- PathProver$Prover.isTrueIn(II)Z -/
abbrev mu_m340 : ev_M := (3, (some .boolean), [], ev_b340)
theorem mu_g340 : mu_good mu_m340 := mu_goodk ev_k340
theorem pr_isTrue (h : um m H) (e : ud m H = U) (hsp : sp < 2147483648) (hk0 : LSN U 163 (sp % 64) gq L) (hLb : L ≤ 256) (hkL : k < 64 * L) : mu_TI (mu_D (d + 2)) 340 [.inr (.inr (some 158)), .inl (nI sp), .inl (nI k)] H (fun x H1 => x = (if bts (lgf U 163 (sp % 64)) k = true then 1 else 0) ∧ H1 = H) := by
  refine mu_meth (M := mu_m340) rfl rfl ?_
  refine mw_ht (mu_fn_of (show [0, 1, 2].Nodup by decide)) ?_
  refine mw_go mu_g340 (k := 2) (f1 := (4, [(0, .inr (.inr (some 158))), (1, .inl (nI sp)), (2, .inl (nI k))], [.inr (.inr (mu_r H 158 6))], H)) (C := [mu_is H (some 158) 8]) rfl (show mu_is H (some 158) 8 from (h.1.1.is rfl)) ?_
  rw [(h.1.1.r (p := 158) (j := 6) (q := 163) rfl)]
  refine mw_go mu_g340 (k := 3) (f1 := (8, [(0, .inr (.inr (some 158))), (1, .inl (nI sp)), (2, .inl (nI k))], [.inl ((nI sp) - (nI sp) / (64 : Int32) * (64 : Int32)), .inr (.inr (some 163))], H)) (C := [¬ (64 : Int32) = 0]) rfl (show ¬ (64 : Int32) = 0 from (by decide)) ?_
  rw [(show ((nI sp) - (nI sp) / (64 : Int32) * (64 : Int32)) = (nI (sp % 64)) from (nI_mod (a := sp) (b := 64) (by omega) (by omega)))]
  have ka1 : mu_r H 163 (sp % 64) = some gq := (dR_pool e (Or.inr rfl) (plp163 (show sp % 64 < 64 by omega))).trans (LSN.ref (show LSN U 163 (sp % 64) gq _ from hk0) (Or.inr rfl))
  refine mw_go mu_g340 (k := 1) (f1 := (9, [(0, .inr (.inr (some 158))), (1, .inl (nI sp)), (2, .inl (nI k))], [.inr (.inr (mu_r H 163 (nI (sp % 64)).toNatClampNeg))], H)) (C := [mu_is H (some 163) (mu_k H 163), 103 ≤ mu_k H 163 ∧ mu_k H 163 ≤ 110 ∧ mu_k H 163 ≠ 108, vp_in (nI (sp % 64)) (mu_n H 163)]) rfl (show (mu_is H (some 163) (mu_k H 163)) ∧ (103 ≤ mu_k H 163 ∧ mu_k H 163 ≤ 110 ∧ mu_k H 163 ≠ 108) ∧ (vp_in (nI (sp % 64)) (mu_n H 163)) from ⟨(by have z := (h.1.1.a (p := 163) (x := (104, 64)) rfl).1; rw [show mu_k H 163 = 104 from z.2.2]; exact z), (by have z := (h.1.1.a (p := 163) (x := (104, 64)) rfl).1; rw [show mu_k H 163 = 104 from z.2.2]; decide), (by rw [show mu_n H 163 = 64 from (h.1.1.a (p := 163) (x := (104, 64)) rfl).2]; exact vp_in_nI (n := sp % 64) (by omega) (by decide))⟩) ?_
  rw [show (mu_r H 163 (nI (sp % 64)).toNatClampNeg) = (some gq) from (congrArg (mu_r H 163) (show (nI (sp % 64)).toNatClampNeg = sp % 64 from nI_clamp (by omega))).trans ka1]
  refine mw_go mu_g340 (k := 1) (f1 := (10, [(0, .inr (.inr (some 158))), (1, .inl (nI sp)), (2, .inl (nI k))], [.inl (nI k), .inr (.inr (some gq))], H)) (C := []) rfl trivial ?_
  refine mw_cIe (fun _ => rfl) trivial (pv_hasL (d := d) (k := k) h e hk0 hLb hkL) ?_
  have h01 : ((if bts (lgf U 163 (sp % 64)) k = true then 1 else 0) : Int32) = 0 ∨ ((if bts (lgf U 163 (sp % 64)) k = true then 1 else 0) : Int32) = 1 := by by_cases hb : bts (lgf U 163 (sp % 64)) k = true; (rw [if_pos hb]; exact Or.inr rfl); (rw [if_neg hb]; exact Or.inl rfl)
  exact mw_of (fun _ => mu_ret rfl h01 ⟨_, H, rfl, rfl, rfl⟩)
/-- PathProver$Prover.holdsAtStart(I)Z -/
abbrev mu_m373 : ev_M := (4, (some .boolean), [], ev_b373)
theorem mu_g373 : mu_good mu_m373 := mu_goodk ev_k373
theorem pr_holds (h : um m H) (e : ud m H = U) (hsp : sp < 2147483648) (hw12 : U.2.1 99 12 = nI wn) (hk0 : LSN U 163 (sp % 64) gq L) (hwL : wn ≤ L) (hLb : L ≤ 256) : mu_TI (mu_D (d + 1)) 373 [.inr (.inr (some 158)), .inl (nI sp)] H (fun x H1 => (x = 1 ∧ (∀ i, i < wn → U.2.2.2.2.1 125 i &&& (lgf U 163 (sp % 64) i ^^^ (-1 : Int64)) = 0) ∧ H = H1) ∨ (x = 0 ∧ (∃ i, i < wn ∧ ¬ U.2.2.2.2.1 125 i &&& (lgf U 163 (sp % 64) i ^^^ (-1 : Int64)) = 0) ∧ H = H1)) := by
  refine mu_meth (M := mu_m373) rfl rfl ?_
  refine mw_ht (mu_fn_of (show [0, 1].Nodup by decide)) ?_
  refine mw_go mu_g373 (k := 2) (f1 := (4, [(0, .inr (.inr (some 158))), (1, .inl (nI sp))], [.inr (.inr (mu_r H 158 6))], H)) (C := [mu_is H (some 158) 8]) rfl (show mu_is H (some 158) 8 from (h.1.1.is rfl)) ?_
  rw [(h.1.1.r (p := 158) (j := 6) (q := 163) rfl)]
  refine mw_go mu_g373 (k := 3) (f1 := (8, [(0, .inr (.inr (some 158))), (1, .inl (nI sp))], [.inl ((nI sp) - (nI sp) / (64 : Int32) * (64 : Int32)), .inr (.inr (some 163))], H)) (C := [¬ (64 : Int32) = 0]) rfl (show ¬ (64 : Int32) = 0 from (by decide)) ?_
  rw [(show ((nI sp) - (nI sp) / (64 : Int32) * (64 : Int32)) = (nI (sp % 64)) from (nI_mod (a := sp) (b := 64) (by omega) (by omega)))]
  have ka1 : mu_r H 163 (sp % 64) = some gq := (dR_pool e (Or.inr rfl) (plp163 (show sp % 64 < 64 by omega))).trans (LSN.ref (show LSN U 163 (sp % 64) gq _ from hk0) (Or.inr rfl))
  refine mw_go mu_g373 (k := 1) (f1 := (9, [(0, .inr (.inr (some 158))), (1, .inl (nI sp))], [.inr (.inr (mu_r H 163 (nI (sp % 64)).toNatClampNeg))], H)) (C := [mu_is H (some 163) (mu_k H 163), 103 ≤ mu_k H 163 ∧ mu_k H 163 ≤ 110 ∧ mu_k H 163 ≠ 108, vp_in (nI (sp % 64)) (mu_n H 163)]) rfl (show (mu_is H (some 163) (mu_k H 163)) ∧ (103 ≤ mu_k H 163 ∧ mu_k H 163 ≤ 110 ∧ mu_k H 163 ≠ 108) ∧ (vp_in (nI (sp % 64)) (mu_n H 163)) from ⟨(by have z := (h.1.1.a (p := 163) (x := (104, 64)) rfl).1; rw [show mu_k H 163 = 104 from z.2.2]; exact z), (by have z := (h.1.1.a (p := 163) (x := (104, 64)) rfl).1; rw [show mu_k H 163 = 104 from z.2.2]; decide), (by rw [show mu_n H 163 = 64 from (h.1.1.a (p := 163) (x := (104, 64)) rfl).2]; exact vp_in_nI (n := sp % 64) (by omega) (by decide))⟩) ?_
  rw [show (mu_r H 163 (nI (sp % 64)).toNatClampNeg) = (some gq) from (congrArg (mu_r H 163) (show (nI (sp % 64)).toNatClampNeg = sp % 64 from nI_clamp (by omega))).trans ka1]
  refine mw_go mu_g373 (k := 3) (f1 := (12, [(3, .inl (0 : Int32)), (2, .inr (.inr (some gq))), (0, .inr (.inr (some 158))), (1, .inl (nI sp))], [], H)) (C := []) rfl trivial ?_
  show mu_W _ _ (12, [(3, .inl (nI 0)), (2, .inr (.inr (some gq))), (0, .inr (.inr (some 158))), (1, .inl (nI sp))], [], H) _
  refine mw_sub (L' := [(3, .inl (nI 0)), (0, .inr (.inr (some 158))), (1, .inl (nI sp)), (2, .inr (.inr (some gq)))]) (by simp) ?_
  refine mw_down (α := Nat) (fun zs => (12, [(3, .inl (nI zs)), (0, .inr (.inr (some 158))), (1, .inl (nI sp)), (2, .inr (.inr (some gq)))], [], H)) (fun zs => wn - zs) (fun zs => (zs ≤ wn) ∧ (∀ i, i < zs → U.2.2.2.2.1 125 i &&& (lgf U 163 (sp % 64) i ^^^ (-1 : Int64)) = 0)) (fun zs hza iha => ?_) 0 ⟨(show 0 ≤ wn from (Nat.zero_le _)), (show ∀ i, i < 0 → U.2.2.2.2.1 125 i &&& (lgf U 163 (sp % 64) i ^^^ (-1 : Int64)) = 0 from (fun i hi => absurd hi (Nat.not_lt_zero i)))⟩
  obtain ⟨w, rfl⟩ : ∃ y, y = zs := ⟨zs, rfl⟩
  obtain ⟨hw, hno⟩ := hza
  have hw : w ≤ wn := hw
  have hno : ∀ i, i < w → U.2.2.2.2.1 125 i &&& (lgf U 163 (sp % 64) i ^^^ (-1 : Int64)) = 0 := hno
  show mu_W _ _ (12, [(3, .inl (nI w)), (0, .inr (.inr (some 158))), (1, .inl (nI sp)), (2, .inr (.inr (some gq)))], [], H) _
  refine mw_go mu_g373 (k := 3) (f1 := (17, [(3, .inl (nI w)), (0, .inr (.inr (some 158))), (1, .inl (nI sp)), (2, .inr (.inr (some gq)))], [.inr (.inr (mu_r H 158 0)), .inl (nI w)], H)) (C := [mu_is H (some 158) 8]) rfl (show mu_is H (some 158) 8 from (h.1.1.is rfl)) ?_
  rw [(h.1.1.r (p := 158) (j := 0) (q := 99) rfl)]
  refine mw_go mu_g373 (k := 1) (f1 := (20, [(3, .inl (nI w)), (0, .inr (.inr (some 158))), (1, .inl (nI sp)), (2, .inr (.inr (some gq)))], [.inl (mu_i H 99 12), .inl (nI w)], H)) (C := [mu_is H (some 99) 13]) rfl (show mu_is H (some 99) 13 from (h.1.1.is rfl)) ?_
  rw [(show mu_i H 99 12 = (nI wn) from (ud_i (U := U) (m := m) (P := 99) (j := 12) e rfl).trans hw12)]
  refine mw_if (P := (nI w) < (nI wn)) (a := 23) (b := 53) (fun _ => rfl) trivial (fun h2 => ?_) (fun h2 => ?_)
  · -- 23: (nI w) < (nI wn)
    have nh2 : w < wn := (nI_ltI (by omega) (by omega)).mp (show nI w < nI wn from h2)
    refine mw_go mu_g373 (k := 2) (f1 := (27, [(3, .inl (nI w)), (0, .inr (.inr (some 158))), (1, .inl (nI sp)), (2, .inr (.inr (some gq)))], [.inr (.inr (mu_r H 158 0))], H)) (C := [mu_is H (some 158) 8]) rfl (show mu_is H (some 158) 8 from (h.1.1.is rfl)) ?_
    rw [(h.1.1.r (p := 158) (j := 0) (q := 99) rfl)]
    refine mw_go mu_g373 (k := 1) (f1 := (30, [(3, .inl (nI w)), (0, .inr (.inr (some 158))), (1, .inl (nI sp)), (2, .inr (.inr (some gq)))], [.inr (.inr (mu_r H 99 15))], H)) (C := [mu_is H (some 99) 13]) rfl (show mu_is H (some 99) 13 from (h.1.1.is rfl)) ?_
    rw [(h.1.1.r (p := 99) (j := 15) (q := 125) rfl)]
    refine mw_go mu_g373 (k := 1) (f1 := (31, [(3, .inl (nI w)), (0, .inr (.inr (some 158))), (1, .inl (nI sp)), (2, .inr (.inr (some gq)))], [.inl (nI w), .inr (.inr (some 125))], H)) (C := []) rfl trivial ?_
    refine mw_go mu_g373 (k := 1) (f1 := (32, [(3, .inl (nI w)), (0, .inr (.inr (some 158))), (1, .inl (nI sp)), (2, .inr (.inr (some gq)))], [.inr (.inl (mu_l H 125 (nI w).toNatClampNeg))], H)) (C := [mu_isr H (some 125) 102, vp_in (nI w) (mu_n H 125)]) rfl (show (mu_isr H (some 125) 102) ∧ (vp_in (nI w) (mu_n H 125)) from ⟨((h.1.1.a (p := 125) (x := (102, 256)) rfl).1).r, (by rw [show mu_n H 125 = 256 from (h.1.1.a (p := 125) (x := (102, 256)) rfl).2]; exact vp_in_nI (n := w) (by omega) (by decide))⟩) ?_
    rw [show (mu_l H 125 (nI w).toNatClampNeg) = ((U.2.2.2.2.1 125) w) from (congrArg (mu_l H 125) (show (nI w).toNatClampNeg = w from nI_clamp (by omega))).trans ((ud_l (m := m) (p := 125) (i := w) e rfl).trans (congrFun (show U.2.2.2.2.1 125 = (U.2.2.2.2.1 125) from rfl) w))]
    refine mw_go mu_g373 (k := 2) (f1 := (34, [(3, .inl (nI w)), (0, .inr (.inr (some 158))), (1, .inl (nI sp)), (2, .inr (.inr (some gq)))], [.inl (nI w), .inr (.inr (some gq)), .inr (.inl ((U.2.2.2.2.1 125) w))], H)) (C := []) rfl trivial ?_
    obtain ⟨kb4, kc4, kd4⟩ := LSN.read h e (show LSN U 163 (sp % 64) gq L from hk0)
    refine mw_go mu_g373 (k := 1) (f1 := (35, [(3, .inl (nI w)), (0, .inr (.inr (some 158))), (1, .inl (nI sp)), (2, .inr (.inr (some gq)))], [.inr (.inl (mu_l H gq (nI w).toNatClampNeg)), .inr (.inl ((U.2.2.2.2.1 125) w))], H)) (C := [mu_isr H (some gq) 102, vp_in (nI w) (mu_n H gq)]) rfl (show (mu_isr H (some gq) 102) ∧ (vp_in (nI w) (mu_n H gq)) from ⟨kb4.r, (by rw [kc4]; exact vp_in_nI (n := w) (by omega) (by omega))⟩) ?_
    rw [show (mu_l H gq (nI w).toNatClampNeg) = (lgf U 163 (sp % 64) w) from (congrArg (mu_l H gq) (show (nI w).toNatClampNeg = w from nI_clamp (by omega))).trans (kd4 w)]
    refine mw_go mu_g373 (k := 5) (f1 := (42, [(3, .inl (nI w)), (0, .inr (.inr (some 158))), (1, .inl (nI sp)), (2, .inr (.inr (some gq)))], [.inl (lg_cmp (((U.2.2.2.2.1 125) w) &&& ((lgf U 163 (sp % 64) w) ^^^ (-1 : Int64))) (0 : Int64))], H)) (C := []) rfl trivial ?_
    refine mw_if (P := (lg_cmp (((U.2.2.2.2.1 125) w) &&& ((lgf U 163 (sp % 64) w) ^^^ (-1 : Int64))) (0 : Int64)) = 0) (a := 47) (b := 45) (fun _ => rfl) trivial (fun h5 => ?_) (fun h5 => ?_)
    · -- 47: (lg_cmp (((U.2.2.2.2.1 125) w) &&& ((lgf U 163 (sp % 64) w) ^^^ (-1 : Int64))) (0 : Int64)) = 0
      refine mw_go mu_g373 (k := 1) (f1 := (50, [(3, .inl ((nI w) + 1)), (0, .inr (.inr (some 158))), (1, .inl (nI sp)), (2, .inr (.inr (some gq)))], [], H)) (C := []) rfl trivial ?_
      rw [(show ((nI w) + 1) = (nI (w + 1)) from (nI_add w 1))]
      refine mw_go mu_g373 (k := 1) (f1 := (12, [(3, .inl (nI (w + 1))), (0, .inr (.inr (some 158))), (1, .inl (nI sp)), (2, .inr (.inr (some gq)))], [], H)) (C := []) rfl trivial ?_
      exact mw_sub (by simp) (iha (w + 1) ⟨(show (w + 1) ≤ wn from (by omega)), (show ∀ i, i < (w + 1) → U.2.2.2.2.1 125 i &&& (lgf U 163 (sp % 64) i ^^^ (-1 : Int64)) = 0 from (fun i hi => by by_cases y : i = w; (rw [y]; exact lg_ne.mp h5); (exact hno i (by omega))))⟩ (by show wn - (w + 1) < wn - w; omega))
    · -- 45: not (lg_cmp (((U.2.2.2.2.1 125) w) &&& ((lgf U 163 (sp % 64) w) ^^^ (-1 : Int64))) (0 : Int64)) = 0
      refine mw_go mu_g373 (k := 1) (f1 := (46, [(3, .inl (nI w)), (0, .inr (.inr (some 158))), (1, .inl (nI sp)), (2, .inr (.inr (some gq)))], [.inl (0 : Int32)], H)) (C := []) rfl trivial ?_
      exact mw_of (fun _ => mu_ret rfl (Or.inl rfl) ⟨_, H, rfl, Or.inr ⟨rfl, ⟨w, by omega, fun y => h5 (lg_ne.mpr y)⟩, rfl⟩⟩)
  · -- 53: not (nI w) < (nI wn)
    have nh2 : ¬ w < wn := fun z => h2 (show nI w < nI wn from (nI_ltI (by omega) (by omega)).mpr z)
    refine mw_go mu_g373 (k := 1) (f1 := (54, [(3, .inl (nI w)), (0, .inr (.inr (some 158))), (1, .inl (nI sp)), (2, .inr (.inr (some gq)))], [.inl (1 : Int32)], H)) (C := []) rfl trivial ?_
    exact mw_of (fun _ => mu_ret rfl (Or.inr rfl) ⟨_, H, rfl, Or.inl ⟨rfl, fun i hi => hno i (by omega), rfl⟩⟩)
end Tell
