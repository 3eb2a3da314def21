/-! RELATION: leave -/
/-- how many of the first are true -/
def ctv (tv : Nat → Nat) : Nat → Nat
  | 0 => 0
  | k + 1 => ctv tv k + tv k
section Leave
variable {H : mu_H} {U V : Ud} {m d fr mn tq k j : Nat} {C : Nat → Nat} {tv : Nat → Nat}
theorem ctv_le (h : ∀ k, k < mn → tv k ≤ 1) : ∀ {k}, k ≤ mn → ctv tv k ≤ k
  | 0, _ => Nat.le_refl _
  | k + 1, hk => by
    have a := ctv_le h (k := k) (by omega)
    have b := h k (by omega)
    show ctv tv k + tv k ≤ k + 1
    omega
theorem ctv_mono : ∀ {k}, j ≤ k → ctv tv j ≤ ctv tv k
  | 0, hk => by rw [show j = 0 by omega]; exact Nat.le_refl _
  | k + 1, hk => by
    by_cases e : j = k + 1
    · rw [e]; exact Nat.le_refl _
    · have a := ctv_mono (k := k) (show j ≤ k by omega)
      show ctv tv j ≤ ctv tv k + tv k
      omega
theorem ctv_all (h : ∀ k, k < mn → tv k ≤ 1) (ha : ctv tv mn = mn) : ∀ k, k < mn → tv k = 1 ∧ ctv tv k = k := by
  have key : ∀ n, n ≤ mn → mn - n + ctv tv n ≥ mn := by
    intro n hn
    have hs : ∀ q, n + q ≤ mn → ctv tv (n + q) ≤ ctv tv n + q := by
      intro q
      induction q with
      | zero => intro _; exact Nat.le_refl _
      | succ q ih =>
        intro hq
        have a := ih (by omega)
        have b := h (n + q) (by omega)
        show ctv tv (n + q) + tv (n + q) ≤ _
        omega
    have := hs (mn - n) (by omega)
    rw [show n + (mn - n) = mn by omega, ha] at this
    omega
  intro k hk
  have a := key k (by omega)
  have b := key (k + 1) (by omega)
  have c := ctv_le h (k := k) (by omega)
  have c2 := ctv_le h (k := k + 1) (by omega)
  have e : ctv tv (k + 1) = ctv tv k + tv k := rfl
  omega
theorem ctv_none (ha : ctv tv mn = 0) : ∀ k, k < mn → tv k = 0 := fun k hk => by
  have a := ctv_mono (tv := tv) (show k + 1 ≤ mn from hk)
  have e : ctv tv (k + 1) = ctv tv k + tv k := rfl
  omega
/-- what is true is moved to a place before it -/
def LVD (U V : Ud) (tv : Nat → Nat) (fr mn tq : Nat) : Prop := (∀ i, i < mn → tv i = 1 → (V.2.2.1 129 10).2 (tq + ctv tv i) = (U.2.2.1 129 10).2 (fr + i)) ∧ (∀ i, i < tq → (V.2.2.1 129 10).2 i = (U.2.2.1 129 10).2 i) ∧ ∀ i, fr + mn ≤ i → (V.2.2.1 129 10).2 i = (U.2.2.1 129 10).2 i
def F279 : Uf := ⟨[], [], [(129, 10)], [], [], false⟩
def F279b : Uf := ⟨[], [], [(129, 10)], [], [], false⟩
/-- PathProver$Relation.leave([IIII)I -/
abbrev mu_m279 : ev_M := (9, (some .int), [], ev_b279)
theorem mu_g279 : mu_good mu_m279 := mu_goodk ev_k279
theorem rl_leave (h : um m H) (e : ud m H = U) (htv : ∀ q, q < mn → (U.2.2.1 100 9).2 q = nI (tv q) ∧ tv q ≤ 1) (h9 : mn ≤ 1024) (htq : tq ≤ fr) (hfr : fr + mn ≤ (U.2.2.1 129 10).1) (hln : (U.2.2.1 129 10).1 ≤ 16777216) : mu_TI (mu_D (d + 1)) 279 [.inr (.inr (some 129)), .inr (.inr (some 107)), .inl (nI fr), .inl (nI mn), .inl (nI tq)] H (fun x H1 => x = nI (ctv tv mn) ∧ um m H1 ∧ ur m C H H1 ∧ uq F279 U (ud m H1) ∧ LVD U (ud m H1) tv fr mn tq) := by
  refine mu_meth (M := mu_m279) rfl rfl ?_
  refine mw_ht (mu_fn_of (show [0, 1, 2, 3, 4].Nodup by decide)) ?_
  refine mw_go mu_g279 (k := 4) (f1 := (6, [(6, .inl (0 : Int32)), (5, .inl (0 : Int32)), (0, .inr (.inr (some 129))), (1, .inr (.inr (some 107))), (2, .inl (nI fr)), (3, .inl (nI mn)), (4, .inl (nI tq))], [], H)) (C := []) rfl trivial ?_
  show mu_W _ _ (6, [(6, .inl (nI 0)), (5, .inl (nI (ctv tv 0))), (0, .inr (.inr (some 129))), (1, .inr (.inr (some 107))), (2, .inl (nI fr)), (3, .inl (nI mn)), (4, .inl (nI tq))], [], H) _
  refine mw_sub (L' := [(6, .inl (nI 0)), (5, .inl (nI (ctv tv 0))), (0, .inr (.inr (some 129))), (1, .inr (.inr (some 107))), (2, .inl (nI fr)), (3, .inl (nI mn)), (4, .inl (nI tq))]) (by simp) ?_
  refine mw_down (α := Nat) (fun zs => (6, [(6, .inl (nI zs)), (5, .inl (nI (ctv tv zs))), (0, .inr (.inr (some 129))), (1, .inr (.inr (some 107))), (2, .inl (nI fr)), (3, .inl (nI mn)), (4, .inl (nI tq))], [], H)) (fun zs => mn - zs) (fun zs => (zs ≤ mn)) (fun zs hza iha => ?_) 0 (show 0 ≤ mn from (by omega))
  obtain ⟨k, rfl⟩ : ∃ y, y = zs := ⟨zs, rfl⟩
  have hk := hza
  have hk : k ≤ mn := hk
  show mu_W _ _ (6, [(6, .inl (nI k)), (5, .inl (nI (ctv tv k))), (0, .inr (.inr (some 129))), (1, .inr (.inr (some 107))), (2, .inl (nI fr)), (3, .inl (nI mn)), (4, .inl (nI tq))], [], H) _
  refine mw_go mu_g279 (k := 2) (f1 := (9, [(6, .inl (nI k)), (5, .inl (nI (ctv tv k))), (0, .inr (.inr (some 129))), (1, .inr (.inr (some 107))), (2, .inl (nI fr)), (3, .inl (nI mn)), (4, .inl (nI tq))], [.inl (nI mn), .inl (nI k)], H)) (C := []) rfl trivial ?_
  refine mw_if (P := (nI k) < (nI mn)) (a := 12) (b := 27) (fun _ => rfl) trivial (fun h1 => ?_) (fun h1 => ?_)
  · -- 12: (nI k) < (nI mn)
    have nh1 : k < mn := (nI_ltI (by omega) (by omega)).mp (show nI k < nI mn from h1)
    refine mw_go mu_g279 (k := 4) (f1 := (18, [(6, .inl (nI k)), (5, .inl (nI (ctv tv k))), (0, .inr (.inr (some 129))), (1, .inr (.inr (some 107))), (2, .inl (nI fr)), (3, .inl (nI mn)), (4, .inl (nI tq))], [.inl (mu_i H 107 (nI k).toNatClampNeg), .inl (nI (ctv tv k))], H)) (C := [mu_isr H (some 107) 100, vp_in (nI k) (mu_n H 107)]) rfl (show (mu_isr H (some 107) 100) ∧ (vp_in (nI k) (mu_n H 107)) from ⟨((h.iA e rfl rfl ((ud_q (m := m) (P := 100) (j := 9) e rfl).symm.trans (h.1.1.r (p := 100) (j := 9) (q := 107) rfl)))).r, (by rw [show mu_n H 107 = 1024 from (h.1.1.a (p := 107) (x := (100, 1024)) rfl).2]; exact vp_in_nI (n := k) (by omega) (by decide))⟩) ?_
    rw [(show (mu_i H 107 (nI k).toNatClampNeg) = (nI (tv k)) from ((congrArg (mu_i H 107) (show (nI k).toNatClampNeg = k from nI_clamp (by omega))).trans (h.gA e rfl rfl ((ud_q (m := m) (P := 100) (j := 9) e rfl).symm.trans (h.1.1.r (p := 100) (j := 9) (q := 107) rfl)))).trans ((congrArg (fun z => z.2 k) (show U.2.2.1 100 9 = (U.2.2.1 100 9) from rfl)).trans (htv k (by omega)).1))]
    refine mw_go mu_g279 (k := 1) (f1 := (19, [(6, .inl (nI k)), (5, .inl (nI (ctv tv k))), (0, .inr (.inr (some 129))), (1, .inr (.inr (some 107))), (2, .inl (nI fr)), (3, .inl (nI mn)), (4, .inl (nI tq))], [.inl ((nI (ctv tv k)) + (nI (tv k)))], H)) (C := []) rfl trivial ?_
    rw [(show ((nI (ctv tv k)) + (nI (tv k))) = (nI ((ctv tv k) + (tv k))) from (nI_add (ctv tv k) (tv k)))]
    refine mw_go mu_g279 (k := 2) (f1 := (24, [(6, .inl ((nI k) + 1)), (5, .inl (nI ((ctv tv k) + (tv k)))), (0, .inr (.inr (some 129))), (1, .inr (.inr (some 107))), (2, .inl (nI fr)), (3, .inl (nI mn)), (4, .inl (nI tq))], [], H)) (C := []) rfl trivial ?_
    rw [(show ((nI k) + 1) = (nI (k + 1)) from (nI_add k 1))]
    refine mw_go mu_g279 (k := 1) (f1 := (6, [(6, .inl (nI (k + 1))), (5, .inl (nI ((ctv tv k) + (tv k)))), (0, .inr (.inr (some 129))), (1, .inr (.inr (some 107))), (2, .inl (nI fr)), (3, .inl (nI mn)), (4, .inl (nI tq))], [], H)) (C := []) rfl trivial ?_
    show mu_W _ _ (6, [(6, .inl (nI (k + 1))), (5, .inl (nI (ctv tv (k + 1)))), (0, .inr (.inr (some 129))), (1, .inr (.inr (some 107))), (2, .inl (nI fr)), (3, .inl (nI mn)), (4, .inl (nI tq))], [], H) _
    exact mw_sub (by simp) (iha (k + 1) (show (k + 1) ≤ mn from (by omega)) (by show mn - (k + 1) < mn - k; omega))
  · -- 27: not (nI k) < (nI mn)
    have nh1 : ¬ k < mn := fun z => h1 (show nI k < nI mn from (nI_ltI (by omega) (by omega)).mpr z)
    have hke : k = mn := by omega
    rw [hke]
    have hcm := ctv_le (fun q hq => (htv q hq).2) (Nat.le_refl mn)
    refine mw_go mu_g279 (k := 2) (f1 := (30, [(6, .inl (nI mn)), (5, .inl (nI (ctv tv mn))), (0, .inr (.inr (some 129))), (1, .inr (.inr (some 107))), (2, .inl (nI fr)), (3, .inl (nI mn)), (4, .inl (nI tq))], [.inl (nI mn), .inl (nI (ctv tv mn))], H)) (C := []) rfl trivial ?_
    refine mw_if (P := (nI (ctv tv mn)) = (nI mn)) (a := 33) (b := 50) (fun _ => rfl) trivial (fun h2 => ?_) (fun h2 => ?_)
    · -- 33: (nI (ctv tv mn)) = (nI mn)
      have nh2 : (ctv tv mn) = mn := (nI_eq (by omega) (by omega)).mp (show nI (ctv tv mn) = nI mn from h2)
      refine mw_go mu_g279 (k := 2) (f1 := (37, [(6, .inl (nI mn)), (5, .inl (nI (ctv tv mn))), (0, .inr (.inr (some 129))), (1, .inr (.inr (some 107))), (2, .inl (nI fr)), (3, .inl (nI mn)), (4, .inl (nI tq))], [.inr (.inr (mu_r H 129 10))], H)) (C := [mu_is H (some 129) 9]) rfl (show mu_is H (some 129) 9 from (h.1.1.is rfl)) ?_
      rw [(show mu_r H 129 10 = (U.2.2.2.1 129 10) from (ud_q (U := U) (m := m) (P := 129) (j := 10) e rfl))]
      refine mw_go mu_g279 (k := 3) (f1 := (42, [(6, .inl (nI mn)), (5, .inl (nI (ctv tv mn))), (0, .inr (.inr (some 129))), (1, .inr (.inr (some 107))), (2, .inl (nI fr)), (3, .inl (nI mn)), (4, .inl (nI tq))], [.inr (.inr (mu_r H 129 10)), .inl (nI fr), .inr (.inr (U.2.2.2.1 129 10))], H)) (C := [mu_is H (some 129) 9]) rfl (show mu_is H (some 129) 9 from (h.1.1.is rfl)) ?_
      rw [(show mu_r H 129 10 = (U.2.2.2.1 129 10) from (ud_q (U := U) (m := m) (P := 129) (j := 10) e rfl))]
      refine mw_go mu_g279 (k := 2) (f1 := (45, [(6, .inl (nI mn)), (5, .inl (nI (ctv tv mn))), (0, .inr (.inr (some 129))), (1, .inr (.inr (some 107))), (2, .inl (nI fr)), (3, .inl (nI mn)), (4, .inl (nI tq))], [.inl (nI mn), .inl (nI tq), .inr (.inr (U.2.2.2.1 129 10)), .inl (nI fr), .inr (.inr (U.2.2.2.1 129 10))], H)) (C := []) rfl trivial ?_
      refine mw_copyI (t := 0) rfl (show mu_is H (U.2.2.2.1 129 10) 100 from (h.iA e rfl rfl (show U.2.2.2.1 129 10 = (U.2.2.2.1 129 10) from rfl))) (show mu_is H (U.2.2.2.1 129 10) 100 from (h.iA e rfl rfl (show U.2.2.2.1 129 10 = (U.2.2.2.1 129 10) from rfl))) (by decide) (nI_pos (by omega)) (nI_pos (by omega)) (nI_pos (by omega)) (by rw [show mu_n H (mu_p (U.2.2.2.1 129 10)) = (U.2.2.1 129 10).1 from (h.nA e rfl rfl (show U.2.2.2.1 129 10 = (U.2.2.2.1 129 10) from rfl) (show (U.2.2.1 129 10).1 = (U.2.2.1 129 10).1 from rfl)), (show (nI fr).toNatClampNeg = fr from nI_clamp (by omega)), (show (nI mn).toNatClampNeg = mn from nI_clamp (by omega))]; omega) (by rw [show mu_n H (mu_p (U.2.2.2.1 129 10)) = (U.2.2.1 129 10).1 from (h.nA e rfl rfl (show U.2.2.2.1 129 10 = (U.2.2.2.1 129 10) from rfl) (show (U.2.2.1 129 10).1 = (U.2.2.1 129 10).1 from rfl)), (show (nI tq).toNatClampNeg = tq from nI_clamp (by omega)), (show (nI mn).toNatClampNeg = mn from nI_clamp (by omega))]; omega) (fun z => by cases z) (by decide) ?_
      rw [(show (nI fr).toNatClampNeg = fr from nI_clamp (by omega)), (show (nI tq).toNatClampNeg = tq from nI_clamp (by omega)), (show (nI mn).toNatClampNeg = mn from nI_clamp (by omega))]
      show mu_W _ _ (48, [(6, .inl (nI mn)), (5, .inl (nI (ctv tv mn))), (0, .inr (.inr (some 129))), (1, .inr (.inr (some 107))), (2, .inl (nI fr)), (3, .inl (nI mn)), (4, .inl (nI tq))], [], (mu_cpi H (mu_p (U.2.2.2.1 129 10)) fr (mu_p (U.2.2.2.1 129 10)) tq mn)) _
      obtain ⟨u3, r3, d3⟩ : um m (mu_cpi H (mu_p (U.2.2.2.1 129 10)) fr (mu_p (U.2.2.2.1 129 10)) tq mn) ∧ ur m C H (mu_cpi H (mu_p (U.2.2.2.1 129 10)) fr (mu_p (U.2.2.2.1 129 10)) tq mn) ∧ ud m (mu_cpi H (mu_p (U.2.2.2.1 129 10)) fr (mu_p (U.2.2.2.1 129 10)) tq mn) = (upF U 129 10 tq (fun i => (U.2.2.1 129 10).2 (fr + i)) mn) := h.cA (C := C) e rfl rfl (show U.2.2.2.1 129 10 = (U.2.2.2.1 129 10) from rfl) rfl rfl (show U.2.2.2.1 129 10 = (U.2.2.2.1 129 10) from rfl)
      generalize (mu_cpi H (mu_p (U.2.2.2.1 129 10)) fr (mu_p (U.2.2.2.1 129 10)) tq mn) = Q3 at u3 r3 d3 ⊢
      have qf3 : uq F279 U (upF U 129 10 tq (fun i => (U.2.2.1 129 10).2 (fr + i)) mn) := (uq.refl F279 U).F rfl
      have ht3 : ur m C H Q3 := (ur.refl m C H).trans r3
      refine mw_go mu_g279 (k := 1) (f1 := (49, [(6, .inl (nI mn)), (5, .inl (nI (ctv tv mn))), (0, .inr (.inr (some 129))), (1, .inr (.inr (some 107))), (2, .inl (nI fr)), (3, .inl (nI mn)), (4, .inl (nI tq))], [.inl (nI mn)], Q3)) (C := []) rfl trivial ?_
      have hal := ctv_all (fun q hq => (htv q hq).2) (show ctv tv mn = mn by omega)
      exact mw_of (fun _ => mu_ret rfl trivial ⟨_, Q3, rfl, congrArg nI (show mn = ctv tv mn by omega), u3, ht3, (by rw [d3]; exact qf3), (by rw [d3]; exact ⟨fun i hi _ => by rw [(hal i hi).2, (show ∀ i, ((upF U 129 10 tq (fun i => (U.2.2.1 129 10).2 (fr + i)) mn).2.2.1 129 10).2 i = if tq ≤ i ∧ i < tq + mn then (U.2.2.1 129 10).2 (fr + (i - tq)) else (U.2.2.1 129 10).2 i from fun _ => rfl), if_pos ⟨by omega, by omega⟩, show fr + (tq + i - tq) = fr + i by omega], fun i hi => by rw [(show ∀ i, ((upF U 129 10 tq (fun i => (U.2.2.1 129 10).2 (fr + i)) mn).2.2.1 129 10).2 i = if tq ≤ i ∧ i < tq + mn then (U.2.2.1 129 10).2 (fr + (i - tq)) else (U.2.2.1 129 10).2 i from fun _ => rfl), if_neg (by omega)], fun i hi => by rw [(show ∀ i, ((upF U 129 10 tq (fun i => (U.2.2.1 129 10).2 (fr + i)) mn).2.2.1 129 10).2 i = if tq ≤ i ∧ i < tq + mn then (U.2.2.1 129 10).2 (fr + (i - tq)) else (U.2.2.1 129 10).2 i from fun _ => rfl), if_neg (by omega)]⟩)⟩)
    · -- 50: not (nI (ctv tv mn)) = (nI mn)
      have nh2 : ¬ (ctv tv mn) = mn := fun z => h2 (show nI (ctv tv mn) = nI mn from (nI_eq (by omega) (by omega)).mpr z)
      refine mw_go mu_g279 (k := 2) (f1 := (54, [(6, .inl (nI mn)), (5, .inl (nI (ctv tv mn))), (0, .inr (.inr (some 129))), (1, .inr (.inr (some 107))), (2, .inl (nI fr)), (3, .inl (nI mn)), (4, .inl (nI tq))], [.inr (.inr (mu_r H 129 10))], H)) (C := [mu_is H (some 129) 9]) rfl (show mu_is H (some 129) 9 from (h.1.1.is rfl)) ?_
      rw [(show mu_r H 129 10 = (U.2.2.2.1 129 10) from (ud_q (U := U) (m := m) (P := 129) (j := 10) e rfl))]
      refine mw_go mu_g279 (k := 5) (f1 := (63, [(8, .inl (0 : Int32)), (7, .inl (nI tq)), (6, .inr (.inr (U.2.2.2.1 129 10))), (5, .inl (nI (ctv tv mn))), (0, .inr (.inr (some 129))), (1, .inr (.inr (some 107))), (2, .inl (nI fr)), (3, .inl (nI mn)), (4, .inl (nI tq))], [], H)) (C := []) rfl trivial ?_
      show mu_W _ _ (63, [(8, .inl (nI 0)), (7, .inl (nI (tq + ctv tv 0))), (6, .inr (.inr (U.2.2.2.1 129 10))), (5, .inl (nI (ctv tv mn))), (0, .inr (.inr (some 129))), (1, .inr (.inr (some 107))), (2, .inl (nI fr)), (3, .inl (nI mn)), (4, .inl (nI tq))], [], H) _
      refine mw_sub (L' := [(8, .inl (nI 0)), (7, .inl (nI (tq + ctv tv 0))), (0, .inr (.inr (some 129))), (1, .inr (.inr (some 107))), (2, .inl (nI fr)), (3, .inl (nI mn)), (4, .inl (nI tq)), (5, .inl (nI (ctv tv mn))), (6, .inr (.inr (U.2.2.2.1 129 10)))]) (by simp) ?_
      refine mw_down (α := Nat × mu_H) (fun zs => (63, [(8, .inl (nI zs.1)), (7, .inl (nI (tq + ctv tv zs.1))), (0, .inr (.inr (some 129))), (1, .inr (.inr (some 107))), (2, .inl (nI fr)), (3, .inl (nI mn)), (4, .inl (nI tq)), (5, .inl (nI (ctv tv mn))), (6, .inr (.inr (U.2.2.2.1 129 10)))], [], zs.2)) (fun zs => mn - zs.1) (fun zs => um m zs.2 ∧ ur m C H zs.2 ∧ (uq F279b U (ud m zs.2)) ∧ (zs.1 ≤ mn) ∧ (∀ i, i < zs.1 → tv i = 1 → ((ud m zs.2).2.2.1 129 10).2 (tq + ctv tv i) = (U.2.2.1 129 10).2 (fr + i)) ∧ (∀ i, i < tq → ((ud m zs.2).2.2.1 129 10).2 i = (U.2.2.1 129 10).2 i) ∧ (∀ i, fr + zs.1 ≤ i → ((ud m zs.2).2.2.1 129 10).2 i = (U.2.2.1 129 10).2 i)) (fun zs hzb ihb => ?_) (0, H) ⟨h, (ur.refl m C H), (show uq F279b U (ud m H) from by rw [e]; exact uq.refl _ _), (show 0 ≤ mn from (by omega)), (show ∀ i, i < 0 → tv i = 1 → ((ud m H).2.2.1 129 10).2 (tq + ctv tv i) = (U.2.2.1 129 10).2 (fr + i) from by rw [e]; exact (fun i hi => absurd hi (Nat.not_lt_zero _))), (show ∀ i, i < tq → ((ud m H).2.2.1 129 10).2 i = (U.2.2.1 129 10).2 i from by rw [e]; exact (fun _ _ => rfl)), (show ∀ i, fr + 0 ≤ i → ((ud m H).2.2.1 129 10).2 i = (U.2.2.1 129 10).2 i from by rw [e]; exact (fun _ _ => rfl))⟩
      obtain ⟨y, Hsb⟩ := zs
      obtain ⟨ub, htb, db, hy, hA, hB, hD⟩ := hzb
      have ub : um m Hsb := ub
      have htb : ur m C H Hsb := htb
      have zzb : uq F279b U (ud m Hsb) := db
      have hy : y ≤ mn := hy
      have hA : ∀ i, i < y → tv i = 1 → ((ud m Hsb).2.2.1 129 10).2 (tq + ctv tv i) = (U.2.2.1 129 10).2 (fr + i) := hA
      have hB : ∀ i, i < tq → ((ud m Hsb).2.2.1 129 10).2 i = (U.2.2.1 129 10).2 i := hB
      have hD : ∀ i, fr + y ≤ i → ((ud m Hsb).2.2.1 129 10).2 i = (U.2.2.1 129 10).2 i := hD
      obtain ⟨Vb, db⟩ : ∃ V, ud m Hsb = V := ⟨_, rfl⟩
      rw [db] at zzb hA hB hD
      have qfb : uq F279 U Vb := (uq.refl F279 U).tr zzb rfl
      show mu_W _ _ (63, [(8, .inl (nI y)), (7, .inl (nI (tq + ctv tv y))), (0, .inr (.inr (some 129))), (1, .inr (.inr (some 107))), (2, .inl (nI fr)), (3, .inl (nI mn)), (4, .inl (nI tq)), (5, .inl (nI (ctv tv mn))), (6, .inr (.inr (U.2.2.2.1 129 10)))], [], Hsb) _
      refine mw_go mu_g279 (k := 2) (f1 := (66, [(8, .inl (nI y)), (7, .inl (nI (tq + ctv tv y))), (0, .inr (.inr (some 129))), (1, .inr (.inr (some 107))), (2, .inl (nI fr)), (3, .inl (nI mn)), (4, .inl (nI tq)), (5, .inl (nI (ctv tv mn))), (6, .inr (.inr (U.2.2.2.1 129 10)))], [.inl (nI mn), .inl (nI y)], Hsb)) (C := []) rfl trivial ?_
      refine mw_if (P := (nI y) < (nI mn)) (a := 69) (b := 101) (fun _ => rfl) trivial (fun h4 => ?_) (fun h4 => ?_)
      · -- 69: (nI y) < (nI mn)
        have nh4 : y < mn := (nI_ltI (by omega) (by omega)).mp (show nI y < nI mn from h4)
        refine mw_go mu_g279 (k := 1) (f1 := (71, [(8, .inl (nI y)), (7, .inl (nI (tq + ctv tv y))), (0, .inr (.inr (some 129))), (1, .inr (.inr (some 107))), (2, .inl (nI fr)), (3, .inl (nI mn)), (4, .inl (nI tq)), (5, .inl (nI (ctv tv mn))), (6, .inr (.inr (U.2.2.2.1 129 10)))], [.inl (nI (ctv tv mn))], Hsb)) (C := []) rfl trivial ?_
        refine mw_if (P := 0 < (nI (ctv tv mn))) (a := 74) (b := 101) (fun _ => rfl) trivial (fun h5 => ?_) (fun h5 => ?_)
        · -- 74: 0 < (nI (ctv tv mn))
          have nh5 : 0 < (ctv tv mn) := (nI_ltI (by omega) (by omega)).mp (show nI 0 < nI (ctv tv mn) from h5)
          have hcy := ctv_le (fun q hq => (htv q hq).2) hy
          refine mw_go mu_g279 (k := 6) (f1 := (84, [(8, .inl (nI y)), (7, .inl (nI (tq + ctv tv y))), (0, .inr (.inr (some 129))), (1, .inr (.inr (some 107))), (2, .inl (nI fr)), (3, .inl (nI mn)), (4, .inl (nI tq)), (5, .inl (nI (ctv tv mn))), (6, .inr (.inr (U.2.2.2.1 129 10)))], [.inl ((nI fr) + (nI y)), .inr (.inr (U.2.2.2.1 129 10)), .inl (nI (tq + ctv tv y)), .inr (.inr (U.2.2.2.1 129 10))], Hsb)) (C := []) rfl trivial ?_
          rw [(show ((nI fr) + (nI y)) = (nI (fr + y)) from (nI_add fr y))]
          refine mw_go mu_g279 (k := 1) (f1 := (85, [(8, .inl (nI y)), (7, .inl (nI (tq + ctv tv y))), (0, .inr (.inr (some 129))), (1, .inr (.inr (some 107))), (2, .inl (nI fr)), (3, .inl (nI mn)), (4, .inl (nI tq)), (5, .inl (nI (ctv tv mn))), (6, .inr (.inr (U.2.2.2.1 129 10)))], [.inl (mu_i Hsb (mu_p (U.2.2.2.1 129 10)) (nI (fr + y)).toNatClampNeg), .inl (nI (tq + ctv tv y)), .inr (.inr (U.2.2.2.1 129 10))], Hsb)) (C := [mu_isr Hsb (U.2.2.2.1 129 10) 100, vp_in (nI (fr + y)) (mu_n Hsb (mu_p (U.2.2.2.1 129 10)))]) rfl (show (mu_isr Hsb (U.2.2.2.1 129 10) 100) ∧ (vp_in (nI (fr + y)) (mu_n Hsb (mu_p (U.2.2.2.1 129 10)))) from ⟨((ub.iA db rfl rfl (show Vb.2.2.2.1 129 10 = (U.2.2.2.1 129 10) from (zzb.r 129 10 rfl)))).r, (ub.vA (i := fr + y) db rfl rfl (show Vb.2.2.2.1 129 10 = (U.2.2.2.1 129 10) from (zzb.r 129 10 rfl)) (show (Vb.2.2.1 129 10).1 = (U.2.2.1 129 10).1 from (zzb.n 129 10 rfl)) (by omega) (by omega))⟩) ?_
          rw [(show (mu_i Hsb (mu_p (U.2.2.2.1 129 10)) (nI (fr + y)).toNatClampNeg) = ((Vb.2.2.1 129 10).2 (fr + y)) from ((congrArg (mu_i Hsb (mu_p (U.2.2.2.1 129 10))) (show (nI (fr + y)).toNatClampNeg = fr + y from nI_clamp (by omega))).trans (ub.gA db rfl rfl (show Vb.2.2.2.1 129 10 = (U.2.2.2.1 129 10) from (zzb.r 129 10 rfl)))).trans ((congrArg (fun z => z.2 (fr + y)) (show Vb.2.2.1 129 10 = (Vb.2.2.1 129 10) from rfl)).trans rfl))]
          refine mw_go mu_g279 (k := 1) (f1 := (86, [(8, .inl (nI y)), (7, .inl (nI (tq + ctv tv y))), (0, .inr (.inr (some 129))), (1, .inr (.inr (some 107))), (2, .inl (nI fr)), (3, .inl (nI mn)), (4, .inl (nI tq)), (5, .inl (nI (ctv tv mn))), (6, .inr (.inr (U.2.2.2.1 129 10)))], [], (mu_si Hsb (mu_p (U.2.2.2.1 129 10)) (nI (tq + ctv tv y)).toNatClampNeg ((Vb.2.2.1 129 10).2 (fr + y))))) (C := [mu_is Hsb (U.2.2.2.1 129 10) 100, vp_in (nI (tq + ctv tv y)) (mu_n Hsb (mu_p (U.2.2.2.1 129 10)))]) rfl (show (mu_is Hsb (U.2.2.2.1 129 10) 100) ∧ (vp_in (nI (tq + ctv tv y)) (mu_n Hsb (mu_p (U.2.2.2.1 129 10)))) from ⟨(ub.iA db rfl rfl (show Vb.2.2.2.1 129 10 = (U.2.2.2.1 129 10) from (zzb.r 129 10 rfl))), (ub.vA (i := tq + ctv tv y) db rfl rfl (show Vb.2.2.2.1 129 10 = (U.2.2.2.1 129 10) from (zzb.r 129 10 rfl)) (show (Vb.2.2.1 129 10).1 = (U.2.2.1 129 10).1 from (zzb.n 129 10 rfl)) (by omega) (by omega))⟩) ?_
          rw [(show (nI (tq + ctv tv y)).toNatClampNeg = tq + ctv tv y from nI_clamp (by omega))]
          obtain ⟨u6, r6, d6⟩ : um m (mu_si Hsb (mu_p (U.2.2.2.1 129 10)) (tq + ctv tv y) ((Vb.2.2.1 129 10).2 (fr + y))) ∧ ur m C Hsb (mu_si Hsb (mu_p (U.2.2.2.1 129 10)) (tq + ctv tv y) ((Vb.2.2.1 129 10).2 (fr + y))) ∧ ud m (mu_si Hsb (mu_p (U.2.2.2.1 129 10)) (tq + ctv tv y) ((Vb.2.2.1 129 10).2 (fr + y))) = (upA Vb 129 10 (tq + ctv tv y) ((Vb.2.2.1 129 10).2 (fr + y))) := ub.sA (C := C) db rfl rfl (show Vb.2.2.2.1 129 10 = (U.2.2.2.1 129 10) from (zzb.r 129 10 rfl))
          generalize (mu_si Hsb (mu_p (U.2.2.2.1 129 10)) (tq + ctv tv y) ((Vb.2.2.1 129 10).2 (fr + y))) = Q6 at u6 r6 d6 ⊢
          have qf6 : uq F279 U (upA Vb 129 10 (tq + ctv tv y) ((Vb.2.2.1 129 10).2 (fr + y))) := qfb.A rfl
          have ht6 : ur m C H Q6 := htb.trans r6
          refine mw_go mu_g279 (k := 4) (f1 := (92, [(8, .inl (nI y)), (7, .inl (nI (tq + ctv tv y))), (0, .inr (.inr (some 129))), (1, .inr (.inr (some 107))), (2, .inl (nI fr)), (3, .inl (nI mn)), (4, .inl (nI tq)), (5, .inl (nI (ctv tv mn))), (6, .inr (.inr (U.2.2.2.1 129 10)))], [.inl (mu_i Q6 107 (nI y).toNatClampNeg), .inl (nI (tq + ctv tv y))], Q6)) (C := [mu_isr Q6 (some 107) 100, vp_in (nI y) (mu_n Q6 107)]) rfl (show (mu_isr Q6 (some 107) 100) ∧ (vp_in (nI y) (mu_n Q6 107)) from ⟨((u6.iA d6 rfl rfl ((ud_q (m := m) (P := 100) (j := 9) d6 rfl).symm.trans (u6.1.1.r (p := 100) (j := 9) (q := 107) rfl)))).r, (by rw [show mu_n Q6 107 = 1024 from (u6.1.1.a (p := 107) (x := (100, 1024)) rfl).2]; exact vp_in_nI (n := y) (by omega) (by decide))⟩) ?_
          rw [(show (mu_i Q6 107 (nI y).toNatClampNeg) = (nI (tv y)) from ((congrArg (mu_i Q6 107) (show (nI y).toNatClampNeg = y from nI_clamp (by omega))).trans (u6.gA d6 rfl rfl ((ud_q (m := m) (P := 100) (j := 9) d6 rfl).symm.trans (u6.1.1.r (p := 100) (j := 9) (q := 107) rfl)))).trans ((congrArg (fun z => z.2 y) (show (upA Vb 129 10 (tq + ctv tv y) ((Vb.2.2.1 129 10).2 (fr + y))).2.2.1 100 9 = (U.2.2.1 100 9) from (zzb.a 100 9 rfl))).trans (htv y (by omega)).1))]
          refine mw_go mu_g279 (k := 1) (f1 := (93, [(8, .inl (nI y)), (7, .inl (nI (tq + ctv tv y))), (0, .inr (.inr (some 129))), (1, .inr (.inr (some 107))), (2, .inl (nI fr)), (3, .inl (nI mn)), (4, .inl (nI tq)), (5, .inl (nI (ctv tv mn))), (6, .inr (.inr (U.2.2.2.1 129 10)))], [.inl ((nI (tq + ctv tv y)) + (nI (tv y)))], Q6)) (C := []) rfl trivial ?_
          rw [(show ((nI (tq + ctv tv y)) + (nI (tv y))) = (nI ((tq + ctv tv y) + (tv y))) from (nI_add (tq + ctv tv y) (tv y)))]
          refine mw_go mu_g279 (k := 2) (f1 := (98, [(8, .inl ((nI y) + 1)), (7, .inl (nI ((tq + ctv tv y) + (tv y)))), (0, .inr (.inr (some 129))), (1, .inr (.inr (some 107))), (2, .inl (nI fr)), (3, .inl (nI mn)), (4, .inl (nI tq)), (5, .inl (nI (ctv tv mn))), (6, .inr (.inr (U.2.2.2.1 129 10)))], [], Q6)) (C := []) rfl trivial ?_
          rw [(show ((nI y) + 1) = (nI (y + 1)) from (nI_add y 1))]
          refine mw_go mu_g279 (k := 1) (f1 := (63, [(8, .inl (nI (y + 1))), (7, .inl (nI ((tq + ctv tv y) + (tv y)))), (0, .inr (.inr (some 129))), (1, .inr (.inr (some 107))), (2, .inl (nI fr)), (3, .inl (nI mn)), (4, .inl (nI tq)), (5, .inl (nI (ctv tv mn))), (6, .inr (.inr (U.2.2.2.1 129 10)))], [], Q6)) (C := []) rfl trivial ?_
          rw [show nI (tq + ctv tv y + tv y) = nI (tq + ctv tv (y + 1)) from congrArg nI (Nat.add_assoc _ _ _)]
          exact mw_sub (by simp) (ihb (y + 1, Q6) ⟨u6, ht6, (show uq F279b U (ud m Q6) from by rw [d6]; exact (zzb.A rfl)), (show (y + 1) ≤ mn from (by omega)), (show ∀ i, i < (y + 1) → tv i = 1 → ((ud m Q6).2.2.1 129 10).2 (tq + ctv tv i) = (U.2.2.1 129 10).2 (fr + i) from by rw [d6]; exact (fun i hi h1 => by rw [(show ∀ i, ((upA Vb 129 10 (tq + ctv tv y) ((Vb.2.2.1 129 10).2 (fr + y))).2.2.1 129 10).2 i = if i = tq + ctv tv y then (Vb.2.2.1 129 10).2 (fr + y) else (Vb.2.2.1 129 10).2 i from fun _ => rfl)]; by_cases e0 : i = y; (rw [if_pos (by rw [e0]), hD (fr + y) (Nat.le_refl _), e0]); have y1 := ctv_mono (tv := tv) (show i + 1 ≤ y by omega); have y2 : ctv tv (i + 1) = ctv tv i + tv i := rfl; rw [if_neg (by omega)]; exact hA i (by omega) h1)), (show ∀ i, i < tq → ((ud m Q6).2.2.1 129 10).2 i = (U.2.2.1 129 10).2 i from by rw [d6]; exact (fun i hi => by rw [(show ∀ i, ((upA Vb 129 10 (tq + ctv tv y) ((Vb.2.2.1 129 10).2 (fr + y))).2.2.1 129 10).2 i = if i = tq + ctv tv y then (Vb.2.2.1 129 10).2 (fr + y) else (Vb.2.2.1 129 10).2 i from fun _ => rfl), if_neg (by omega)]; exact hB i hi)), (show ∀ i, fr + (y + 1) ≤ i → ((ud m Q6).2.2.1 129 10).2 i = (U.2.2.1 129 10).2 i from by rw [d6]; exact (fun i hi => by have y1 := ctv_le (fun q hq => (htv q hq).2) hy; rw [(show ∀ i, ((upA Vb 129 10 (tq + ctv tv y) ((Vb.2.2.1 129 10).2 (fr + y))).2.2.1 129 10).2 i = if i = tq + ctv tv y then (Vb.2.2.1 129 10).2 (fr + y) else (Vb.2.2.1 129 10).2 i from fun _ => rfl), if_neg (by omega)]; exact hD i (by omega)))⟩ (by show mn - (y + 1) < mn - y; omega))
        · -- 101: not 0 < (nI (ctv tv mn))
          have nh5 : ¬ 0 < (ctv tv mn) := fun z => h5 (show nI 0 < nI (ctv tv mn) from (nI_ltI (by omega) (by omega)).mpr z)
          refine mw_go mu_g279 (k := 1) (f1 := (103, [(8, .inl (nI y)), (7, .inl (nI (tq + ctv tv y))), (0, .inr (.inr (some 129))), (1, .inr (.inr (some 107))), (2, .inl (nI fr)), (3, .inl (nI mn)), (4, .inl (nI tq)), (5, .inl (nI (ctv tv mn))), (6, .inr (.inr (U.2.2.2.1 129 10)))], [.inl (nI (ctv tv mn))], Hsb)) (C := []) rfl trivial ?_
          exact mw_of (fun _ => mu_ret rfl trivial ⟨_, Hsb, rfl, rfl, ub, htb, (by rw [db]; exact qfb), (by rw [db]; exact ⟨fun i hi h1 => absurd (ctv_none (show ctv tv mn = 0 by omega) i hi) (by omega), hB, fun i hi => hD i (by omega)⟩)⟩)
      · -- 101: not (nI y) < (nI mn)
        have nh4 : ¬ y < mn := fun z => h4 (show nI y < nI mn from (nI_ltI (by omega) (by omega)).mpr z)
        refine mw_go mu_g279 (k := 1) (f1 := (103, [(8, .inl (nI y)), (7, .inl (nI (tq + ctv tv y))), (0, .inr (.inr (some 129))), (1, .inr (.inr (some 107))), (2, .inl (nI fr)), (3, .inl (nI mn)), (4, .inl (nI tq)), (5, .inl (nI (ctv tv mn))), (6, .inr (.inr (U.2.2.2.1 129 10)))], [.inl (nI (ctv tv mn))], Hsb)) (C := []) rfl trivial ?_
        exact mw_of (fun _ => mu_ret rfl trivial ⟨_, Hsb, rfl, rfl, ub, htb, (by rw [db]; exact qfb), (by rw [db]; exact ⟨fun i hi h1 => hA i (by omega) h1, hB, fun i hi => hD i (by omega)⟩)⟩)
end Leave
