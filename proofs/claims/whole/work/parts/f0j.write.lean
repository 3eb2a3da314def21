/-! RELATION: the list is written into a table -/
section WriteList
variable {H : mu_H} {U V : Ud} {m d n l i c N us oc : Nat} {C : Nat → Nat} {ls z : Nat → Nat} {S : Nat → Nat → Bool} {p : Nat → Bool} {Q : Nat → Prop}
theorem FLTR.put (h : FLTR V l i ls Q) (hl : l ≤ i) (hr : ∀ i j, i < j → j < n → ls i < ls j) (hi : i < n) (hq : Q (ls i)) : FLTR (upA V 129 10 l (nI (ls i))) (l + 1) (i + 1) ls Q := by
  obtain ⟨g, h1, h2, h3⟩ := h
  have hlt : ∀ j, j < l → g j < ls i := fun j hj => by
    obtain ⟨k, k1, k2⟩ := (lmz_iff i).mp ((h3 (g j)).mp ((lmz_iff l).mpr ⟨j, hj, rfl⟩)).1
    rw [← k2]
    exact hr k i k1 hi
  refine ⟨fun j => if j = l then ls i else g j, fun j hj => ?_, fun a b ha hb => ?_, fun x => ?_⟩
  · show (if j = l then nI (ls i) else (V.2.2.1 129 10).2 j) = nI (if j = l then ls i else g j)
    by_cases e : j = l
    · rw [if_pos e, if_pos e]
    · rw [if_neg e, if_neg e]
      exact h1 j (by omega)
  · show (if a = l then ls i else g a) < (if b = l then ls i else g b)
    rw [if_neg (by omega)]
    by_cases e : b = l
    · rw [if_pos e]
      exact hlt a (by omega)
    · rw [if_neg e]
      exact h2 a b ha (by omega)
  · have e0 : lmz (fun j => if j = l then ls i else g j) l = lmz g l := lmz_congr (fun j hj => if_neg (by omega))
    show (lmz (fun j => if j = l then ls i else g j) l x || decide ((if l = l then ls i else g l) = x)) = true ↔ (lmz ls i x || decide (ls i = x)) = true ∧ Q x
    rw [e0, if_pos rfl, Bool.or_eq_true, Bool.or_eq_true, h3 x, decide_eq_true_iff]
    constructor
    · rintro (⟨a, b⟩ | a)
      · exact ⟨Or.inl a, b⟩
      · exact ⟨Or.inr a, a ▸ hq⟩
    · rintro ⟨a | a, b⟩
      · exact Or.inl ⟨a, b⟩
      · exact Or.inr a
theorem FLTR.drop (h : FLTR V l i ls Q) (hq : ¬ Q (ls i)) : FLTR (upA V 129 10 l (nI (ls i))) l (i + 1) ls Q := by
  obtain ⟨g, h1, h2, h3⟩ := h
  refine ⟨g, fun j hj => ?_, h2, fun x => ?_⟩
  · show (if j = l then nI (ls i) else (V.2.2.1 129 10).2 j) = nI (g j)
    rw [if_neg (by omega)]
    exact h1 j hj
  · show _ ↔ (lmz ls i x || decide (ls i = x)) = true ∧ Q x
    rw [h3 x, Bool.or_eq_true, decide_eq_true_iff]
    constructor
    · rintro ⟨a, b⟩
      exact ⟨Or.inl a, b⟩
    · rintro ⟨a | a, b⟩
      · exact ⟨a, b⟩
      · exact absurd (a ▸ b) hq
def F387 : Uf := ⟨[], [(113, 1), (113, 2), (129, 11)], [(113, 3), (113, 4), (129, 10), (129, 4)], [(113, 3)], [117], true⟩
def F387w : Uf := ⟨[], [(129, 11)], [(129, 10)], [], [], false⟩
def F387a : Uf := ⟨[], [], [(129, 10)], [], [], false⟩
/-- PathProver$Relation.write(IZ)V -/
abbrev mu_m387 : ev_M := (5, none, [], ev_b387)
theorem mu_g387 : mu_good mu_m387 := mu_goodk ev_k387
theorem rl_write0 (h : um m H) (e : ud m H = U) (hn : U.2.1 129 11 = nI n) (hL : ∀ i, i < n → (U.2.2.1 129 10).2 i = nI (ls i)) (hN : n ≤ (U.2.2.1 129 10).1) (hl10b : (U.2.2.1 129 10).1 < 2147483648) (hb : ∀ i, i < n → ls i < 16384) (hr : ∀ i j, i < j → j < n → ls i < ls j) (hSK : SOK U N us S z p) (hN5 : N < 524288) (hc : c < (U.2.2.1 129 4).1) (hcb : (U.2.2.1 129 4).1 < 2147483648) : mu_TV (mu_D (d + 5)) 387 [.inr (.inr (some 129)), .inl (nI c), .inl (0 : Int32)] H (fun H1 => um m H1 ∧ ur m C H H1 ∧ uq F387 U (ud m H1) ∧ ∃ id l gg V2 V3, uq F387w U V2 ∧ V2.2.1 129 11 = nI l ∧ (∀ j, j < l → (V2.2.2.1 129 10).2 j = nI (gg j)) ∧ (∀ i j, i < j → j < l → gg i < gg j) ∧ (∀ x, lmz gg l x = true ↔ lmz ls n x = true ∧ True) ∧ ADD V2 V3 N us S z p gg l id ∧ ud m H1 = upA V3 129 4 c (nI id)) := by
  refine mu_meth (M := mu_m387) rfl rfl ?_
  refine mw_ht (mu_fn_of (show [0, 1, 2].Nodup by decide)) ?_
  refine mw_go mu_g387 (k := 4) (f1 := (5, [(4, .inl (0 : Int32)), (3, .inl (0 : Int32)), (0, .inr (.inr (some 129))), (1, .inl (nI c)), (2, .inl (0 : Int32))], [], H)) (C := []) rfl trivial ?_
  show mu_W _ _ (5, [(4, .inl (nI 0)), (3, .inl (nI 0)), (0, .inr (.inr (some 129))), (1, .inl (nI c)), (2, .inl (0 : Int32))], [], H) _
  refine mw_sub (L' := [(4, .inl (nI 0)), (3, .inl (nI 0)), (0, .inr (.inr (some 129))), (1, .inl (nI c)), (2, .inl (0 : Int32))]) (by simp) ?_
  refine mw_down (α := Nat × Nat × mu_H) (fun zs => (5, [(4, .inl (nI zs.1)), (3, .inl (nI zs.2.1)), (0, .inr (.inr (some 129))), (1, .inl (nI c)), (2, .inl (0 : Int32))], [], zs.2.2)) (fun zs => n - zs.1) (fun zs => um m zs.2.2 ∧ ur m C H zs.2.2 ∧ (uq F387a U (ud m zs.2.2)) ∧ (zs.1 ≤ n ∧ zs.2.1 ≤ zs.1) ∧ (FLTR (ud m zs.2.2) zs.2.1 zs.1 ls (fun x => True)) ∧ (∀ j, zs.1 ≤ j → j < n → ((ud m zs.2.2).2.2.1 129 10).2 j = nI (ls j))) (fun zs hza iha => ?_) (0, 0, H) ⟨h, (ur.refl m C H), (show uq F387a U (ud m H) from by rw [e]; exact uq.refl _ _), (show 0 ≤ n ∧ 0 ≤ 0 from (by omega)), (show FLTR (ud m H) 0 0 ls (fun x => True) from by rw [e]; exact ⟨fun _ => 0, fun j hj => absurd hj (Nat.not_lt_zero _), fun i j _ hj => absurd hj (Nat.not_lt_zero _), fun x => ⟨fun y => (by cases y), fun y => (by cases y.1)⟩⟩), (show ∀ j, 0 ≤ j → j < n → ((ud m H).2.2.1 129 10).2 j = nI (ls j) from by rw [e]; exact (fun j _ hj => hL j hj))⟩
  obtain ⟨i, l, Hsa⟩ := zs
  obtain ⟨ua, hta, da, hi, hFi, hre⟩ := hza
  have ua : um m Hsa := ua
  have hta : ur m C H Hsa := hta
  have zza : uq F387a U (ud m Hsa) := da
  have hi : i ≤ n ∧ l ≤ i := hi
  have hFi : FLTR (ud m Hsa) l i ls (fun x => True) := hFi
  have hre : ∀ j, i ≤ j → j < n → ((ud m Hsa).2.2.1 129 10).2 j = nI (ls j) := hre
  obtain ⟨Va, da⟩ : ∃ V, ud m Hsa = V := ⟨_, rfl⟩
  rw [da] at zza hFi hre
  have qfa : uq F387 U Va := (uq.refl F387 U).tr zza rfl
  show mu_W _ _ (5, [(4, .inl (nI i)), (3, .inl (nI l)), (0, .inr (.inr (some 129))), (1, .inl (nI c)), (2, .inl (0 : Int32))], [], Hsa) _
  refine mw_go mu_g387 (k := 3) (f1 := (11, [(4, .inl (nI i)), (3, .inl (nI l)), (0, .inr (.inr (some 129))), (1, .inl (nI c)), (2, .inl (0 : Int32))], [.inl (mu_i Hsa 129 11), .inl (nI i)], Hsa)) (C := [mu_is Hsa (some 129) 9]) rfl (show mu_is Hsa (some 129) 9 from (ua.1.1.is rfl)) ?_
  rw [(show mu_i Hsa 129 11 = (nI n) from (ud_i (U := Va) (m := m) (P := 129) (j := 11) da rfl).trans ((zza.i 129 11 rfl).trans hn))]
  refine mw_if (P := (nI i) < (nI n)) (a := 14) (b := 71) (fun _ => rfl) trivial (fun h1 => ?_) (fun h1 => ?_)
  · -- 14: (nI i) < (nI n)
    have nh1 : i < n := (nI_ltI (by omega) (by omega)).mp (show nI i < nI n from h1)
    refine mw_go mu_g387 (k := 2) (f1 := (18, [(4, .inl (nI i)), (3, .inl (nI l)), (0, .inr (.inr (some 129))), (1, .inl (nI c)), (2, .inl (0 : Int32))], [.inr (.inr (mu_r Hsa 129 10))], Hsa)) (C := [mu_is Hsa (some 129) 9]) rfl (show mu_is Hsa (some 129) 9 from (ua.1.1.is rfl)) ?_
    rw [(show mu_r Hsa 129 10 = (U.2.2.2.1 129 10) from (ud_q (U := Va) (m := m) (P := 129) (j := 10) da rfl).trans (zza.r 129 10 rfl))]
    refine mw_go mu_g387 (k := 3) (f1 := (23, [(4, .inl (nI i)), (3, .inl (nI l)), (0, .inr (.inr (some 129))), (1, .inl (nI c)), (2, .inl (0 : Int32))], [.inr (.inr (mu_r Hsa 129 10)), .inl (nI l), .inr (.inr (U.2.2.2.1 129 10))], Hsa)) (C := [mu_is Hsa (some 129) 9]) rfl (show mu_is Hsa (some 129) 9 from (ua.1.1.is rfl)) ?_
    rw [(show mu_r Hsa 129 10 = (U.2.2.2.1 129 10) from (ud_q (U := Va) (m := m) (P := 129) (j := 10) da rfl).trans (zza.r 129 10 rfl))]
    refine mw_go mu_g387 (k := 2) (f1 := (26, [(4, .inl (nI i)), (3, .inl (nI l)), (0, .inr (.inr (some 129))), (1, .inl (nI c)), (2, .inl (0 : Int32))], [.inl (mu_i Hsa (mu_p (U.2.2.2.1 129 10)) (nI i).toNatClampNeg), .inl (nI l), .inr (.inr (U.2.2.2.1 129 10))], Hsa)) (C := [mu_isr Hsa (U.2.2.2.1 129 10) 100, vp_in (nI i) (mu_n Hsa (mu_p (U.2.2.2.1 129 10)))]) rfl (show (mu_isr Hsa (U.2.2.2.1 129 10) 100) ∧ (vp_in (nI i) (mu_n Hsa (mu_p (U.2.2.2.1 129 10)))) from ⟨((ua.iA da rfl rfl (show Va.2.2.2.1 129 10 = (U.2.2.2.1 129 10) from (zza.r 129 10 rfl)))).r, (ua.vA (i := i) da rfl rfl (show Va.2.2.2.1 129 10 = (U.2.2.2.1 129 10) from (zza.r 129 10 rfl)) (show (Va.2.2.1 129 10).1 = (U.2.2.1 129 10).1 from (zza.n 129 10 rfl)) (by omega) (by omega))⟩) ?_
    rw [(show (mu_i Hsa (mu_p (U.2.2.2.1 129 10)) (nI i).toNatClampNeg) = (nI (ls i)) from ((congrArg (mu_i Hsa (mu_p (U.2.2.2.1 129 10))) (show (nI i).toNatClampNeg = i from nI_clamp (by omega))).trans (ua.gA da rfl rfl (show Va.2.2.2.1 129 10 = (U.2.2.2.1 129 10) from (zza.r 129 10 rfl)))).trans ((congrArg (fun z => z.2 i) (show Va.2.2.1 129 10 = (Va.2.2.1 129 10) from rfl)).trans (hre i (Nat.le_refl _) (by omega))))]
    refine mw_go mu_g387 (k := 1) (f1 := (27, [(4, .inl (nI i)), (3, .inl (nI l)), (0, .inr (.inr (some 129))), (1, .inl (nI c)), (2, .inl (0 : Int32))], [], (mu_si Hsa (mu_p (U.2.2.2.1 129 10)) (nI l).toNatClampNeg (nI (ls i))))) (C := [mu_is Hsa (U.2.2.2.1 129 10) 100, vp_in (nI l) (mu_n Hsa (mu_p (U.2.2.2.1 129 10)))]) rfl (show (mu_is Hsa (U.2.2.2.1 129 10) 100) ∧ (vp_in (nI l) (mu_n Hsa (mu_p (U.2.2.2.1 129 10)))) from ⟨(ua.iA da rfl rfl (show Va.2.2.2.1 129 10 = (U.2.2.2.1 129 10) from (zza.r 129 10 rfl))), (ua.vA (i := l) da rfl rfl (show Va.2.2.2.1 129 10 = (U.2.2.2.1 129 10) from (zza.r 129 10 rfl)) (show (Va.2.2.1 129 10).1 = (U.2.2.1 129 10).1 from (zza.n 129 10 rfl)) (by omega) (by omega))⟩) ?_
    rw [(show (nI l).toNatClampNeg = l from nI_clamp (by omega))]
    obtain ⟨u2, r2, d2⟩ : um m (mu_si Hsa (mu_p (U.2.2.2.1 129 10)) l (nI (ls i))) ∧ ur m C Hsa (mu_si Hsa (mu_p (U.2.2.2.1 129 10)) l (nI (ls i))) ∧ ud m (mu_si Hsa (mu_p (U.2.2.2.1 129 10)) l (nI (ls i))) = (upA Va 129 10 l (nI (ls i))) := ua.sA (C := C) da rfl rfl (show Va.2.2.2.1 129 10 = (U.2.2.2.1 129 10) from (zza.r 129 10 rfl))
    generalize (mu_si Hsa (mu_p (U.2.2.2.1 129 10)) l (nI (ls i))) = Q2 at u2 r2 d2 ⊢
    have qf2 : uq F387 U (upA Va 129 10 l (nI (ls i))) := qfa.A rfl
    have ht2 : ur m C H Q2 := hta.trans r2
    refine mw_go mu_g387 (k := 2) (f1 := (29, [(4, .inl (nI i)), (3, .inl (nI l)), (0, .inr (.inr (some 129))), (1, .inl (nI c)), (2, .inl (0 : Int32))], [.inl (0 : Int32), .inl (nI l)], Q2)) (C := []) rfl trivial ?_
    refine mw_if (P := (0 : Int32) = 0) (a := 58) (b := 32) (fun _ => rfl) trivial (fun h3 => ?_) (fun h3 => absurd (by decide) h3)
    refine mw_go mu_g387 (k := 3) (f1 := (64, [(4, .inl (nI i)), (3, .inl (nI l)), (0, .inr (.inr (some 129))), (1, .inl (nI c)), (2, .inl (0 : Int32))], [.inl ((nI l) + (1 : Int32))], Q2)) (C := []) rfl trivial ?_
    rw [(show ((nI l) + (1 : Int32)) = (nI (l + 1)) from (nI_add l 1))]
    refine mw_go mu_g387 (k := 2) (f1 := (68, [(4, .inl ((nI i) + 1)), (3, .inl (nI (l + 1))), (0, .inr (.inr (some 129))), (1, .inl (nI c)), (2, .inl (0 : Int32))], [], Q2)) (C := []) rfl trivial ?_
    rw [(show ((nI i) + 1) = (nI (i + 1)) from (nI_add i 1))]
    refine mw_go mu_g387 (k := 1) (f1 := (5, [(4, .inl (nI (i + 1))), (3, .inl (nI (l + 1))), (0, .inr (.inr (some 129))), (1, .inl (nI c)), (2, .inl (0 : Int32))], [], Q2)) (C := []) rfl trivial ?_
    exact mw_sub (by simp) (iha (i + 1, l + 1, Q2) ⟨u2, ht2, (show uq F387a U (ud m Q2) from by rw [d2]; exact (zza.A rfl)), (show (i + 1) ≤ n ∧ (l + 1) ≤ (i + 1) from (by omega)), (show FLTR (ud m Q2) (l + 1) (i + 1) ls (fun x => True) from by rw [d2]; exact (hFi.put (by omega) hr (by omega) trivial)), (show ∀ j, (i + 1) ≤ j → j < n → ((ud m Q2).2.2.1 129 10).2 j = nI (ls j) from by rw [d2]; exact (fun j k1 k2 => (by show (if j = l then nI (ls i) else (Va.2.2.1 129 10).2 j) = nI (ls j); rw [if_neg (by omega)]; exact hre j (by omega) k2)))⟩ (by show n - (i + 1) < n - i; omega))
  · -- 71: not (nI i) < (nI n)
    have nh1 : ¬ i < n := fun z => h1 (show nI i < nI n from (nI_ltI (by omega) (by omega)).mpr z)
    refine mw_go mu_g387 (k := 3) (f1 := (76, [(4, .inl (nI i)), (3, .inl (nI l)), (0, .inr (.inr (some 129))), (1, .inl (nI c)), (2, .inl (0 : Int32))], [], (mu_si Hsa 129 11 (nI l)))) (C := [mu_is Hsa (some 129) 9]) rfl (show mu_is Hsa (some 129) 9 from (ua.1.1.is rfl)) ?_
    obtain ⟨u4, r4, d4⟩ : um m (mu_si Hsa 129 11 (nI l)) ∧ ur m C Hsa (mu_si Hsa 129 11 (nI l)) ∧ ud m (mu_si Hsa 129 11 (nI l)) = (upI Va 129 11 (nI l)) := ua.sI (C := C) da rfl
    generalize (mu_si Hsa 129 11 (nI l)) = Q4 at u4 r4 d4 ⊢
    have qf4 : uq F387 U (upI Va 129 11 (nI l)) := qfa.I rfl
    have ht4 : ur m C H Q4 := hta.trans r4
    obtain ⟨gg, hg1, hg2, hg3⟩ := id hFi
    have hin : i = n := by omega
    rw [hin] at hg3 hFi
    have hgb : ∀ j, j < l → gg j < 16384 := fun j hj => by obtain ⟨k, k1, k2⟩ := (lmz_iff n).mp ((hg3 (gg j)).mp ((lmz_iff l).mpr ⟨j, hj, rfl⟩)).1; rw [← k2]; exact hb k k1
    have hqw : uq F387w U (upI Va 129 11 (nI l)) := ((uq.refl F387w U).tr zza rfl).I rfl
    have hSv : SOK (upI Va 129 11 (nI l)) N us S z p := hSK.q hqw rfl rfl rfl rfl rfl rfl
    refine mw_go mu_g387 (k := 2) (f1 := (80, [(4, .inl (nI i)), (3, .inl (nI l)), (0, .inr (.inr (some 129))), (1, .inl (nI c)), (2, .inl (0 : Int32))], [.inr (.inr (mu_r Q4 129 4))], Q4)) (C := [mu_is Q4 (some 129) 9]) rfl (show mu_is Q4 (some 129) 9 from (u4.1.1.is rfl)) ?_
    rw [(show mu_r Q4 129 4 = (U.2.2.2.1 129 4) from (ud_q (U := (upI Va 129 11 (nI l))) (m := m) (P := 129) (j := 4) d4 rfl).trans (zza.r 129 4 rfl))]
    refine mw_go mu_g387 (k := 3) (f1 := (85, [(4, .inl (nI i)), (3, .inl (nI l)), (0, .inr (.inr (some 129))), (1, .inl (nI c)), (2, .inl (0 : Int32))], [.inr (.inr (mu_r Q4 129 0)), .inl (nI c), .inr (.inr (U.2.2.2.1 129 4))], Q4)) (C := [mu_is Q4 (some 129) 9]) rfl (show mu_is Q4 (some 129) 9 from (u4.1.1.is rfl)) ?_
    rw [(u4.1.1.r (p := 129) (j := 0) (q := 99) rfl)]
    refine mw_go mu_g387 (k := 1) (f1 := (88, [(4, .inl (nI i)), (3, .inl (nI l)), (0, .inr (.inr (some 129))), (1, .inl (nI c)), (2, .inl (0 : Int32))], [.inr (.inr (mu_r Q4 99 2)), .inl (nI c), .inr (.inr (U.2.2.2.1 129 4))], Q4)) (C := [mu_is Q4 (some 99) 13]) rfl (show mu_is Q4 (some 99) 13 from (u4.1.1.is rfl)) ?_
    rw [(u4.1.1.r (p := 99) (j := 2) (q := 113) rfl)]
    refine mw_go mu_g387 (k := 2) (f1 := (92, [(4, .inl (nI i)), (3, .inl (nI l)), (0, .inr (.inr (some 129))), (1, .inl (nI c)), (2, .inl (0 : Int32))], [.inr (.inr (mu_r Q4 129 10)), .inr (.inr (some 113)), .inl (nI c), .inr (.inr (U.2.2.2.1 129 4))], Q4)) (C := [mu_is Q4 (some 129) 9]) rfl (show mu_is Q4 (some 129) 9 from (u4.1.1.is rfl)) ?_
    rw [(show mu_r Q4 129 10 = (U.2.2.2.1 129 10) from (ud_q (U := (upI Va 129 11 (nI l))) (m := m) (P := 129) (j := 10) d4 rfl).trans (zza.r 129 10 rfl))]
    refine mw_go mu_g387 (k := 2) (f1 := (96, [(4, .inl (nI i)), (3, .inl (nI l)), (0, .inr (.inr (some 129))), (1, .inl (nI c)), (2, .inl (0 : Int32))], [.inl (mu_i Q4 129 11), .inr (.inr (U.2.2.2.1 129 10)), .inr (.inr (some 113)), .inl (nI c), .inr (.inr (U.2.2.2.1 129 4))], Q4)) (C := [mu_is Q4 (some 129) 9]) rfl (show mu_is Q4 (some 129) 9 from (u4.1.1.is rfl)) ?_
    rw [(show mu_i Q4 129 11 = (nI l) from (ud_i (U := (upI Va 129 11 (nI l))) (m := m) (P := 129) (j := 11) d4 rfl))]
    refine mw_cI (fun _ => rfl) (show mu_is Q4 (some 113) 11 from (u4.1.1.is rfl)) (by have y := st_add_129 (d := d) (C := C) (n := l) (ls := gg) u4 d4 hg1 (by rw [(show ((upI Va 129 11 (nI l)).2.2.1 129 10).1 = (U.2.2.1 129 10).1 from (zza.n 129 10 rfl))]; omega) (by rw [(show ((upI Va 129 11 (nI l)).2.2.1 129 10).1 = (U.2.2.1 129 10).1 from (zza.n 129 10 rfl))]; exact hl10b) hgb hg2 hSv hN5; rw [show (upI Va 129 11 (nI l)).2.2.2.1 129 10 = U.2.2.2.1 129 10 from (zza.r 129 10 rfl)] at y; exact y) (fun x5 Q5 q5 => ?_)
    obtain ⟨id, rfl, u5, r5, z5, hAo, hAr⟩ := q5
    have ht5 : ur m C H Q5 := ht4.trans r5
    obtain ⟨V5, d5⟩ : ∃ V, ud m Q5 = V := ⟨_, rfl⟩
    rw [d5] at z5 hAo hAr
    have qf5 : uq F387 U V5 := qf4.tr z5 rfl
    have hAD : ADD (upI Va 129 11 (nI l)) V5 N us S z p gg l id := ⟨z5, hAo, hAr⟩
    have hV3 : ∃ y, y = V5 := ⟨_, rfl⟩
    refine mw_go mu_g387 (k := 1) (f1 := (100, [(4, .inl (nI i)), (3, .inl (nI l)), (0, .inr (.inr (some 129))), (1, .inl (nI c)), (2, .inl (0 : Int32))], [], (mu_si Q5 (mu_p (U.2.2.2.1 129 4)) (nI c).toNatClampNeg (nI id)))) (C := [mu_is Q5 (U.2.2.2.1 129 4) 100, vp_in (nI c) (mu_n Q5 (mu_p (U.2.2.2.1 129 4)))]) rfl (show (mu_is Q5 (U.2.2.2.1 129 4) 100) ∧ (vp_in (nI c) (mu_n Q5 (mu_p (U.2.2.2.1 129 4)))) from ⟨(u5.iA d5 rfl rfl (show V5.2.2.2.1 129 4 = (U.2.2.2.1 129 4) from ((z5.r 129 4 rfl).trans (zza.r 129 4 rfl)))), (u5.vA (i := c) d5 rfl rfl (show V5.2.2.2.1 129 4 = (U.2.2.2.1 129 4) from ((z5.r 129 4 rfl).trans (zza.r 129 4 rfl))) (show (V5.2.2.1 129 4).1 = (U.2.2.1 129 4).1 from ((z5.n 129 4 rfl).trans (zza.n 129 4 rfl))) (by omega) (by omega))⟩) ?_
    rw [(show (nI c).toNatClampNeg = c from nI_clamp (by omega))]
    obtain ⟨u6, r6, d6⟩ : um m (mu_si Q5 (mu_p (U.2.2.2.1 129 4)) c (nI id)) ∧ ur m C Q5 (mu_si Q5 (mu_p (U.2.2.2.1 129 4)) c (nI id)) ∧ ud m (mu_si Q5 (mu_p (U.2.2.2.1 129 4)) c (nI id)) = (upA V5 129 4 c (nI id)) := u5.sA (C := C) d5 rfl rfl (show V5.2.2.2.1 129 4 = (U.2.2.2.1 129 4) from ((z5.r 129 4 rfl).trans (zza.r 129 4 rfl)))
    generalize (mu_si Q5 (mu_p (U.2.2.2.1 129 4)) c (nI id)) = Q6 at u6 r6 d6 ⊢
    have qf6 : uq F387 U (upA V5 129 4 c (nI id)) := qf5.A rfl
    have ht6 : ur m C H Q6 := ht5.trans r6
    exact mw_of (fun _ => mu_ret rfl trivial ⟨Q6, rfl, u6, ht6, (by rw [d6]; exact qf6), id, l, gg, (upI Va 129 11 (nI l)), V5, hqw, rfl, hg1, hg2, hg3, hAD, (by rw [d6])⟩)

theorem rl_write1 (h : um m H) (e : ud m H = U) (hn : U.2.1 129 11 = nI n) (hL : ∀ i, i < n → (U.2.2.1 129 10).2 i = nI (ls i)) (hN : n ≤ (U.2.2.1 129 10).1) (hl10b : (U.2.2.1 129 10).1 < 2147483648) (hb : ∀ i, i < n → ls i < 16384) (hr : ∀ i j, i < j → j < n → ls i < ls j) (hSK : SOK U N us S z p) (hN5 : N < 524288) (hc : c < (U.2.2.1 129 4).1) (hcb : (U.2.2.1 129 4).1 < 2147483648) (hoc : (U.2.2.1 129 4).2 c = nI oc) (hoN : oc < N) (hop : p oc = true) : mu_TV (mu_D (d + 5)) 387 [.inr (.inr (some 129)), .inl (nI c), .inl (1 : Int32)] H (fun H1 => um m H1 ∧ ur m C H H1 ∧ uq F387 U (ud m H1) ∧ ∃ id l gg V2 V3, uq F387w U V2 ∧ V2.2.1 129 11 = nI l ∧ (∀ j, j < l → (V2.2.2.1 129 10).2 j = nI (gg j)) ∧ (∀ i j, i < j → j < l → gg i < gg j) ∧ (∀ x, lmz gg l x = true ↔ lmz ls n x = true ∧ S oc x = true) ∧ ADD V2 V3 N us S z p gg l id ∧ ud m H1 = upA V3 129 4 c (nI id)) := by
  refine mu_meth (M := mu_m387) rfl rfl ?_
  refine mw_ht (mu_fn_of (show [0, 1, 2].Nodup by decide)) ?_
  refine mw_go mu_g387 (k := 4) (f1 := (5, [(4, .inl (0 : Int32)), (3, .inl (0 : Int32)), (0, .inr (.inr (some 129))), (1, .inl (nI c)), (2, .inl (1 : Int32))], [], H)) (C := []) rfl trivial ?_
  show mu_W _ _ (5, [(4, .inl (nI 0)), (3, .inl (nI 0)), (0, .inr (.inr (some 129))), (1, .inl (nI c)), (2, .inl (1 : Int32))], [], H) _
  refine mw_sub (L' := [(4, .inl (nI 0)), (3, .inl (nI 0)), (0, .inr (.inr (some 129))), (1, .inl (nI c)), (2, .inl (1 : Int32))]) (by simp) ?_
  refine mw_down (α := Nat × Nat × mu_H) (fun zs => (5, [(4, .inl (nI zs.1)), (3, .inl (nI zs.2.1)), (0, .inr (.inr (some 129))), (1, .inl (nI c)), (2, .inl (1 : Int32))], [], zs.2.2)) (fun zs => n - zs.1) (fun zs => um m zs.2.2 ∧ ur m C H zs.2.2 ∧ (uq F387a U (ud m zs.2.2)) ∧ (zs.1 ≤ n ∧ zs.2.1 ≤ zs.1) ∧ (FLTR (ud m zs.2.2) zs.2.1 zs.1 ls (fun x => S oc x = true)) ∧ (∀ j, zs.1 ≤ j → j < n → ((ud m zs.2.2).2.2.1 129 10).2 j = nI (ls j))) (fun zs hza iha => ?_) (0, 0, H) ⟨h, (ur.refl m C H), (show uq F387a U (ud m H) from by rw [e]; exact uq.refl _ _), (show 0 ≤ n ∧ 0 ≤ 0 from (by omega)), (show FLTR (ud m H) 0 0 ls (fun x => S oc x = true) from by rw [e]; exact ⟨fun _ => 0, fun j hj => absurd hj (Nat.not_lt_zero _), fun i j _ hj => absurd hj (Nat.not_lt_zero _), fun x => ⟨fun y => (by cases y), fun y => (by cases y.1)⟩⟩), (show ∀ j, 0 ≤ j → j < n → ((ud m H).2.2.1 129 10).2 j = nI (ls j) from by rw [e]; exact (fun j _ hj => hL j hj))⟩
  obtain ⟨i, l, Hsa⟩ := zs
  obtain ⟨ua, hta, da, hi, hFi, hre⟩ := hza
  have ua : um m Hsa := ua
  have hta : ur m C H Hsa := hta
  have zza : uq F387a U (ud m Hsa) := da
  have hi : i ≤ n ∧ l ≤ i := hi
  have hFi : FLTR (ud m Hsa) l i ls (fun x => S oc x = true) := hFi
  have hre : ∀ j, i ≤ j → j < n → ((ud m Hsa).2.2.1 129 10).2 j = nI (ls j) := hre
  obtain ⟨Va, da⟩ : ∃ V, ud m Hsa = V := ⟨_, rfl⟩
  rw [da] at zza hFi hre
  have qfa : uq F387 U Va := (uq.refl F387 U).tr zza rfl
  show mu_W _ _ (5, [(4, .inl (nI i)), (3, .inl (nI l)), (0, .inr (.inr (some 129))), (1, .inl (nI c)), (2, .inl (1 : Int32))], [], Hsa) _
  refine mw_go mu_g387 (k := 3) (f1 := (11, [(4, .inl (nI i)), (3, .inl (nI l)), (0, .inr (.inr (some 129))), (1, .inl (nI c)), (2, .inl (1 : Int32))], [.inl (mu_i Hsa 129 11), .inl (nI i)], Hsa)) (C := [mu_is Hsa (some 129) 9]) rfl (show mu_is Hsa (some 129) 9 from (ua.1.1.is rfl)) ?_
  rw [(show mu_i Hsa 129 11 = (nI n) from (ud_i (U := Va) (m := m) (P := 129) (j := 11) da rfl).trans ((zza.i 129 11 rfl).trans hn))]
  refine mw_if (P := (nI i) < (nI n)) (a := 14) (b := 71) (fun _ => rfl) trivial (fun h1 => ?_) (fun h1 => ?_)
  · -- 14: (nI i) < (nI n)
    have nh1 : i < n := (nI_ltI (by omega) (by omega)).mp (show nI i < nI n from h1)
    refine mw_go mu_g387 (k := 2) (f1 := (18, [(4, .inl (nI i)), (3, .inl (nI l)), (0, .inr (.inr (some 129))), (1, .inl (nI c)), (2, .inl (1 : Int32))], [.inr (.inr (mu_r Hsa 129 10))], Hsa)) (C := [mu_is Hsa (some 129) 9]) rfl (show mu_is Hsa (some 129) 9 from (ua.1.1.is rfl)) ?_
    rw [(show mu_r Hsa 129 10 = (U.2.2.2.1 129 10) from (ud_q (U := Va) (m := m) (P := 129) (j := 10) da rfl).trans (zza.r 129 10 rfl))]
    refine mw_go mu_g387 (k := 3) (f1 := (23, [(4, .inl (nI i)), (3, .inl (nI l)), (0, .inr (.inr (some 129))), (1, .inl (nI c)), (2, .inl (1 : Int32))], [.inr (.inr (mu_r Hsa 129 10)), .inl (nI l), .inr (.inr (U.2.2.2.1 129 10))], Hsa)) (C := [mu_is Hsa (some 129) 9]) rfl (show mu_is Hsa (some 129) 9 from (ua.1.1.is rfl)) ?_
    rw [(show mu_r Hsa 129 10 = (U.2.2.2.1 129 10) from (ud_q (U := Va) (m := m) (P := 129) (j := 10) da rfl).trans (zza.r 129 10 rfl))]
    refine mw_go mu_g387 (k := 2) (f1 := (26, [(4, .inl (nI i)), (3, .inl (nI l)), (0, .inr (.inr (some 129))), (1, .inl (nI c)), (2, .inl (1 : Int32))], [.inl (mu_i Hsa (mu_p (U.2.2.2.1 129 10)) (nI i).toNatClampNeg), .inl (nI l), .inr (.inr (U.2.2.2.1 129 10))], Hsa)) (C := [mu_isr Hsa (U.2.2.2.1 129 10) 100, vp_in (nI i) (mu_n Hsa (mu_p (U.2.2.2.1 129 10)))]) rfl (show (mu_isr Hsa (U.2.2.2.1 129 10) 100) ∧ (vp_in (nI i) (mu_n Hsa (mu_p (U.2.2.2.1 129 10)))) from ⟨((ua.iA da rfl rfl (show Va.2.2.2.1 129 10 = (U.2.2.2.1 129 10) from (zza.r 129 10 rfl)))).r, (ua.vA (i := i) da rfl rfl (show Va.2.2.2.1 129 10 = (U.2.2.2.1 129 10) from (zza.r 129 10 rfl)) (show (Va.2.2.1 129 10).1 = (U.2.2.1 129 10).1 from (zza.n 129 10 rfl)) (by omega) (by omega))⟩) ?_
    rw [(show (mu_i Hsa (mu_p (U.2.2.2.1 129 10)) (nI i).toNatClampNeg) = (nI (ls i)) from ((congrArg (mu_i Hsa (mu_p (U.2.2.2.1 129 10))) (show (nI i).toNatClampNeg = i from nI_clamp (by omega))).trans (ua.gA da rfl rfl (show Va.2.2.2.1 129 10 = (U.2.2.2.1 129 10) from (zza.r 129 10 rfl)))).trans ((congrArg (fun z => z.2 i) (show Va.2.2.1 129 10 = (Va.2.2.1 129 10) from rfl)).trans (hre i (Nat.le_refl _) (by omega))))]
    refine mw_go mu_g387 (k := 1) (f1 := (27, [(4, .inl (nI i)), (3, .inl (nI l)), (0, .inr (.inr (some 129))), (1, .inl (nI c)), (2, .inl (1 : Int32))], [], (mu_si Hsa (mu_p (U.2.2.2.1 129 10)) (nI l).toNatClampNeg (nI (ls i))))) (C := [mu_is Hsa (U.2.2.2.1 129 10) 100, vp_in (nI l) (mu_n Hsa (mu_p (U.2.2.2.1 129 10)))]) rfl (show (mu_is Hsa (U.2.2.2.1 129 10) 100) ∧ (vp_in (nI l) (mu_n Hsa (mu_p (U.2.2.2.1 129 10)))) from ⟨(ua.iA da rfl rfl (show Va.2.2.2.1 129 10 = (U.2.2.2.1 129 10) from (zza.r 129 10 rfl))), (ua.vA (i := l) da rfl rfl (show Va.2.2.2.1 129 10 = (U.2.2.2.1 129 10) from (zza.r 129 10 rfl)) (show (Va.2.2.1 129 10).1 = (U.2.2.1 129 10).1 from (zza.n 129 10 rfl)) (by omega) (by omega))⟩) ?_
    rw [(show (nI l).toNatClampNeg = l from nI_clamp (by omega))]
    obtain ⟨u2, r2, d2⟩ : um m (mu_si Hsa (mu_p (U.2.2.2.1 129 10)) l (nI (ls i))) ∧ ur m C Hsa (mu_si Hsa (mu_p (U.2.2.2.1 129 10)) l (nI (ls i))) ∧ ud m (mu_si Hsa (mu_p (U.2.2.2.1 129 10)) l (nI (ls i))) = (upA Va 129 10 l (nI (ls i))) := ua.sA (C := C) da rfl rfl (show Va.2.2.2.1 129 10 = (U.2.2.2.1 129 10) from (zza.r 129 10 rfl))
    generalize (mu_si Hsa (mu_p (U.2.2.2.1 129 10)) l (nI (ls i))) = Q2 at u2 r2 d2 ⊢
    have qf2 : uq F387 U (upA Va 129 10 l (nI (ls i))) := qfa.A rfl
    have ht2 : ur m C H Q2 := hta.trans r2
    refine mw_go mu_g387 (k := 2) (f1 := (29, [(4, .inl (nI i)), (3, .inl (nI l)), (0, .inr (.inr (some 129))), (1, .inl (nI c)), (2, .inl (1 : Int32))], [.inl (1 : Int32), .inl (nI l)], Q2)) (C := []) rfl trivial ?_
    refine mw_if (P := (1 : Int32) = 0) (a := 58) (b := 32) (fun _ => rfl) trivial (fun h3 => absurd h3 (by decide)) (fun h3 => ?_)
    refine mw_go mu_g387 (k := 2) (f1 := (36, [(4, .inl (nI i)), (3, .inl (nI l)), (0, .inr (.inr (some 129))), (1, .inl (nI c)), (2, .inl (1 : Int32))], [.inr (.inr (mu_r Q2 129 0)), .inl (nI l)], Q2)) (C := [mu_is Q2 (some 129) 9]) rfl (show mu_is Q2 (some 129) 9 from (u2.1.1.is rfl)) ?_
    rw [(u2.1.1.r (p := 129) (j := 0) (q := 99) rfl)]
    refine mw_go mu_g387 (k := 1) (f1 := (39, [(4, .inl (nI i)), (3, .inl (nI l)), (0, .inr (.inr (some 129))), (1, .inl (nI c)), (2, .inl (1 : Int32))], [.inr (.inr (mu_r Q2 99 2)), .inl (nI l)], Q2)) (C := [mu_is Q2 (some 99) 13]) rfl (show mu_is Q2 (some 99) 13 from (u2.1.1.is rfl)) ?_
    rw [(u2.1.1.r (p := 99) (j := 2) (q := 113) rfl)]
    refine mw_go mu_g387 (k := 2) (f1 := (43, [(4, .inl (nI i)), (3, .inl (nI l)), (0, .inr (.inr (some 129))), (1, .inl (nI c)), (2, .inl (1 : Int32))], [.inr (.inr (mu_r Q2 129 4)), .inr (.inr (some 113)), .inl (nI l)], Q2)) (C := [mu_is Q2 (some 129) 9]) rfl (show mu_is Q2 (some 129) 9 from (u2.1.1.is rfl)) ?_
    rw [(show mu_r Q2 129 4 = (U.2.2.2.1 129 4) from (ud_q (U := (upA Va 129 10 l (nI (ls i)))) (m := m) (P := 129) (j := 4) d2 rfl).trans (zza.r 129 4 rfl))]
    refine mw_go mu_g387 (k := 2) (f1 := (45, [(4, .inl (nI i)), (3, .inl (nI l)), (0, .inr (.inr (some 129))), (1, .inl (nI c)), (2, .inl (1 : Int32))], [.inl (mu_i Q2 (mu_p (U.2.2.2.1 129 4)) (nI c).toNatClampNeg), .inr (.inr (some 113)), .inl (nI l)], Q2)) (C := [mu_isr Q2 (U.2.2.2.1 129 4) 100, vp_in (nI c) (mu_n Q2 (mu_p (U.2.2.2.1 129 4)))]) rfl (show (mu_isr Q2 (U.2.2.2.1 129 4) 100) ∧ (vp_in (nI c) (mu_n Q2 (mu_p (U.2.2.2.1 129 4)))) from ⟨((u2.iA d2 rfl rfl (show (upA Va 129 10 l (nI (ls i))).2.2.2.1 129 4 = (U.2.2.2.1 129 4) from (zza.r 129 4 rfl)))).r, (u2.vA (i := c) d2 rfl rfl (show (upA Va 129 10 l (nI (ls i))).2.2.2.1 129 4 = (U.2.2.2.1 129 4) from (zza.r 129 4 rfl)) (show ((upA Va 129 10 l (nI (ls i))).2.2.1 129 4).1 = (U.2.2.1 129 4).1 from (zza.n 129 4 rfl)) (by omega) (by omega))⟩) ?_
    rw [(show (mu_i Q2 (mu_p (U.2.2.2.1 129 4)) (nI c).toNatClampNeg) = (nI oc) from ((congrArg (mu_i Q2 (mu_p (U.2.2.2.1 129 4))) (show (nI c).toNatClampNeg = c from nI_clamp (by omega))).trans (u2.gA d2 rfl rfl (show (upA Va 129 10 l (nI (ls i))).2.2.2.1 129 4 = (U.2.2.2.1 129 4) from (zza.r 129 4 rfl)))).trans ((congrArg (fun z => z.2 c) (show (upA Va 129 10 l (nI (ls i))).2.2.1 129 4 = (U.2.2.1 129 4) from (zza.a 129 4 rfl))).trans hoc))]
    refine mw_go mu_g387 (k := 2) (f1 := (49, [(4, .inl (nI i)), (3, .inl (nI l)), (0, .inr (.inr (some 129))), (1, .inl (nI c)), (2, .inl (1 : Int32))], [.inr (.inr (mu_r Q2 129 10)), .inl (nI oc), .inr (.inr (some 113)), .inl (nI l)], Q2)) (C := [mu_is Q2 (some 129) 9]) rfl (show mu_is Q2 (some 129) 9 from (u2.1.1.is rfl)) ?_
    rw [(show mu_r Q2 129 10 = (U.2.2.2.1 129 10) from (ud_q (U := (upA Va 129 10 l (nI (ls i)))) (m := m) (P := 129) (j := 10) d2 rfl).trans (zza.r 129 10 rfl))]
    refine mw_go mu_g387 (k := 2) (f1 := (52, [(4, .inl (nI i)), (3, .inl (nI l)), (0, .inr (.inr (some 129))), (1, .inl (nI c)), (2, .inl (1 : Int32))], [.inl (mu_i Q2 (mu_p (U.2.2.2.1 129 10)) (nI i).toNatClampNeg), .inl (nI oc), .inr (.inr (some 113)), .inl (nI l)], Q2)) (C := [mu_isr Q2 (U.2.2.2.1 129 10) 100, vp_in (nI i) (mu_n Q2 (mu_p (U.2.2.2.1 129 10)))]) rfl (show (mu_isr Q2 (U.2.2.2.1 129 10) 100) ∧ (vp_in (nI i) (mu_n Q2 (mu_p (U.2.2.2.1 129 10)))) from ⟨((u2.iA d2 rfl rfl (show (upA Va 129 10 l (nI (ls i))).2.2.2.1 129 10 = (U.2.2.2.1 129 10) from (zza.r 129 10 rfl)))).r, (u2.vA (i := i) d2 rfl rfl (show (upA Va 129 10 l (nI (ls i))).2.2.2.1 129 10 = (U.2.2.2.1 129 10) from (zza.r 129 10 rfl)) (show ((upA Va 129 10 l (nI (ls i))).2.2.1 129 10).1 = (U.2.2.1 129 10).1 from (zza.n 129 10 rfl)) (by omega) (by omega))⟩) ?_
    rw [(show (mu_i Q2 (mu_p (U.2.2.2.1 129 10)) (nI i).toNatClampNeg) = (nI (ls i)) from ((congrArg (mu_i Q2 (mu_p (U.2.2.2.1 129 10))) (show (nI i).toNatClampNeg = i from nI_clamp (by omega))).trans (u2.gA d2 rfl rfl (show (upA Va 129 10 l (nI (ls i))).2.2.2.1 129 10 = (U.2.2.2.1 129 10) from (zza.r 129 10 rfl)))).trans ((congrArg (fun z => z.2 i) (show (upA Va 129 10 l (nI (ls i))).2.2.1 129 10 = ((upA Va 129 10 l (nI (ls i))).2.2.1 129 10) from rfl)).trans (by show (if i = l then nI (ls i) else (Va.2.2.1 129 10).2 i) = nI (ls i); by_cases y : i = l; (rw [if_pos y]); (rw [if_neg y]; exact hre i (Nat.le_refl _) (by omega)))))]
    obtain ⟨st, fc, hsa, hst, -, -, -, -⟩ := hSK.2.2.2.2.1 oc hoN hop
    refine mw_cIe (fun _ => rfl) (show mu_is Q2 (some 113) 11 from (u2.1.1.is rfl)) (st_has (d := (d + 2)) u2 d2 (sat.q hsa (show uq F387w U (upA Va 129 10 l (nI (ls i))) from ((uq.refl F387w U).tr zza rfl).A rfl) rfl rfl) hst (by have y := hb i (by omega); omega)) ?_
    refine mw_if (P := (if S oc (ls i) = true then 1 else 0) = 0) (a := 62) (b := 58) (fun _ => rfl) trivial (fun h5 => ?_) (fun h5 => ?_)
    · -- 62: (if S oc (ls i) = true then 1 else 0) = 0
      refine mw_go mu_g387 (k := 2) (f1 := (64, [(4, .inl (nI i)), (3, .inl (nI l)), (0, .inr (.inr (some 129))), (1, .inl (nI c)), (2, .inl (1 : Int32))], [.inl ((nI l) + (0 : Int32))], Q2)) (C := []) rfl trivial ?_
      rw [(show ((nI l) + (0 : Int32)) = (nI (l + 0)) from (nI_add l 0))]
      refine mw_go mu_g387 (k := 2) (f1 := (68, [(4, .inl ((nI i) + 1)), (3, .inl (nI (l + 0))), (0, .inr (.inr (some 129))), (1, .inl (nI c)), (2, .inl (1 : Int32))], [], Q2)) (C := []) rfl trivial ?_
      rw [(show ((nI i) + 1) = (nI (i + 1)) from (nI_add i 1))]
      refine mw_go mu_g387 (k := 1) (f1 := (5, [(4, .inl (nI (i + 1))), (3, .inl (nI (l + 0))), (0, .inr (.inr (some 129))), (1, .inl (nI c)), (2, .inl (1 : Int32))], [], Q2)) (C := []) rfl trivial ?_
      exact mw_sub (by simp) (iha (i + 1, l + 0, Q2) ⟨u2, ht2, (show uq F387a U (ud m Q2) from by rw [d2]; exact (zza.A rfl)), (show (i + 1) ≤ n ∧ (l + 0) ≤ (i + 1) from (by omega)), (show FLTR (ud m Q2) (l + 0) (i + 1) ls (fun x => S oc x = true) from by rw [d2]; exact (hFi.drop (fun y => absurd (h5) (by rw [if_pos y]; decide)))), (show ∀ j, (i + 1) ≤ j → j < n → ((ud m Q2).2.2.1 129 10).2 j = nI (ls j) from by rw [d2]; exact (fun j k1 k2 => (by show (if j = l then nI (ls i) else (Va.2.2.1 129 10).2 j) = nI (ls j); rw [if_neg (by omega)]; exact hre j (by omega) k2)))⟩ (by show n - (i + 1) < n - i; omega))
    · -- 58: not (if S oc (ls i) = true then 1 else 0) = 0
      refine mw_go mu_g387 (k := 3) (f1 := (64, [(4, .inl (nI i)), (3, .inl (nI l)), (0, .inr (.inr (some 129))), (1, .inl (nI c)), (2, .inl (1 : Int32))], [.inl ((nI l) + (1 : Int32))], Q2)) (C := []) rfl trivial ?_
      rw [(show ((nI l) + (1 : Int32)) = (nI (l + 1)) from (nI_add l 1))]
      refine mw_go mu_g387 (k := 2) (f1 := (68, [(4, .inl ((nI i) + 1)), (3, .inl (nI (l + 1))), (0, .inr (.inr (some 129))), (1, .inl (nI c)), (2, .inl (1 : Int32))], [], Q2)) (C := []) rfl trivial ?_
      rw [(show ((nI i) + 1) = (nI (i + 1)) from (nI_add i 1))]
      refine mw_go mu_g387 (k := 1) (f1 := (5, [(4, .inl (nI (i + 1))), (3, .inl (nI (l + 1))), (0, .inr (.inr (some 129))), (1, .inl (nI c)), (2, .inl (1 : Int32))], [], Q2)) (C := []) rfl trivial ?_
      exact mw_sub (by simp) (iha (i + 1, l + 1, Q2) ⟨u2, ht2, (show uq F387a U (ud m Q2) from by rw [d2]; exact (zza.A rfl)), (show (i + 1) ≤ n ∧ (l + 1) ≤ (i + 1) from (by omega)), (show FLTR (ud m Q2) (l + 1) (i + 1) ls (fun x => S oc x = true) from by rw [d2]; exact (hFi.put (by omega) hr (by omega) (Decidable.byContradiction (fun y => h5 (if_neg y))))), (show ∀ j, (i + 1) ≤ j → j < n → ((ud m Q2).2.2.1 129 10).2 j = nI (ls j) from by rw [d2]; exact (fun j k1 k2 => (by show (if j = l then nI (ls i) else (Va.2.2.1 129 10).2 j) = nI (ls j); rw [if_neg (by omega)]; exact hre j (by omega) k2)))⟩ (by show n - (i + 1) < n - i; omega))
  · -- 71: not (nI i) < (nI n)
    have nh1 : ¬ i < n := fun z => h1 (show nI i < nI n from (nI_ltI (by omega) (by omega)).mpr z)
    refine mw_go mu_g387 (k := 3) (f1 := (76, [(4, .inl (nI i)), (3, .inl (nI l)), (0, .inr (.inr (some 129))), (1, .inl (nI c)), (2, .inl (1 : Int32))], [], (mu_si Hsa 129 11 (nI l)))) (C := [mu_is Hsa (some 129) 9]) rfl (show mu_is Hsa (some 129) 9 from (ua.1.1.is rfl)) ?_
    obtain ⟨u6, r6, d6⟩ : um m (mu_si Hsa 129 11 (nI l)) ∧ ur m C Hsa (mu_si Hsa 129 11 (nI l)) ∧ ud m (mu_si Hsa 129 11 (nI l)) = (upI Va 129 11 (nI l)) := ua.sI (C := C) da rfl
    generalize (mu_si Hsa 129 11 (nI l)) = Q6 at u6 r6 d6 ⊢
    have qf6 : uq F387 U (upI Va 129 11 (nI l)) := qfa.I rfl
    have ht6 : ur m C H Q6 := hta.trans r6
    obtain ⟨gg, hg1, hg2, hg3⟩ := id hFi
    have hin : i = n := by omega
    rw [hin] at hg3 hFi
    have hgb : ∀ j, j < l → gg j < 16384 := fun j hj => by obtain ⟨k, k1, k2⟩ := (lmz_iff n).mp ((hg3 (gg j)).mp ((lmz_iff l).mpr ⟨j, hj, rfl⟩)).1; rw [← k2]; exact hb k k1
    have hqw : uq F387w U (upI Va 129 11 (nI l)) := ((uq.refl F387w U).tr zza rfl).I rfl
    have hSv : SOK (upI Va 129 11 (nI l)) N us S z p := hSK.q hqw rfl rfl rfl rfl rfl rfl
    refine mw_go mu_g387 (k := 2) (f1 := (80, [(4, .inl (nI i)), (3, .inl (nI l)), (0, .inr (.inr (some 129))), (1, .inl (nI c)), (2, .inl (1 : Int32))], [.inr (.inr (mu_r Q6 129 4))], Q6)) (C := [mu_is Q6 (some 129) 9]) rfl (show mu_is Q6 (some 129) 9 from (u6.1.1.is rfl)) ?_
    rw [(show mu_r Q6 129 4 = (U.2.2.2.1 129 4) from (ud_q (U := (upI Va 129 11 (nI l))) (m := m) (P := 129) (j := 4) d6 rfl).trans (zza.r 129 4 rfl))]
    refine mw_go mu_g387 (k := 3) (f1 := (85, [(4, .inl (nI i)), (3, .inl (nI l)), (0, .inr (.inr (some 129))), (1, .inl (nI c)), (2, .inl (1 : Int32))], [.inr (.inr (mu_r Q6 129 0)), .inl (nI c), .inr (.inr (U.2.2.2.1 129 4))], Q6)) (C := [mu_is Q6 (some 129) 9]) rfl (show mu_is Q6 (some 129) 9 from (u6.1.1.is rfl)) ?_
    rw [(u6.1.1.r (p := 129) (j := 0) (q := 99) rfl)]
    refine mw_go mu_g387 (k := 1) (f1 := (88, [(4, .inl (nI i)), (3, .inl (nI l)), (0, .inr (.inr (some 129))), (1, .inl (nI c)), (2, .inl (1 : Int32))], [.inr (.inr (mu_r Q6 99 2)), .inl (nI c), .inr (.inr (U.2.2.2.1 129 4))], Q6)) (C := [mu_is Q6 (some 99) 13]) rfl (show mu_is Q6 (some 99) 13 from (u6.1.1.is rfl)) ?_
    rw [(u6.1.1.r (p := 99) (j := 2) (q := 113) rfl)]
    refine mw_go mu_g387 (k := 2) (f1 := (92, [(4, .inl (nI i)), (3, .inl (nI l)), (0, .inr (.inr (some 129))), (1, .inl (nI c)), (2, .inl (1 : Int32))], [.inr (.inr (mu_r Q6 129 10)), .inr (.inr (some 113)), .inl (nI c), .inr (.inr (U.2.2.2.1 129 4))], Q6)) (C := [mu_is Q6 (some 129) 9]) rfl (show mu_is Q6 (some 129) 9 from (u6.1.1.is rfl)) ?_
    rw [(show mu_r Q6 129 10 = (U.2.2.2.1 129 10) from (ud_q (U := (upI Va 129 11 (nI l))) (m := m) (P := 129) (j := 10) d6 rfl).trans (zza.r 129 10 rfl))]
    refine mw_go mu_g387 (k := 2) (f1 := (96, [(4, .inl (nI i)), (3, .inl (nI l)), (0, .inr (.inr (some 129))), (1, .inl (nI c)), (2, .inl (1 : Int32))], [.inl (mu_i Q6 129 11), .inr (.inr (U.2.2.2.1 129 10)), .inr (.inr (some 113)), .inl (nI c), .inr (.inr (U.2.2.2.1 129 4))], Q6)) (C := [mu_is Q6 (some 129) 9]) rfl (show mu_is Q6 (some 129) 9 from (u6.1.1.is rfl)) ?_
    rw [(show mu_i Q6 129 11 = (nI l) from (ud_i (U := (upI Va 129 11 (nI l))) (m := m) (P := 129) (j := 11) d6 rfl))]
    refine mw_cI (fun _ => rfl) (show mu_is Q6 (some 113) 11 from (u6.1.1.is rfl)) (by have y := st_add_129 (d := d) (C := C) (n := l) (ls := gg) u6 d6 hg1 (by rw [(show ((upI Va 129 11 (nI l)).2.2.1 129 10).1 = (U.2.2.1 129 10).1 from (zza.n 129 10 rfl))]; omega) (by rw [(show ((upI Va 129 11 (nI l)).2.2.1 129 10).1 = (U.2.2.1 129 10).1 from (zza.n 129 10 rfl))]; exact hl10b) hgb hg2 hSv hN5; rw [show (upI Va 129 11 (nI l)).2.2.2.1 129 10 = U.2.2.2.1 129 10 from (zza.r 129 10 rfl)] at y; exact y) (fun x7 Q7 q7 => ?_)
    obtain ⟨id, rfl, u7, r7, z7, hAo, hAr⟩ := q7
    have ht7 : ur m C H Q7 := ht6.trans r7
    obtain ⟨V7, d7⟩ : ∃ V, ud m Q7 = V := ⟨_, rfl⟩
    rw [d7] at z7 hAo hAr
    have qf7 : uq F387 U V7 := qf6.tr z7 rfl
    have hAD : ADD (upI Va 129 11 (nI l)) V7 N us S z p gg l id := ⟨z7, hAo, hAr⟩
    have hV3 : ∃ y, y = V7 := ⟨_, rfl⟩
    refine mw_go mu_g387 (k := 1) (f1 := (100, [(4, .inl (nI i)), (3, .inl (nI l)), (0, .inr (.inr (some 129))), (1, .inl (nI c)), (2, .inl (1 : Int32))], [], (mu_si Q7 (mu_p (U.2.2.2.1 129 4)) (nI c).toNatClampNeg (nI id)))) (C := [mu_is Q7 (U.2.2.2.1 129 4) 100, vp_in (nI c) (mu_n Q7 (mu_p (U.2.2.2.1 129 4)))]) rfl (show (mu_is Q7 (U.2.2.2.1 129 4) 100) ∧ (vp_in (nI c) (mu_n Q7 (mu_p (U.2.2.2.1 129 4)))) from ⟨(u7.iA d7 rfl rfl (show V7.2.2.2.1 129 4 = (U.2.2.2.1 129 4) from ((z7.r 129 4 rfl).trans (zza.r 129 4 rfl)))), (u7.vA (i := c) d7 rfl rfl (show V7.2.2.2.1 129 4 = (U.2.2.2.1 129 4) from ((z7.r 129 4 rfl).trans (zza.r 129 4 rfl))) (show (V7.2.2.1 129 4).1 = (U.2.2.1 129 4).1 from ((z7.n 129 4 rfl).trans (zza.n 129 4 rfl))) (by omega) (by omega))⟩) ?_
    rw [(show (nI c).toNatClampNeg = c from nI_clamp (by omega))]
    obtain ⟨u8, r8, d8⟩ : um m (mu_si Q7 (mu_p (U.2.2.2.1 129 4)) c (nI id)) ∧ ur m C Q7 (mu_si Q7 (mu_p (U.2.2.2.1 129 4)) c (nI id)) ∧ ud m (mu_si Q7 (mu_p (U.2.2.2.1 129 4)) c (nI id)) = (upA V7 129 4 c (nI id)) := u7.sA (C := C) d7 rfl rfl (show V7.2.2.2.1 129 4 = (U.2.2.2.1 129 4) from ((z7.r 129 4 rfl).trans (zza.r 129 4 rfl)))
    generalize (mu_si Q7 (mu_p (U.2.2.2.1 129 4)) c (nI id)) = Q8 at u8 r8 d8 ⊢
    have qf8 : uq F387 U (upA V7 129 4 c (nI id)) := qf7.A rfl
    have ht8 : ur m C H Q8 := ht7.trans r8
    exact mw_of (fun _ => mu_ret rfl trivial ⟨Q8, rfl, u8, ht8, (by rw [d8]; exact qf8), id, l, gg, (upI Va 129 11 (nI l)), V7, hqw, rfl, hg1, hg2, hg3, hAD, (by rw [d8])⟩)
end WriteList
