/-! GRAPH: writeTrail -/
/-- one less, from nothing on -/
def mI (x : Nat) : Int32 := nI x - 1
section Trail
variable {H : mu_H} {U V : Ud} {m d wn T R st n fr x : Nat} {C : Nat → Nat} {rx mb me W : Nat → Nat}
theorem mI_s (h : 0 < x) : mI x = nI (x - 1) := nI_sub (a := x) (b := 1) h
theorem mI_lt (hb : x < 2147483648) : mI x < 0 ↔ x = 0 := by
  by_cases y : x = 0
  · rw [y]; exact ⟨fun _ => rfl, fun _ => by decide⟩
  · rw [mI_s (by omega)]
    exact ⟨fun z => absurd ((nI_ltI (a := x - 1) (b := 0) (by omega) (by decide)).mp z) (Nat.not_lt_zero _), fun z => absurd z y⟩
def F312 : Uf := ⟨[], [], [(158, 8)], [], [], false⟩
def F312b : Uf := ⟨[], [], [(158, 8)], [], [], false⟩
/-- PathProver$Graph.writeTrail(I[II)I -/
abbrev mu_m312 : ev_M := (7, (some .int), [], ev_b312)
theorem mu_g312 : mu_good mu_m312 := mu_goodk ev_k312
theorem gr_trail (h : um m H) (e : ud m H = U) (hG : GRB U T R wn rx mb me) (hW : TLD U T st n W) (hW0 : W 0 = st) (hfr : fr ≤ 100000) : mu_TI (mu_D (d + 1)) 312 [.inr (.inr (some 147)), .inl (nI st), .inr (.inr (some 165)), .inl (nI fr)] H (fun x H1 => x = nI n ∧ um m H1 ∧ ur m C H H1 ∧ uq F312 U (ud m H1) ∧ ∀ j, ((ud m H1).2.2.1 158 8).2 j = if fr ≤ j ∧ j < fr + n ∧ j < 2001 then nI (W (j - fr + 1)) else (U.2.2.1 158 8).2 j) := by
  obtain ⟨⟨⟨hg12, hg11⟩, hgwn, hTb⟩, ⟨⟨g6a, g6b⟩, hrx⟩, ⟨hRT, g10a, g10b⟩, ⟨g11a, g11b⟩, ⟨g12a, g12b⟩, ⟨g13a, g13b⟩, hmb, hme, hmp1, hmp2, hmp3, hmp4⟩ := id hG
  obtain ⟨hW19, hWp, hWs, hWT, hn1, hnT⟩ := hW
  have hwn1 : W n < T := hWT n (Nat.le_refl _)
  have hst : st < T := by rw [← hW0]; exact hWT 0 (Nat.zero_le _)
  refine mu_meth (M := mu_m312) rfl rfl ?_
  refine mw_ht (mu_fn_of (show [0, 1, 2, 3].Nodup by decide)) ?_
  refine mw_go mu_g312 (k := 2) (f1 := (4, [(0, .inr (.inr (some 147))), (1, .inl (nI st)), (2, .inr (.inr (some 165))), (3, .inl (nI fr))], [.inl (mu_i H 147 19)], H)) (C := [mu_is H (some 147) 2]) rfl (show mu_is H (some 147) 2 from (h.1.1.is rfl)) ?_
  rw [(show mu_i H 147 19 = (nI (W n)) from (ud_i (U := U) (m := m) (P := 147) (j := 19) e rfl).trans hW19)]
  refine mw_if (P := (nI (W n)) < 0) (a := 7) (b := 9) (fun _ => rfl) trivial (fun h1 => absurd h1 (fun z => absurd ((nI_ltI (a := W n) (b := 0) (by omega) (by decide)).mp z) (Nat.not_lt_zero _))) (fun h1 => ?_)
  refine mw_go mu_g312 (k := 4) (f1 := (16, [(4, .inl (1 : Int32)), (0, .inr (.inr (some 147))), (1, .inl (nI st)), (2, .inr (.inr (some 165))), (3, .inl (nI fr))], [.inr (.inr (mu_r H 147 13))], H)) (C := [mu_is H (some 147) 2]) rfl (show mu_is H (some 147) 2 from (h.1.1.is rfl)) ?_
  rw [(show mu_r H 147 13 = (U.2.2.2.1 147 13) from (ud_q (U := U) (m := m) (P := 147) (j := 13) e rfl))]
  refine mw_go mu_g312 (k := 2) (f1 := (20, [(4, .inl (1 : Int32)), (0, .inr (.inr (some 147))), (1, .inl (nI st)), (2, .inr (.inr (some 165))), (3, .inl (nI fr))], [.inl (mu_i H 147 19), .inr (.inr (U.2.2.2.1 147 13))], H)) (C := [mu_is H (some 147) 2]) rfl (show mu_is H (some 147) 2 from (h.1.1.is rfl)) ?_
  rw [(show mu_i H 147 19 = (nI (W n)) from (ud_i (U := U) (m := m) (P := 147) (j := 19) e rfl).trans hW19)]
  refine mw_go mu_g312 (k := 1) (f1 := (21, [(4, .inl (1 : Int32)), (0, .inr (.inr (some 147))), (1, .inl (nI st)), (2, .inr (.inr (some 165))), (3, .inl (nI fr))], [.inl (mu_i H (mu_p (U.2.2.2.1 147 13)) (nI (W n)).toNatClampNeg)], H)) (C := [mu_isr H (U.2.2.2.1 147 13) 100, vp_in (nI (W n)) (mu_n H (mu_p (U.2.2.2.1 147 13)))]) rfl (show (mu_isr H (U.2.2.2.1 147 13) 100) ∧ (vp_in (nI (W n)) (mu_n H (mu_p (U.2.2.2.1 147 13)))) from ⟨((h.iA e rfl rfl (show U.2.2.2.1 147 13 = (U.2.2.2.1 147 13) from rfl))).r, (h.vA (i := W n) e rfl rfl (show U.2.2.2.1 147 13 = (U.2.2.2.1 147 13) from rfl) (show (U.2.2.1 147 13).1 = (U.2.2.1 147 13).1 from rfl) (by omega) (by omega))⟩) ?_
  rw [(show (mu_i H (mu_p (U.2.2.2.1 147 13)) (nI (W n)).toNatClampNeg) = (nI (W (n - 1))) from ((congrArg (mu_i H (mu_p (U.2.2.2.1 147 13))) (show (nI (W n)).toNatClampNeg = W n from nI_clamp (by omega))).trans (h.gA e rfl rfl (show U.2.2.2.1 147 13 = (U.2.2.2.1 147 13) from rfl))).trans ((congrArg (fun z => z.2 (W n)) (show U.2.2.1 147 13 = (U.2.2.1 147 13) from rfl)).trans (by have z := hWp (n - 1) (by omega); rw [show n - 1 + 1 = n by omega] at z; exact z)))]
  refine mw_go mu_g312 (k := 1) (f1 := (23, [(5, .inl (nI (W (n - 1)))), (4, .inl (1 : Int32)), (0, .inr (.inr (some 147))), (1, .inl (nI st)), (2, .inr (.inr (some 165))), (3, .inl (nI fr))], [], H)) (C := []) rfl trivial ?_
  show mu_W _ _ (23, [(5, .inl (nI (W (n - 1)))), (4, .inl (nI 1)), (0, .inr (.inr (some 147))), (1, .inl (nI st)), (2, .inr (.inr (some 165))), (3, .inl (nI fr))], [], H) _
  refine mw_sub (L' := [(4, .inl (nI 1)), (5, .inl (nI (W (n - 1)))), (0, .inr (.inr (some 147))), (1, .inl (nI st)), (2, .inr (.inr (some 165))), (3, .inl (nI fr))]) (by simp) ?_
  refine mw_down (α := Nat) (fun zs => (23, [(4, .inl (nI zs)), (5, .inl (nI (W (n - zs)))), (0, .inr (.inr (some 147))), (1, .inl (nI st)), (2, .inr (.inr (some 165))), (3, .inl (nI fr))], [], H)) (fun zs => n - zs) (fun zs => (1 ≤ zs ∧ zs ≤ n)) (fun zs hza iha => ?_) 1 (show 1 ≤ 1 ∧ 1 ≤ n from ⟨by omega, by omega⟩)
  obtain ⟨i, rfl⟩ : ∃ y, y = zs := ⟨zs, rfl⟩
  have hi := hza
  have hi : 1 ≤ i ∧ i ≤ n := hi
  show mu_W _ _ (23, [(4, .inl (nI i)), (5, .inl (nI (W (n - i)))), (0, .inr (.inr (some 147))), (1, .inl (nI st)), (2, .inr (.inr (some 165))), (3, .inl (nI fr))], [], H) _
  have hwx : W (n - i) < T := hWT _ (by omega)
  refine mw_go mu_g312 (k := 2) (f1 := (26, [(4, .inl (nI i)), (5, .inl (nI (W (n - i)))), (0, .inr (.inr (some 147))), (1, .inl (nI st)), (2, .inr (.inr (some 165))), (3, .inl (nI fr))], [.inl (nI st), .inl (nI (W (n - i)))], H)) (C := []) rfl trivial ?_
  refine mw_if (P := (nI (W (n - i))) = (nI st)) (a := 56) (b := 29) (fun _ => rfl) trivial (fun h2 => ?_) (fun h2 => ?_)
  · -- 56: (nI (W (n - i))) = (nI st)
    have nh2 : (W (n - i)) = st := (nI_eq (by omega) (by omega)).mp (show nI (W (n - i)) = nI st from h2)
    have hin : i = n := Decidable.byContradiction (fun y => hWs (n - i) (by omega) (by omega) nh2)
    refine mw_go mu_g312 (k := 2) (f1 := (60, [(4, .inl (nI i)), (5, .inl (nI (W (n - i)))), (0, .inr (.inr (some 147))), (1, .inl (nI st)), (2, .inr (.inr (some 165))), (3, .inl (nI fr))], [.inl (mu_i H 147 19)], H)) (C := [mu_is H (some 147) 2]) rfl (show mu_is H (some 147) 2 from (h.1.1.is rfl)) ?_
    rw [(show mu_i H 147 19 = (nI (W n)) from (ud_i (U := U) (m := m) (P := 147) (j := 19) e rfl).trans hW19)]
    refine mw_go mu_g312 (k := 4) (f1 := (66, [(5, .inl (nI (W n))), (4, .inl (nI i)), (0, .inr (.inr (some 147))), (1, .inl (nI st)), (2, .inr (.inr (some 165))), (3, .inl (nI fr))], [.inl ((nI i) - (1 : Int32))], H)) (C := []) rfl trivial ?_
    rw [(show ((nI i) - (1 : Int32)) = (nI (i - 1)) from (nI_sub (a := i) (b := 1) (by omega)))]
    rw [show (nI (i - 1)) = mI n from (by rw [mI_s (by omega)]; exact congrArg nI (by omega))]
    refine mw_go mu_g312 (k := 1) (f1 := (68, [(6, .inl (mI n)), (5, .inl (nI (W n))), (4, .inl (nI i)), (0, .inr (.inr (some 147))), (1, .inl (nI st)), (2, .inr (.inr (some 165))), (3, .inl (nI fr))], [], H)) (C := []) rfl trivial ?_
    refine mw_sub (L' := [(6, .inl (mI n)), (5, .inl (nI (W n))), (0, .inr (.inr (some 147))), (1, .inl (nI st)), (2, .inr (.inr (some 165))), (3, .inl (nI fr)), (4, .inl (nI i))]) (by simp) ?_
    refine mw_down (α := Nat × mu_H) (fun zs => (68, [(6, .inl (mI zs.1)), (5, .inl (nI (W zs.1))), (0, .inr (.inr (some 147))), (1, .inl (nI st)), (2, .inr (.inr (some 165))), (3, .inl (nI fr)), (4, .inl (nI i))], [], zs.2)) (fun zs => zs.1) (fun zs => um m zs.2 ∧ ur m C H zs.2 ∧ (uq F312b U (ud m zs.2)) ∧ (zs.1 ≤ n) ∧ (∀ j, ((ud m zs.2).2.2.1 158 8).2 j = if fr + zs.1 ≤ j ∧ j < fr + n ∧ j < 2001 then nI (W (j - fr + 1)) else (U.2.2.1 158 8).2 j)) (fun zs hzb ihb => ?_) (n, H) ⟨h, (ur.refl m C H), (show uq F312b U (ud m H) from by rw [e]; exact uq.refl _ _), (show n ≤ n from (by omega)), (show ∀ j, ((ud m H).2.2.1 158 8).2 j = if fr + n ≤ j ∧ j < fr + n ∧ j < 2001 then nI (W (j - fr + 1)) else (U.2.2.1 158 8).2 j from by rw [e]; exact (fun j => by rw [if_neg (by omega)]))⟩
    obtain ⟨x, Hsb⟩ := zs
    obtain ⟨ub, htb, db, hx, htr⟩ := hzb
    have ub : um m Hsb := ub
    have htb : ur m C H Hsb := htb
    have zzb : uq F312b U (ud m Hsb) := db
    have hx : x ≤ n := hx
    have htr : ∀ j, ((ud m Hsb).2.2.1 158 8).2 j = if fr + x ≤ j ∧ j < fr + n ∧ j < 2001 then nI (W (j - fr + 1)) else (U.2.2.1 158 8).2 j := htr
    obtain ⟨Vb, db⟩ : ∃ V, ud m Hsb = V := ⟨_, rfl⟩
    rw [db] at zzb htr
    have qfb : uq F312 U Vb := (uq.refl F312 U).tr zzb rfl
    show mu_W _ _ (68, [(6, .inl (mI x)), (5, .inl (nI (W x))), (0, .inr (.inr (some 147))), (1, .inl (nI st)), (2, .inr (.inr (some 165))), (3, .inl (nI fr)), (4, .inl (nI i))], [], Hsb) _
    have hwx : W x < T := hWT _ (by omega)
    refine mw_go mu_g312 (k := 1) (f1 := (70, [(6, .inl (mI x)), (5, .inl (nI (W x))), (0, .inr (.inr (some 147))), (1, .inl (nI st)), (2, .inr (.inr (some 165))), (3, .inl (nI fr)), (4, .inl (nI i))], [.inl (mI x)], Hsb)) (C := []) rfl trivial ?_
    refine mw_if (P := (mI x) < 0) (a := 105) (b := 73) (fun _ => rfl) trivial (fun h3 => ?_) (fun h3 => ?_)
    · -- 105: (mI x) < 0
      have hx0 : x = 0 := (mI_lt (by omega)).mp h3
      refine mw_go mu_g312 (k := 1) (f1 := (107, [(6, .inl (mI x)), (5, .inl (nI (W x))), (0, .inr (.inr (some 147))), (1, .inl (nI st)), (2, .inr (.inr (some 165))), (3, .inl (nI fr)), (4, .inl (nI i))], [.inl (nI i)], Hsb)) (C := []) rfl trivial ?_
      refine mw_of (fun _ => mu_ret rfl trivial ⟨(nI i), Hsb, rfl, congrArg nI hin, ub, htb, (by rw [db]; exact qfb), ?_⟩)
      rw [db]
      intro j
      rw [htr j, hx0, Nat.add_zero]
    · -- 73: not (mI x) < 0
      have hx0 : ¬ x = 0 := fun y => h3 ((mI_lt (by omega)).mpr y)
      rw [mI_s (x := x) (by omega)]
      refine mw_go mu_g312 (k := 3) (f1 := (77, [(6, .inl (nI (x - 1))), (5, .inl (nI (W x))), (0, .inr (.inr (some 147))), (1, .inl (nI st)), (2, .inr (.inr (some 165))), (3, .inl (nI fr)), (4, .inl (nI i))], [.inl ((nI fr) + (nI (x - 1)))], Hsb)) (C := []) rfl trivial ?_
      rw [(show ((nI fr) + (nI (x - 1))) = (nI (fr + (x - 1))) from (nI_add fr (x - 1)))]
      refine mw_go mu_g312 (k := 2) (f1 := (79, [(6, .inl (nI (x - 1))), (5, .inl (nI (W x))), (0, .inr (.inr (some 147))), (1, .inl (nI st)), (2, .inr (.inr (some 165))), (3, .inl (nI fr)), (4, .inl (nI i))], [.inl (Int32.ofNat (mu_n Hsb 165)), .inl (nI (fr + (x - 1)))], Hsb)) (C := [mu_isr Hsb (some 165) (mu_k Hsb 165), 100 ≤ mu_k Hsb 165]) rfl (show (mu_isr Hsb (some 165) (mu_k Hsb 165)) ∧ (100 ≤ mu_k Hsb 165) from ⟨(by have z := (ub.iA db rfl rfl ((ud_q (m := m) (P := 158) (j := 8) db rfl).symm.trans (ub.1.1.r (p := 158) (j := 8) (q := 165) rfl))); rw [show mu_k Hsb 165 = 100 from z.2.2]; exact z.r), (by have z := (ub.iA db rfl rfl ((ud_q (m := m) (P := 158) (j := 8) db rfl).symm.trans (ub.1.1.r (p := 158) (j := 8) (q := 165) rfl))); rw [show mu_k Hsb 165 = 100 from z.2.2]; decide)⟩) ?_
      rw [(show Int32.ofNat (mu_n Hsb 165) = nI 2001 from congrArg Int32.ofNat (show mu_n Hsb 165 = 2001 from (ub.1.1.a (p := 165) (x := (100, 2001)) rfl).2))]
      refine mw_if (P := (nI (fr + (x - 1))) < (nI 2001)) (a := 82) (b := 90) (fun _ => rfl) trivial (fun h4 => ?_) (fun h4 => ?_)
      · -- 82: (nI (fr + (x - 1))) < (nI 2001)
        have nh4 : (fr + (x - 1)) < 2001 := (nI_ltI (by omega) (by omega)).mp (show nI (fr + (x - 1)) < nI 2001 from h4)
        refine mw_go mu_g312 (k := 4) (f1 := (87, [(6, .inl (nI (x - 1))), (5, .inl (nI (W x))), (0, .inr (.inr (some 147))), (1, .inl (nI st)), (2, .inr (.inr (some 165))), (3, .inl (nI fr)), (4, .inl (nI i))], [.inl ((nI fr) + (nI (x - 1))), .inr (.inr (some 165))], Hsb)) (C := []) rfl trivial ?_
        rw [(show ((nI fr) + (nI (x - 1))) = (nI (fr + (x - 1))) from (nI_add fr (x - 1)))]
        refine mw_go mu_g312 (k := 2) (f1 := (90, [(6, .inl (nI (x - 1))), (5, .inl (nI (W x))), (0, .inr (.inr (some 147))), (1, .inl (nI st)), (2, .inr (.inr (some 165))), (3, .inl (nI fr)), (4, .inl (nI i))], [], (mu_si Hsb 165 (nI (fr + (x - 1))).toNatClampNeg (nI (W x))))) (C := [mu_is Hsb (some 165) 100, vp_in (nI (fr + (x - 1))) (mu_n Hsb 165)]) rfl (show (mu_is Hsb (some 165) 100) ∧ (vp_in (nI (fr + (x - 1))) (mu_n Hsb 165)) from ⟨(ub.iA db rfl rfl ((ud_q (m := m) (P := 158) (j := 8) db rfl).symm.trans (ub.1.1.r (p := 158) (j := 8) (q := 165) rfl))), (by rw [show mu_n Hsb 165 = 2001 from (ub.1.1.a (p := 165) (x := (100, 2001)) rfl).2]; exact vp_in_nI (n := fr + (x - 1)) (by omega) (by decide))⟩) ?_
        rw [(show (nI (fr + (x - 1))).toNatClampNeg = fr + (x - 1) from nI_clamp (by omega))]
        obtain ⟨u5, r5, d5⟩ : um m (mu_si Hsb 165 (fr + (x - 1)) (nI (W x))) ∧ ur m C Hsb (mu_si Hsb 165 (fr + (x - 1)) (nI (W x))) ∧ ud m (mu_si Hsb 165 (fr + (x - 1)) (nI (W x))) = (upA Vb 158 8 (fr + (x - 1)) (nI (W x))) := ub.sA (C := C) db rfl rfl ((ud_q (m := m) (P := 158) (j := 8) db rfl).symm.trans (ub.1.1.r (p := 158) (j := 8) (q := 165) rfl))
        generalize (mu_si Hsb 165 (fr + (x - 1)) (nI (W x))) = Q5 at u5 r5 d5 ⊢
        have qf5 : uq F312 U (upA Vb 158 8 (fr + (x - 1)) (nI (W x))) := qfb.A rfl
        have ht5 : ur m C H Q5 := htb.trans r5
        refine mw_go mu_g312 (k := 2) (f1 := (94, [(6, .inl (nI (x - 1))), (5, .inl (nI (W x))), (0, .inr (.inr (some 147))), (1, .inl (nI st)), (2, .inr (.inr (some 165))), (3, .inl (nI fr)), (4, .inl (nI i))], [.inr (.inr (mu_r Q5 147 13))], Q5)) (C := [mu_is Q5 (some 147) 2]) rfl (show mu_is Q5 (some 147) 2 from (u5.1.1.is rfl)) ?_
        rw [(show mu_r Q5 147 13 = (U.2.2.2.1 147 13) from (ud_q (U := (upA Vb 158 8 (fr + (x - 1)) (nI (W x)))) (m := m) (P := 147) (j := 13) d5 rfl).trans (zzb.r 147 13 rfl))]
        refine mw_go mu_g312 (k := 2) (f1 := (97, [(6, .inl (nI (x - 1))), (5, .inl (nI (W x))), (0, .inr (.inr (some 147))), (1, .inl (nI st)), (2, .inr (.inr (some 165))), (3, .inl (nI fr)), (4, .inl (nI i))], [.inl (mu_i Q5 (mu_p (U.2.2.2.1 147 13)) (nI (W x)).toNatClampNeg)], Q5)) (C := [mu_isr Q5 (U.2.2.2.1 147 13) 100, vp_in (nI (W x)) (mu_n Q5 (mu_p (U.2.2.2.1 147 13)))]) rfl (show (mu_isr Q5 (U.2.2.2.1 147 13) 100) ∧ (vp_in (nI (W x)) (mu_n Q5 (mu_p (U.2.2.2.1 147 13)))) from ⟨((u5.iA d5 rfl rfl (show (upA Vb 158 8 (fr + (x - 1)) (nI (W x))).2.2.2.1 147 13 = (U.2.2.2.1 147 13) from (zzb.r 147 13 rfl)))).r, (u5.vA (i := W x) d5 rfl rfl (show (upA Vb 158 8 (fr + (x - 1)) (nI (W x))).2.2.2.1 147 13 = (U.2.2.2.1 147 13) from (zzb.r 147 13 rfl)) (show ((upA Vb 158 8 (fr + (x - 1)) (nI (W x))).2.2.1 147 13).1 = (U.2.2.1 147 13).1 from (zzb.n 147 13 rfl)) (by omega) (by omega))⟩) ?_
        rw [(show (mu_i Q5 (mu_p (U.2.2.2.1 147 13)) (nI (W x)).toNatClampNeg) = (nI (W (x - 1))) from ((congrArg (mu_i Q5 (mu_p (U.2.2.2.1 147 13))) (show (nI (W x)).toNatClampNeg = W x from nI_clamp (by omega))).trans (u5.gA d5 rfl rfl (show (upA Vb 158 8 (fr + (x - 1)) (nI (W x))).2.2.2.1 147 13 = (U.2.2.2.1 147 13) from (zzb.r 147 13 rfl)))).trans ((congrArg (fun z => z.2 (W x)) (show (upA Vb 158 8 (fr + (x - 1)) (nI (W x))).2.2.1 147 13 = (U.2.2.1 147 13) from (zzb.a 147 13 rfl))).trans (by have z := hWp (x - 1) (by omega); rw [show x - 1 + 1 = x by omega] at z; exact z)))]
        refine mw_go mu_g312 (k := 2) (f1 := (102, [(6, .inl ((nI (x - 1)) + (-1))), (5, .inl (nI (W (x - 1)))), (0, .inr (.inr (some 147))), (1, .inl (nI st)), (2, .inr (.inr (some 165))), (3, .inl (nI fr)), (4, .inl (nI i))], [], Q5)) (C := []) rfl trivial ?_
        rw [show ((nI (x - 1)) + (-1)) = mI (x - 1) from (Int32.sub_eq_add_neg _ _).symm.trans rfl]
        refine mw_go mu_g312 (k := 1) (f1 := (68, [(6, .inl (mI (x - 1))), (5, .inl (nI (W (x - 1)))), (0, .inr (.inr (some 147))), (1, .inl (nI st)), (2, .inr (.inr (some 165))), (3, .inl (nI fr)), (4, .inl (nI i))], [], Q5)) (C := []) rfl trivial ?_
        exact mw_sub (by simp) (ihb (x - 1, Q5) ⟨u5, ht5, (show uq F312b U (ud m Q5) from by rw [d5]; exact (zzb.A rfl)), (show (x - 1) ≤ n from (by omega)), (show ∀ j, ((ud m Q5).2.2.1 158 8).2 j = if fr + (x - 1) ≤ j ∧ j < fr + n ∧ j < 2001 then nI (W (j - fr + 1)) else (U.2.2.1 158 8).2 j from by rw [d5]; exact (fun j => by show (if j = fr + (x - 1) then nI (W x) else (Vb.2.2.1 158 8).2 j) = _; by_cases y : j = fr + (x - 1); (rw [if_pos y, if_pos (by omega), show j - fr + 1 = x by omega]); (rw [if_neg y, htr j]; by_cases z : fr + x ≤ j ∧ j < fr + n ∧ j < 2001; (rw [if_pos z, if_pos (by omega)]); (rw [if_neg z, if_neg (by omega)]))))⟩ (by show (x - 1) < x; omega))
      · -- 90: not (nI (fr + (x - 1))) < (nI 2001)
        have nh4 : ¬ (fr + (x - 1)) < 2001 := fun z => h4 (show nI (fr + (x - 1)) < nI 2001 from (nI_ltI (by omega) (by omega)).mpr z)
        refine mw_go mu_g312 (k := 2) (f1 := (94, [(6, .inl (nI (x - 1))), (5, .inl (nI (W x))), (0, .inr (.inr (some 147))), (1, .inl (nI st)), (2, .inr (.inr (some 165))), (3, .inl (nI fr)), (4, .inl (nI i))], [.inr (.inr (mu_r Hsb 147 13))], Hsb)) (C := [mu_is Hsb (some 147) 2]) rfl (show mu_is Hsb (some 147) 2 from (ub.1.1.is rfl)) ?_
        rw [(show mu_r Hsb 147 13 = (U.2.2.2.1 147 13) from (ud_q (U := Vb) (m := m) (P := 147) (j := 13) db rfl).trans (zzb.r 147 13 rfl))]
        refine mw_go mu_g312 (k := 2) (f1 := (97, [(6, .inl (nI (x - 1))), (5, .inl (nI (W x))), (0, .inr (.inr (some 147))), (1, .inl (nI st)), (2, .inr (.inr (some 165))), (3, .inl (nI fr)), (4, .inl (nI i))], [.inl (mu_i Hsb (mu_p (U.2.2.2.1 147 13)) (nI (W x)).toNatClampNeg)], Hsb)) (C := [mu_isr Hsb (U.2.2.2.1 147 13) 100, vp_in (nI (W x)) (mu_n Hsb (mu_p (U.2.2.2.1 147 13)))]) rfl (show (mu_isr Hsb (U.2.2.2.1 147 13) 100) ∧ (vp_in (nI (W x)) (mu_n Hsb (mu_p (U.2.2.2.1 147 13)))) from ⟨((ub.iA db rfl rfl (show Vb.2.2.2.1 147 13 = (U.2.2.2.1 147 13) from (zzb.r 147 13 rfl)))).r, (ub.vA (i := W x) db rfl rfl (show Vb.2.2.2.1 147 13 = (U.2.2.2.1 147 13) from (zzb.r 147 13 rfl)) (show (Vb.2.2.1 147 13).1 = (U.2.2.1 147 13).1 from (zzb.n 147 13 rfl)) (by omega) (by omega))⟩) ?_
        rw [(show (mu_i Hsb (mu_p (U.2.2.2.1 147 13)) (nI (W x)).toNatClampNeg) = (nI (W (x - 1))) from ((congrArg (mu_i Hsb (mu_p (U.2.2.2.1 147 13))) (show (nI (W x)).toNatClampNeg = W x from nI_clamp (by omega))).trans (ub.gA db rfl rfl (show Vb.2.2.2.1 147 13 = (U.2.2.2.1 147 13) from (zzb.r 147 13 rfl)))).trans ((congrArg (fun z => z.2 (W x)) (show Vb.2.2.1 147 13 = (U.2.2.1 147 13) from (zzb.a 147 13 rfl))).trans (by have z := hWp (x - 1) (by omega); rw [show x - 1 + 1 = x by omega] at z; exact z)))]
        refine mw_go mu_g312 (k := 2) (f1 := (102, [(6, .inl ((nI (x - 1)) + (-1))), (5, .inl (nI (W (x - 1)))), (0, .inr (.inr (some 147))), (1, .inl (nI st)), (2, .inr (.inr (some 165))), (3, .inl (nI fr)), (4, .inl (nI i))], [], Hsb)) (C := []) rfl trivial ?_
        rw [show ((nI (x - 1)) + (-1)) = mI (x - 1) from (Int32.sub_eq_add_neg _ _).symm.trans rfl]
        refine mw_go mu_g312 (k := 1) (f1 := (68, [(6, .inl (mI (x - 1))), (5, .inl (nI (W (x - 1)))), (0, .inr (.inr (some 147))), (1, .inl (nI st)), (2, .inr (.inr (some 165))), (3, .inl (nI fr)), (4, .inl (nI i))], [], Hsb)) (C := []) rfl trivial ?_
        exact mw_sub (by simp) (ihb (x - 1, Hsb) ⟨ub, htb, (show uq F312b U (ud m Hsb) from by rw [db]; exact zzb), (show (x - 1) ≤ n from (by omega)), (show ∀ j, ((ud m Hsb).2.2.1 158 8).2 j = if fr + (x - 1) ≤ j ∧ j < fr + n ∧ j < 2001 then nI (W (j - fr + 1)) else (U.2.2.1 158 8).2 j from by rw [db]; exact (fun j => by rw [htr j]; by_cases z : fr + x ≤ j ∧ j < fr + n ∧ j < 2001; (rw [if_pos z, if_pos (by omega)]); (rw [if_neg z, if_neg (by omega)])))⟩ (by show (x - 1) < x; omega))
  · -- 29: not (nI (W (n - i))) = (nI st)
    have nh2 : ¬ (W (n - i)) = st := fun z => h2 (show nI (W (n - i)) = nI st from (nI_eq (by omega) (by omega)).mpr z)
    have hin : ¬ i = n := fun y => nh2 (by rw [y, Nat.sub_self]; exact hW0)
    refine mw_go mu_g312 (k := 3) (f1 := (35, [(4, .inl (nI i)), (5, .inl (nI (W (n - i)))), (0, .inr (.inr (some 147))), (1, .inl (nI st)), (2, .inr (.inr (some 165))), (3, .inl (nI fr))], [.inr (.inr (mu_r H 147 0)), .inl (nI i)], H)) (C := [mu_is H (some 147) 2]) rfl (show mu_is H (some 147) 2 from (h.1.1.is rfl)) ?_
    rw [(h.1.1.r (p := 147) (j := 0) (q := 99) rfl)]
    refine mw_go mu_g312 (k := 1) (f1 := (38, [(4, .inl (nI i)), (5, .inl (nI (W (n - i)))), (0, .inr (.inr (some 147))), (1, .inl (nI st)), (2, .inr (.inr (some 165))), (3, .inl (nI fr))], [.inl (mu_i H 99 11), .inl (nI i)], H)) (C := [mu_is H (some 99) 13]) rfl (show mu_is H (some 99) 13 from (h.1.1.is rfl)) ?_
    rw [(show mu_i H 99 11 = (nI T) from (ud_i (U := U) (m := m) (P := 99) (j := 11) e rfl).trans hg11)]
    refine mw_if (P := (nI T) < (nI i)) (a := 56) (b := 41) (fun _ => rfl) trivial (fun h6 => ?_) (fun h6 => ?_)
    · -- 56: (nI T) < (nI i)
      have nh6 : T < i := (nI_ltI (by omega) (by omega)).mp (show nI T < nI i from h6)
      exact absurd nh6 (by omega)
    · -- 41: not (nI T) < (nI i)
      have nh6 : ¬ T < i := fun z => h6 (show nI T < nI i from (nI_ltI (by omega) (by omega)).mpr z)
      refine mw_go mu_g312 (k := 1) (f1 := (44, [(4, .inl ((nI i) + 1)), (5, .inl (nI (W (n - i)))), (0, .inr (.inr (some 147))), (1, .inl (nI st)), (2, .inr (.inr (some 165))), (3, .inl (nI fr))], [], H)) (C := []) rfl trivial ?_
      rw [(show ((nI i) + 1) = (nI (i + 1)) from (nI_add i 1))]
      refine mw_go mu_g312 (k := 2) (f1 := (48, [(4, .inl (nI (i + 1))), (5, .inl (nI (W (n - i)))), (0, .inr (.inr (some 147))), (1, .inl (nI st)), (2, .inr (.inr (some 165))), (3, .inl (nI fr))], [.inr (.inr (mu_r H 147 13))], H)) (C := [mu_is H (some 147) 2]) rfl (show mu_is H (some 147) 2 from (h.1.1.is rfl)) ?_
      rw [(show mu_r H 147 13 = (U.2.2.2.1 147 13) from (ud_q (U := U) (m := m) (P := 147) (j := 13) e rfl))]
      refine mw_go mu_g312 (k := 2) (f1 := (51, [(4, .inl (nI (i + 1))), (5, .inl (nI (W (n - i)))), (0, .inr (.inr (some 147))), (1, .inl (nI st)), (2, .inr (.inr (some 165))), (3, .inl (nI fr))], [.inl (mu_i H (mu_p (U.2.2.2.1 147 13)) (nI (W (n - i))).toNatClampNeg)], H)) (C := [mu_isr H (U.2.2.2.1 147 13) 100, vp_in (nI (W (n - i))) (mu_n H (mu_p (U.2.2.2.1 147 13)))]) rfl (show (mu_isr H (U.2.2.2.1 147 13) 100) ∧ (vp_in (nI (W (n - i))) (mu_n H (mu_p (U.2.2.2.1 147 13)))) from ⟨((h.iA e rfl rfl (show U.2.2.2.1 147 13 = (U.2.2.2.1 147 13) from rfl))).r, (h.vA (i := W (n - i)) e rfl rfl (show U.2.2.2.1 147 13 = (U.2.2.2.1 147 13) from rfl) (show (U.2.2.1 147 13).1 = (U.2.2.1 147 13).1 from rfl) (by omega) (by omega))⟩) ?_
      rw [(show (mu_i H (mu_p (U.2.2.2.1 147 13)) (nI (W (n - i))).toNatClampNeg) = (nI (W (n - (i + 1)))) from ((congrArg (mu_i H (mu_p (U.2.2.2.1 147 13))) (show (nI (W (n - i))).toNatClampNeg = W (n - i) from nI_clamp (by omega))).trans (h.gA e rfl rfl (show U.2.2.2.1 147 13 = (U.2.2.2.1 147 13) from rfl))).trans ((congrArg (fun z => z.2 (W (n - i))) (show U.2.2.1 147 13 = (U.2.2.1 147 13) from rfl)).trans (by have z := hWp (n - (i + 1)) (by omega); rw [show n - (i + 1) + 1 = n - i by omega] at z; exact z)))]
      refine mw_go mu_g312 (k := 2) (f1 := (23, [(5, .inl (nI (W (n - (i + 1))))), (4, .inl (nI (i + 1))), (0, .inr (.inr (some 147))), (1, .inl (nI st)), (2, .inr (.inr (some 165))), (3, .inl (nI fr))], [], H)) (C := []) rfl trivial ?_
      exact mw_sub (by simp) (iha (i + 1) (show 1 ≤ (i + 1) ∧ (i + 1) ≤ n from ⟨by omega, by omega⟩) (by show n - (i + 1) < n - i; omega))

theorem gr_trail0 (h : um m H) (e : ud m H = U) (h19 : U.2.1 147 19 = -1) : mu_TI (mu_D (d + 1)) 312 [.inr (.inr (some 147)), .inl (nI st), .inr (.inr (some 165)), .inl (nI fr)] H (fun x H1 => x = 0 ∧ H1 = H) := by
  refine mu_meth (M := mu_m312) rfl rfl ?_
  refine mw_ht (mu_fn_of (show [0, 1, 2, 3].Nodup by decide)) ?_
  refine mw_go mu_g312 (k := 2) (f1 := (4, [(0, .inr (.inr (some 147))), (1, .inl (nI st)), (2, .inr (.inr (some 165))), (3, .inl (nI fr))], [.inl (mu_i H 147 19)], H)) (C := [mu_is H (some 147) 2]) rfl (show mu_is H (some 147) 2 from (h.1.1.is rfl)) ?_
  rw [(show mu_i H 147 19 = (-1 : Int32) from (ud_i (U := U) (m := m) (P := 147) (j := 19) e rfl).trans h19)]
  refine mw_if (P := (-1 : Int32) < 0) (a := 7) (b := 9) (fun _ => rfl) trivial (fun h1 => ?_) (fun h1 => absurd (by decide) h1)
  refine mw_go mu_g312 (k := 1) (f1 := (8, [(0, .inr (.inr (some 147))), (1, .inl (nI st)), (2, .inr (.inr (some 165))), (3, .inl (nI fr))], [.inl (0 : Int32)], H)) (C := []) rfl trivial ?_
  exact mw_of (fun _ => mu_ret rfl trivial ⟨_, H, rfl, rfl, rfl⟩)
end Trail
