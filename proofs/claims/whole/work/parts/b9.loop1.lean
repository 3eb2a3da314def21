/-! Space.begin: the first loop -/
/-- PathProver$Space.begin(LPathProver$Model;)V -/
abbrev mu_m268 : ev_M := (4, none, [], ev_b268)
theorem mu_g268 : mu_good mu_m268 := mu_goodk ev_k268
section Loop1
variable {H H1 H2 : mu_H} {m d v P n : Nat} {C : Nat → Nat} {U : Ud}
theorem sp_loop1 {Φ : mu_R → Prop} (h : um m H) (e : ud m H = U) (hm0 : U.2.2.2.1 99 0 = some m) (hsum : sm (bz U.1) 0 (U.1 15).1 ≤ 14) (h15 : (U.1 15).1 ≤ 67108864) (hB0 : B1 U U 0 0 (fun _ => 0))
    (hΦ : ∀ Q P f, um m Q → ur m C H Q → B1 U (ud m Q) (U.1 15).1 P f → mu_W (mu_D (d + 3)) mu_m268 (179, [(2, .inl (nI (U.1 15).1)), (0, .inr (.inr (some 99))), (1, .inr (.inr (some m)))], [], Q) Φ) :
    mu_W (mu_D (d + 3)) mu_m268 (27, [(2, .inl (nI 0)), (0, .inr (.inr (some 99))), (1, .inr (.inr (some m)))], [], H) Φ := by
  refine mw_down (α := Nat × mu_H) (fun zs => (27, [(2, .inl (nI zs.1)), (0, .inr (.inr (some 99))), (1, .inr (.inr (some m)))], [], zs.2)) (fun zs => (U.1 15).1 - zs.1) (fun zs => zs.1 ≤ (U.1 15).1 ∧ um m zs.2 ∧ ur m C H zs.2 ∧ ∃ P f, B1 U (ud m zs.2) zs.1 P f) (fun zs hz ih => ?_) (0, H) ⟨Nat.zero_le _, h, ur.refl m C H, 0, fun _ => 0, by rw [e]; exact hB0⟩
  obtain ⟨v, Q⟩ := zs
  obtain ⟨hv, u0, r0, P, f, hB⟩ := hz
  have hv : v ≤ (U.1 15).1 := hv
  have u0 : um m Q := u0
  have r0 : ur m C H Q := r0
  have hB : B1 U (ud m Q) v P f := hB
  show mu_W _ _ (27, [(2, .inl (nI v)), (0, .inr (.inr (some 99))), (1, .inr (.inr (some m)))], [], Q) _
  obtain ⟨V, hV⟩ : ∃ V, ud m Q = V := ⟨_, rfl⟩
  rw [hV] at hB
  have hm0V : V.2.2.2.1 99 0 = some m := by rw [hB.2.2.2.1]; exact hm0
  have hN : (V.1 15).1 = (U.1 15).1 := hB.1.2.1
  have hP4 : V.2.1 99 4 = nI P := hB.2.1.1
  have hs10 : V.2.1 99 10 = nI (sm f 0 P) := hB.2.1.2.1
  have esz : mu_i Q (m + 31) 2 = nI (V.1 15).1 := by
    have z := (u0.1.1.w ((ra_ok u0.2).1 15 (by decide))).2.2.2.1
    rw [← ak_n (m := m) (j := 15) (by decide)] at z
    rw [← hV]
    exact z
  have z0Q : mu_r Q 99 0 = some m := (ud_r (m := m) hV rfl rfl).trans hm0V
  have zt15Q : mu_r Q m 15 = some (m + 31) := (gi_mr u0.1.1 u0.2 (j := 15) (by decide)).trans (congrArg some (by omega))
  refine mw_go mu_g268 (k := 3) (f1 := (32, [(2, .inl (nI v)), (0, .inr (.inr (some 99))), (1, .inr (.inr (some m)))], [.inr (.inr (mu_r Q 99 0)), .inl (nI v)], Q)) (C := [mu_is Q (some 99) 13]) rfl (show mu_is Q (some 99) 13 from (u0.1.1.is rfl)) ?_
  rw [z0Q]
  refine mw_go mu_g268 (k := 1) (f1 := (35, [(2, .inl (nI v)), (0, .inr (.inr (some 99))), (1, .inr (.inr (some m)))], [.inr (.inr (mu_r Q m 15)), .inl (nI v)], Q)) (C := [mu_is Q (some m) 6]) rfl (show mu_is Q (some m) 6 from gi_im u0.1.1 u0.2) ?_
  rw [zt15Q]
  refine mw_go mu_g268 (k := 1) (f1 := (38, [(2, .inl (nI v)), (0, .inr (.inr (some 99))), (1, .inr (.inr (some m)))], [.inl (mu_i Q (m + 31) 2), .inl (nI v)], Q)) (C := [mu_is Q (some (m + 31)) 10]) rfl (show mu_is Q (some (m + 31)) 10 from (u0.1.1.w (md_w15 u0.2)).1) ?_
  rw [esz]
  have stop : ¬ nI v < nI (V.1 15).1 → mu_W (mu_D (d + 3)) mu_m268 (179, [(2, .inl (nI v)), (0, .inr (.inr (some 99))), (1, .inr (.inr (some m)))], [], Q) Φ := fun hx => by
    have hvN : v = (U.1 15).1 := Nat.le_antisymm hv (Nat.le_of_not_lt (fun z => hx (by rw [hN]; exact (nI_ltI (by omega) (by omega)).mpr z)))
    subst hvN
    exact hΦ Q P f u0 r0 (by rw [hV]; exact hB)
  refine mw_if (P := nI v < nI (V.1 15).1) (a := 41) (b := 179) (fun _ => rfl) trivial (fun hx => ?_) stop
  have hvN : v < (U.1 15).1 := by rw [hN] at hx; exact (nI_ltI (by omega) (by omega)).mp hx
  obtain ⟨n, n1, n2, n3, n4, n5⟩ := bz_size hsum hvN
  refine mw_go mu_g268 (k := 2) (f1 := (45, [(2, .inl (nI v)), (0, .inr (.inr (some 99))), (1, .inr (.inr (some m)))], [.inr (.inr (mu_r Q 99 0))], Q)) (C := [mu_is Q (some 99) 13]) rfl (show mu_is Q (some 99) 13 from (u0.1.1.is rfl)) ?_
  rw [z0Q]
  refine mw_go mu_g268 (k := 1) (f1 := (48, [(2, .inl (nI v)), (0, .inr (.inr (some 99))), (1, .inr (.inr (some m)))], [.inr (.inr (mu_r Q m 15))], Q)) (C := [mu_is Q (some m) 6]) rfl (show mu_is Q (some m) 6 from gi_im u0.1.1 u0.2) ?_
  rw [zt15Q]
  refine mw_go mu_g268 (k := 2) (f1 := (50, [(2, .inl (nI v)), (0, .inr (.inr (some 99))), (1, .inr (.inr (some m)))], [.inl (1 : Int32), .inl (nI v), .inr (.inr (some (m + 31)))], Q)) (C := []) rfl trivial ?_
  refine mw_cIe (fun _ => rfl) (show mu_is Q (some (m + 31)) 10 from (u0.1.1.w (md_w15 u0.2)).1) (u0.getr (d := d + 2) hV (j := 15) (by decide) rfl (nI v) (c := 1) (by decide)) ?_
  rw [show tget (V.1 15) (nI v) 1 = nI n from (tget_nI (by omega)).trans ((hB.1.2.2.1 v 1 (by decide)).trans n2)]
  refine mw_go mu_g268 (k := 3) (f1 := (56, [(3, .inl (nI n)), (2, .inl (nI v)), (0, .inr (.inr (some 99))), (1, .inr (.inr (some m)))], [.inl (1 : Int32), .inl (nI n)], Q)) (C := []) rfl trivial ?_
  have skip : mu_W (mu_D (d + 3)) mu_m268 (173, [(3, .inl (nI n)), (2, .inl (nI v)), (0, .inr (.inr (some 99))), (1, .inr (.inr (some m)))], [], Q) Φ := by
    refine mw_go mu_g268 (k := 2) (f1 := (27, [(2, .inl (nI v + 1)), (3, .inl (nI n)), (0, .inr (.inr (some 99))), (1, .inr (.inr (some m)))], [], Q)) (C := []) rfl trivial ?_
    rw [nI_1 v]
    exact mw_sub (by simp) (ih (v + 1, Q) ⟨hvN, u0, r0, P, f, by rw [hV]; exact hB.skip⟩ (by show (U.1 15).1 - (v + 1) < (U.1 15).1 - v; omega))
  refine mw_if (P := (1 : Int32) < nI n) (a := 59) (b := 173) (fun _ => rfl) trivial (fun hx1 => ?_) (fun _ => skip)
  have hn2 : 2 ≤ n := (nI_ltI (a := 1) (by decide) (by omega)).mp hx1
  refine mw_go mu_g268 (k := 2) (f1 := (63, [(3, .inl (nI n)), (2, .inl (nI v)), (0, .inr (.inr (some 99))), (1, .inr (.inr (some m)))], [.inl (mu_i Q 99 4)], Q)) (C := [mu_is Q (some 99) 13]) rfl (show mu_is Q (some 99) 13 from (u0.1.1.is rfl)) ?_
  rw [(ud_i (m := m) hV rfl).trans hP4]
  refine mw_go mu_g268 (k := 1) (f1 := (65, [(3, .inl (nI n)), (2, .inl (nI v)), (0, .inr (.inr (some 99))), (1, .inr (.inr (some m)))], [.inl (14 : Int32), .inl (nI P)], Q)) (C := []) rfl trivial ?_
  have hP14 : P ≤ 14 := (hB.2.2.1.sum (Nat.le_trans (by have := sm_le_add (f := bz U.1) (a := 0) v ((U.1 15).1 - v); rwa [show v + ((U.1 15).1 - v) = (U.1 15).1 by omega] at this) hsum)).2.2
  refine mw_if (P := nI P < (14 : Int32)) (a := 68) (b := 173) (fun _ => rfl) trivial (fun hx2 => ?_) (fun _ => skip)
  have hPl : P < 14 := (nI_ltI (b := 14) (by omega) (by decide)).mp hx2
  refine mw_go mu_g268 (k := 2) (f1 := (72, [(3, .inl (nI n)), (2, .inl (nI v)), (0, .inr (.inr (some 99))), (1, .inr (.inr (some m)))], [.inr (.inr (mu_r Q 99 0))], Q)) (C := [mu_is Q (some 99) 13]) rfl (show mu_is Q (some 99) 13 from (u0.1.1.is rfl)) ?_
  rw [z0Q]
  refine mw_go mu_g268 (k := 1) (f1 := (75, [(3, .inl (nI n)), (2, .inl (nI v)), (0, .inr (.inr (some 99))), (1, .inr (.inr (some m)))], [.inr (.inr (mu_r Q m 15))], Q)) (C := [mu_is Q (some m) 6]) rfl (show mu_is Q (some m) 6 from gi_im u0.1.1 u0.2) ?_
  rw [zt15Q]
  refine mw_go mu_g268 (k := 4) (f1 := (81, [(3, .inl (nI n)), (2, .inl (nI v)), (0, .inr (.inr (some 99))), (1, .inr (.inr (some m)))], [.inl (mu_i Q 99 4), .inl (2 : Int32), .inl (nI v), .inr (.inr (some (m + 31)))], Q)) (C := [mu_is Q (some 99) 13]) rfl (show mu_is Q (some 99) 13 from (u0.1.1.is rfl)) ?_
  rw [(ud_i (m := m) hV rfl).trans hP4]
  refine mw_cV (fun _ => rfl) (show mu_is Q (some (m + 31)) 10 from (u0.1.1.w (md_w15 u0.2)).1) (u0.setr (C := C) (d := d + 2) hV (j := 15) (Or.inl (by decide)) rfl (nI v) (nI P) (c := 2) (by decide)) (fun Q1 q1 => ?_)
  obtain ⟨u1, r1, D1⟩ := q1
  have hl5Q1 : mu_n Q1 (mu_p (mu_r Q1 99 5)) = 14 := by rw [u1.1.1.r (p := 99) (j := 5) (q := 120) rfl]; exact (u1.1.1.a (p := 120) (x := (100, 14)) rfl).2
  refine mw_go mu_g268 (k := 4) (f1 := (92, [(3, .inl (nI n)), (2, .inl (nI v)), (0, .inr (.inr (some 99))), (1, .inr (.inr (some m)))], [.inl (mu_i Q1 99 4), .inr (.inr (mu_r Q1 99 5))], Q1)) (C := [mu_is Q1 (some 99) 13, mu_is Q1 (some 99) 13]) rfl (show (mu_is Q1 (some 99) 13) ∧ (mu_is Q1 (some 99) 13) from ⟨(u1.1.1.is rfl), (u1.1.1.is rfl)⟩) ?_
  rw [show mu_i Q1 99 4 = nI P from (ud_i (m := m) (P := 99) (j := 4) D1 rfl).trans hP4]
  refine mw_go mu_g268 (k := 2) (f1 := (94, [(3, .inl (nI n)), (2, .inl (nI v)), (0, .inr (.inr (some 99))), (1, .inr (.inr (some m)))], [], mu_si Q1 (mu_p (mu_r Q1 99 5)) (nI P).toNatClampNeg (nI n))) (C := [mu_is Q1 (mu_r Q1 99 5) 100, vp_in (nI P) (mu_n Q1 (mu_p (mu_r Q1 99 5)))]) rfl (show (mu_is Q1 (mu_r Q1 99 5) 100) ∧ (vp_in (nI P) (mu_n Q1 (mu_p (mu_r Q1 99 5)))) from ⟨u1.1.1.o rfl, by rw [hl5Q1]; exact vp_in_nI hPl (by decide)⟩) ?_
  rw [nI_clamp (by omega)]
  obtain ⟨u2, r2, d2⟩ := u1.putA (C := C) (P := 99) (J := 5) (k := P) (v := nI n) rfl rfl
  rw [D1] at d2
  generalize mu_si Q1 (mu_p (mu_r Q1 99 5)) P (nI n) = Q2 at u2 r2 d2 ⊢
  have D2 : ud m Q2 = (upA (upT V (ax 15 V.1 (nI v) 2 (nI P))) 99 5 P (nI n)) := d2
  have z0Q2 : mu_r Q2 99 0 = some m := (ud_r (m := m) D2 rfl rfl).trans hm0V
  have zt3Q2 : mu_r Q2 m 3 = some (m + 7) := (gi_mr u2.1.1 u2.2 (j := 3) (by decide)).trans (congrArg some (by omega))
  have zt15Q2 : mu_r Q2 m 15 = some (m + 31) := (gi_mr u2.1.1 u2.2 (j := 15) (by decide)).trans (congrArg some (by omega))
  refine mw_go mu_g268 (k := 3) (f1 := (99, [(3, .inl (nI n)), (2, .inl (nI v)), (0, .inr (.inr (some 99))), (1, .inr (.inr (some m)))], [.inl (mu_i Q2 99 9), .inr (.inr (some 99))], Q2)) (C := [mu_is Q2 (some 99) 13]) rfl (show mu_is Q2 (some 99) 13 from (u2.1.1.is rfl)) ?_
  refine mw_go mu_g268 (k := 2) (f1 := (103, [(3, .inl (nI n)), (2, .inl (nI v)), (0, .inr (.inr (some 99))), (1, .inr (.inr (some m)))], [.inr (.inr (mu_r Q2 99 0)), .inl (mu_i Q2 99 9), .inr (.inr (some 99))], Q2)) (C := [mu_is Q2 (some 99) 13]) rfl (show mu_is Q2 (some 99) 13 from (u2.1.1.is rfl)) ?_
  rw [z0Q2]
  refine mw_go mu_g268 (k := 1) (f1 := (106, [(3, .inl (nI n)), (2, .inl (nI v)), (0, .inr (.inr (some 99))), (1, .inr (.inr (some m)))], [.inr (.inr (mu_r Q2 m 3)), .inl (mu_i Q2 99 9), .inr (.inr (some 99))], Q2)) (C := [mu_is Q2 (some m) 6]) rfl (show mu_is Q2 (some m) 6 from gi_im u2.1.1 u2.2) ?_
  rw [zt3Q2]
  refine mw_go mu_g268 (k := 2) (f1 := (110, [(3, .inl (nI n)), (2, .inl (nI v)), (0, .inr (.inr (some 99))), (1, .inr (.inr (some m)))], [.inr (.inr (mu_r Q2 99 0)), .inr (.inr (some (m + 7))), .inl (mu_i Q2 99 9), .inr (.inr (some 99))], Q2)) (C := [mu_is Q2 (some 99) 13]) rfl (show mu_is Q2 (some 99) 13 from (u2.1.1.is rfl)) ?_
  rw [z0Q2]
  refine mw_go mu_g268 (k := 1) (f1 := (113, [(3, .inl (nI n)), (2, .inl (nI v)), (0, .inr (.inr (some 99))), (1, .inr (.inr (some m)))], [.inr (.inr (mu_r Q2 m 15)), .inr (.inr (some (m + 7))), .inl (mu_i Q2 99 9), .inr (.inr (some 99))], Q2)) (C := [mu_is Q2 (some m) 6]) rfl (show mu_is Q2 (some m) 6 from gi_im u2.1.1 u2.2) ?_
  rw [zt15Q2]
  refine mw_go mu_g268 (k := 2) (f1 := (115, [(3, .inl (nI n)), (2, .inl (nI v)), (0, .inr (.inr (some 99))), (1, .inr (.inr (some m)))], [.inl (0 : Int32), .inl (nI v), .inr (.inr (some (m + 31))), .inr (.inr (some (m + 7))), .inl (mu_i Q2 99 9), .inr (.inr (some 99))], Q2)) (C := []) rfl trivial ?_
  refine mw_cIe (fun _ => rfl) (show mu_is Q2 (some (m + 31)) 10 from (u2.1.1.w (md_w15 u2.2)).1) (u2.getr (d := d + 2) D2 (j := 15) (by decide) rfl (nI v) (c := 0) (by decide)) ?_
  generalize tget (Prod.fst (upA (upT V (ax 15 V.1 (nI v) 2 (nI P))) 99 5 P (nI n)) 15) (nI v) 0 = x0
  refine mw_go mu_g268 (k := 1) (f1 := (119, [(3, .inl (nI n)), (2, .inl (nI v)), (0, .inr (.inr (some 99))), (1, .inr (.inr (some m)))], [.inl (1 : Int32), .inl x0, .inr (.inr (some (m + 7))), .inl (mu_i Q2 99 9), .inr (.inr (some 99))], Q2)) (C := []) rfl trivial ?_
  refine mw_cIe (fun _ => rfl) (show mu_is Q2 (some (m + 7)) 10 from (u2.1.1.w (md_w3 u2.2)).1) (u2.getr (d := d + 2) D2 (j := 3) (by decide) rfl x0 (c := 1) (by decide)) ?_
  generalize tget (Prod.fst (upA (upT V (ax 15 V.1 (nI v) 2 (nI P))) 99 5 P (nI n)) 3) x0 1 = x1
  refine mw_go mu_g268 (k := 1) (f1 := (123, [(3, .inl (nI n)), (2, .inl (nI v)), (0, .inr (.inr (some 99))), (1, .inr (.inr (some m)))], [.inl (2 : Int32), .inl x1, .inl (mu_i Q2 99 9), .inr (.inr (some 99))], Q2)) (C := []) rfl trivial ?_
  have tail : ∀ y : Int32, mu_W (mu_D (d + 3)) mu_m268 (136, [(3, .inl (nI n)), (2, .inl (nI v)), (0, .inr (.inr (some 99))), (1, .inr (.inr (some m)))], [.inl y, .inl (mu_i Q2 99 9), .inr (.inr (some 99))], Q2) Φ := by
    intro y
    refine mw_go mu_g268 (k := 2) (f1 := (140, [(3, .inl (nI n)), (2, .inl (nI v)), (0, .inr (.inr (some 99))), (1, .inr (.inr (some m)))], [], mu_si Q2 99 9 (mu_i Q2 99 9 ||| y))) (C := [mu_is Q2 (some 99) 13]) rfl (show mu_is Q2 (some 99) 13 from (u2.1.1.is rfl)) ?_
    obtain ⟨r9, hr9⟩ : ∃ r9, r9 = mu_i Q2 99 9 ||| y := ⟨_, rfl⟩
    rw [← hr9]
    obtain ⟨u3, r3, d3⟩ := u2.putI (C := C) (P := 99) (k := 9) (v := r9) rfl
    rw [D2] at d3
    generalize mu_si Q2 99 9 r9 = Q3 at u3 r3 d3 ⊢
    have D3 : ud m Q3 = (upI (upA (upT V (ax 15 V.1 (nI v) 2 (nI P))) 99 5 P (nI n)) 99 9 r9) := d3
    have hl7Q3 : mu_n Q3 (mu_p (mu_r Q3 99 7)) = 14 := by rw [u3.1.1.r (p := 99) (j := 7) (q := 122) rfl]; exact (u3.1.1.a (p := 122) (x := (100, 14)) rfl).2
    refine mw_go mu_g268 (k := 4) (f1 := (148, [(3, .inl (nI n)), (2, .inl (nI v)), (0, .inr (.inr (some 99))), (1, .inr (.inr (some m)))], [.inl (mu_i Q3 99 4), .inr (.inr (mu_r Q3 99 7))], Q3)) (C := [mu_is Q3 (some 99) 13, mu_is Q3 (some 99) 13]) rfl (show (mu_is Q3 (some 99) 13) ∧ (mu_is Q3 (some 99) 13) from ⟨(u3.1.1.is rfl), (u3.1.1.is rfl)⟩) ?_
    rw [show mu_i Q3 99 4 = nI P from (ud_i (m := m) (P := 99) (j := 4) D3 rfl).trans hP4]
    refine mw_go mu_g268 (k := 2) (f1 := (152, [(3, .inl (nI n)), (2, .inl (nI v)), (0, .inr (.inr (some 99))), (1, .inr (.inr (some m)))], [.inl (mu_i Q3 99 10), .inl (nI P), .inr (.inr (mu_r Q3 99 7))], Q3)) (C := [mu_is Q3 (some 99) 13]) rfl (show mu_is Q3 (some 99) 13 from (u3.1.1.is rfl)) ?_
    rw [show mu_i Q3 99 10 = nI (sm f 0 P) from (ud_i (m := m) (P := 99) (j := 10) D3 rfl).trans hs10]
    refine mw_go mu_g268 (k := 1) (f1 := (153, [(3, .inl (nI n)), (2, .inl (nI v)), (0, .inr (.inr (some 99))), (1, .inr (.inr (some m)))], [], mu_si Q3 (mu_p (mu_r Q3 99 7)) (nI P).toNatClampNeg (nI (sm f 0 P)))) (C := [mu_is Q3 (mu_r Q3 99 7) 100, vp_in (nI P) (mu_n Q3 (mu_p (mu_r Q3 99 7)))]) rfl (show (mu_is Q3 (mu_r Q3 99 7) 100) ∧ (vp_in (nI P) (mu_n Q3 (mu_p (mu_r Q3 99 7)))) from ⟨u3.1.1.o rfl, by rw [hl7Q3]; exact vp_in_nI hPl (by decide)⟩) ?_
    rw [nI_clamp (by omega)]
    obtain ⟨u4, r4, d4⟩ := u3.putA (C := C) (P := 99) (J := 7) (k := P) (v := nI (sm f 0 P)) rfl rfl
    rw [D3] at d4
    generalize mu_si Q3 (mu_p (mu_r Q3 99 7)) P (nI (sm f 0 P)) = Q4 at u4 r4 d4 ⊢
    have D4 : ud m Q4 = (upA (upI (upA (upT V (ax 15 V.1 (nI v) 2 (nI P))) 99 5 P (nI n)) 99 9 r9) 99 7 P (nI (sm f 0 P))) := d4
    refine mw_go mu_g268 (k := 3) (f1 := (158, [(3, .inl (nI n)), (2, .inl (nI v)), (0, .inr (.inr (some 99))), (1, .inr (.inr (some m)))], [.inl (mu_i Q4 99 10), .inr (.inr (some 99))], Q4)) (C := [mu_is Q4 (some 99) 13]) rfl (show mu_is Q4 (some 99) 13 from (u4.1.1.is rfl)) ?_
    rw [show mu_i Q4 99 10 = nI (sm f 0 P) from (ud_i (m := m) (P := 99) (j := 10) D4 rfl).trans hs10]
    refine mw_go mu_g268 (k := 3) (f1 := (163, [(3, .inl (nI n)), (2, .inl (nI v)), (0, .inr (.inr (some 99))), (1, .inr (.inr (some m)))], [], mu_si Q4 99 10 (nI (sm f 0 P) + nI n))) (C := [mu_is Q4 (some 99) 13]) rfl (show mu_is Q4 (some 99) 13 from (u4.1.1.is rfl)) ?_
    rw [show nI (sm f 0 P) + nI n = nI (sm f 0 P + n) from nI_add _ _]
    obtain ⟨u5, r5, d5⟩ := u4.putI (C := C) (P := 99) (k := 10) (v := nI (sm f 0 P + n)) rfl
    rw [D4] at d5
    generalize mu_si Q4 99 10 (nI (sm f 0 P + n)) = Q5 at u5 r5 d5 ⊢
    have D5 : ud m Q5 = (upI (upA (upI (upA (upT V (ax 15 V.1 (nI v) 2 (nI P))) 99 5 P (nI n)) 99 9 r9) 99 7 P (nI (sm f 0 P))) 99 10 (nI (sm f 0 P + n))) := d5
    refine mw_go mu_g268 (k := 3) (f1 := (168, [(3, .inl (nI n)), (2, .inl (nI v)), (0, .inr (.inr (some 99))), (1, .inr (.inr (some m)))], [.inl (mu_i Q5 99 4), .inr (.inr (some 99))], Q5)) (C := [mu_is Q5 (some 99) 13]) rfl (show mu_is Q5 (some 99) 13 from (u5.1.1.is rfl)) ?_
    rw [show mu_i Q5 99 4 = nI P from (ud_i (m := m) (P := 99) (j := 4) D5 rfl).trans hP4]
    refine mw_go mu_g268 (k := 3) (f1 := (173, [(3, .inl (nI n)), (2, .inl (nI v)), (0, .inr (.inr (some 99))), (1, .inr (.inr (some m)))], [], mu_si Q5 99 4 (nI P + 1))) (C := [mu_is Q5 (some 99) 13]) rfl (show mu_is Q5 (some 99) 13 from (u5.1.1.is rfl)) ?_
    rw [nI_1 P]
    obtain ⟨u6, r6, d6⟩ := u5.putI (C := C) (P := 99) (k := 4) (v := nI (P + 1)) rfl
    rw [D5] at d6
    generalize mu_si Q5 99 4 (nI (P + 1)) = Q6 at u6 r6 d6 ⊢
    have D6 : ud m Q6 = (upI (upI (upA (upI (upA (upT V (ax 15 V.1 (nI v) 2 (nI P))) 99 5 P (nI n)) 99 9 r9) 99 7 P (nI (sm f 0 P))) 99 10 (nI (sm f 0 P + n))) 99 4 (nI (P + 1))) := d6
    refine mw_go mu_g268 (k := 2) (f1 := (27, [(2, .inl (nI v + 1)), (3, .inl (nI n)), (0, .inr (.inr (some 99))), (1, .inr (.inr (some m)))], [], Q6)) (C := []) rfl trivial ?_
    rw [nI_1 v]
    exact mw_sub (by simp) (ih (v + 1, Q6) ⟨hvN, u6, (((((r0.trans r1).trans r2).trans r3).trans r4).trans r5).trans r6, P + 1, _, hB.put hvN h15 hn2 n3 (n5 hn2) D6⟩ (by show (U.1 15).1 - (v + 1) < (U.1 15).1 - v; omega))
  refine mw_if (P := x1 = (2 : Int32)) (a := 126) (b := 130) (fun _ => rfl) trivial (fun _ => ?_) (fun _ => ?_)
  · skip
    refine mw_go mu_g268 (k := 2) (f1 := (136, [(3, .inl (nI n)), (2, .inl (nI v)), (0, .inr (.inr (some 99))), (1, .inr (.inr (some m)))], [.inl (0 : Int32), .inl (mu_i Q2 99 9), .inr (.inr (some 99))], Q2)) (C := []) rfl trivial ?_
    exact tail _
  · skip
    refine mw_go mu_g268 (k := 4) (f1 := (136, [(3, .inl (nI n)), (2, .inl (nI v)), (0, .inr (.inr (some 99))), (1, .inr (.inr (some m)))], [.inl ((1 : Int32) <<< ((mu_i Q2 99 4) &&& 31)), .inl (mu_i Q2 99 9), .inr (.inr (some 99))], Q2)) (C := [mu_is Q2 (some 99) 13]) rfl (show mu_is Q2 (some 99) 13 from (u2.1.1.is rfl)) ?_
    exact tail _
end Loop1
