/-! READ -/
/-- PathProver.read()I -/
abbrev mu_m34 : ev_M := (4, (some .int), [], ev_b34)
theorem mu_g34 : mu_good mu_m34 := mu_goodk ev_k34
/-- the fields of the PathProver when a text was good -/
def rdw (m m' : Nat) (H : mu_H) : mu_H := mu_si (mu_si (mu_si (mu_sr (mu_sr H 0 4 (some m')) 0 5 (some m)) 0 3 1) 0 12 0) 0 13 (-1)
section Read
variable {H H1 H2 : mu_H} {m m' t l d : Nat} {C : Nat → Nat}
theorem rdw_ok (h : gu H) (hm : hmm m m') : gu (rdw m m' H) ∧ gk fS H (rdw m m' H) := by
  have hm1 : m < 169 ∧ m' < 169 := by unfold hmm at hm; omega
  have g1 : gi (mu_sr H 0 4 (some m')) := h.1.sr rfl rfl (by decide)
  have k1 : gk fS H (mu_sr H 0 4 (some m')) := gk.sr h.1 (k := 0) rfl rfl (by decide) rfl (fun q hq => by cases hq; exact Or.inl hm1.2)
  have g2 : gi (mu_sr (mu_sr H 0 4 (some m')) 0 5 (some m)) := g1.sr rfl rfl (by decide)
  have k2 : gk fS (mu_sr H 0 4 (some m')) (mu_sr (mu_sr H 0 4 (some m')) 0 5 (some m)) := gk.sr g1 (k := 0) rfl rfl (by decide) rfl (fun q hq => by cases hq; exact Or.inl hm1.1)
  have g3 : gi (mu_si (mu_sr (mu_sr H 0 4 (some m')) 0 5 (some m)) 0 3 1) := g2.si (k := 0) rfl rfl
  have k3 : gk fS (mu_sr (mu_sr H 0 4 (some m')) 0 5 (some m)) (mu_si (mu_sr (mu_sr H 0 4 (some m')) 0 5 (some m)) 0 3 1) := gk.si g2 (k := 0) rfl rfl
  have g4 : gi (mu_si (mu_si (mu_sr (mu_sr H 0 4 (some m')) 0 5 (some m)) 0 3 1) 0 12 0) := g3.si (k := 0) rfl rfl
  have k4 : gk fS (mu_si (mu_sr (mu_sr H 0 4 (some m')) 0 5 (some m)) 0 3 1) (mu_si (mu_si (mu_sr (mu_sr H 0 4 (some m')) 0 5 (some m)) 0 3 1) 0 12 0) := gk.si g3 (k := 0) rfl rfl
  have g5 : gi (rdw m m' H) := g4.si (k := 0) rfl rfl
  have k5 : gk fS (mu_si (mu_si (mu_sr (mu_sr H 0 4 (some m')) 0 5 (some m)) 0 3 1) 0 12 0) (rdw m m' H) := gk.si g4 (k := 0) rfl rfl
  have kk := (((k1.trans k2).trans k3).trans k4).trans k5
  exact ⟨(h.gk g5 kk).1, kk⟩
theorem pv_read (h : gu H) (hm : hmm m m') (h4 : mu_r H 0 4 = some m) (h5 : mu_r H 0 5 = some m') (ht : mu_r H 0 0 = some t) (hl : mu_i H 0 1 = nI l) (hlt : l ≤ mu_n H t) (hl2 : l ≤ 65536) (hj : jn H ≤ 8388608) (w8 : lwh 1 (gi_len H (99, 8))) (w18 : lwh 1 (gi_len H (99, 18))) (hC19 : 10 * (12 * l + 60) + 5 ≤ C 19) (hC19b : C 19 ≤ 8388608) (hC : ∀ j, 11 ≤ j → j < 19 → 120000 ≤ C j ∧ C j ≤ 8388608) (hC20 : 20000 ≤ C 20) (hC20b : C 20 ≤ 8388608) : mu_MT (mu_D (d + 11)) 34 [.inr (.inr (some 0))] H (fun r => (∃ p H2, p ≤ l ∧ pr m' t l (mu_si H 0 1 0) H2 ∧ r = (.inr 0, mu_ex (mu_si H2 0 2 (nI p)))) ∨ (∃ H2 H4, pr m' t l (mu_si H 0 1 0) H2 ∧ dm m' H4 ∧ vd m' C (mu_si H2 0 2 (-1)) H4 ∧ (r = (.inr 2, mu_ex H4) ∨ r = (.inr 3, mu_ex H4))) ∨ (∃ H2 H4 H6 H7, pr m' t l (mu_si H 0 1 0) H2 ∧ dm m' H4 ∧ vd m' C (mu_si H2 0 2 (-1)) H4 ∧ FN m' H4 ∧ um m' H6 ∧ ur m' C (rdw m m' H4) H6 ∧ (∃ P f, SG m' (ud m' (rdw m m' H4)) (ud m' H6) P f) ∧ um m' H7 ∧ ur m' C H6 H7 ∧ ud m' H7 = pvb (ud m' H6) ∧ r = (.inl (some (.inl (mu_i H7 (m' + 35) 2))), H7))) := by
  obtain ⟨hm1, hm2⟩ := hm.one
  refine mu_meth (M := mu_m34) rfl rfl ?_
  refine mw_ht (mu_fn_of (show [0].Nodup by decide)) ?_
  refine mw_go mu_g34 (k := 2) (f1 := (4, [(0, .inr (.inr (some 0)))], [.inl (mu_i H 0 1)], H)) (C := [mu_is H (some 0) 0]) rfl (show mu_is H (some 0) 0 from h.1.is rfl) ?_
  rw [hl]
  refine mw_go mu_g34 (k := 1) (f1 := (5, [(1, .inl (nI l)), (0, .inr (.inr (some 0)))], [], H)) (C := []) rfl trivial ?_
  refine mw_go mu_g34 (k := 3) (f1 := (10, [(1, .inl (nI l)), (0, .inr (.inr (some 0)))], [], mu_si H 0 1 (0 : Int32))) (C := [mu_is H (some 0) 0]) rfl (show mu_is H (some 0) 0 from h.1.is rfl) ?_
  have g1 : gi (mu_si H 0 1 (0 : Int32)) := h.1.si (k := 0) rfl rfl
  have k1 : gk fS H (mu_si H 0 1 (0 : Int32)) := gk.si h.1 (k := 0) rfl rfl
  have u1 := (h.gk g1 k1).1
  obtain ⟨Q1, hQ1⟩ : ∃ Q1, Q1 = mu_si H 0 1 (0 : Int32) := ⟨_, rfl⟩
  have e5 : mu_r Q1 0 5 = some m' := by rw [hQ1]; exact h5
  have e4 : mu_r Q1 0 4 = some m := by rw [hQ1]; exact h4
  have e0 : mu_r Q1 0 0 = some t := by rw [hQ1]; exact ht
  have n0 : l ≤ mu_n Q1 t := by rw [hQ1]; exact hlt
  have j1 : jn Q1 = jn H := by rw [hQ1]; exact jn_gk h.1 k1 rfl
  have l1 : ∀ J, gi_len Q1 (99, J) = gi_len H (99, J) := fun J => by rw [hQ1]; rfl
  rw [← hQ1] at g1 k1 u1 ⊢
  refine mw_go mu_g34 (k := 3) (f1 := (15, [(1, .inl (nI l)), (0, .inr (.inr (some 0)))], [.inr (.inr (mu_r Q1 0 6)), .inr (.inr (some 0))], Q1)) (C := [mu_is Q1 (some 0) 0]) rfl (show mu_is Q1 (some 0) 0 from g1.is rfl) ?_
  rw [g1.r (p := 0) (j := 6) (q := 80) rfl]
  refine mw_go mu_g34 (k := 2) (f1 := (19, [(1, .inl (nI l)), (0, .inr (.inr (some 0)))], [.inr (.inr (mu_r Q1 0 5)), .inr (.inr (some 80)), .inr (.inr (some 0))], Q1)) (C := [mu_is Q1 (some 0) 0]) rfl (show mu_is Q1 (some 0) 0 from g1.is rfl) ?_
  rw [e5]
  refine mw_go mu_g34 (k := 2) (f1 := (23, [(1, .inl (nI l)), (0, .inr (.inr (some 0)))], [.inr (.inr (mu_r Q1 0 0)), .inr (.inr (some m')), .inr (.inr (some 80)), .inr (.inr (some 0))], Q1)) (C := [mu_is Q1 (some 0) 0]) rfl (show mu_is Q1 (some 0) 0 from g1.is rfl) ?_
  rw [e0]
  refine mw_go mu_g34 (k := 1) (f1 := (24, [(1, .inl (nI l)), (0, .inr (.inr (some 0)))], [.inl (nI l), .inr (.inr (some t)), .inr (.inr (some m')), .inr (.inr (some 80)), .inr (.inr (some 0))], Q1)) (C := []) rfl trivial ?_
  refine mw_cI (fun _ => rfl) (show mu_is Q1 (some 80) 7 from g1.is rfl) (pb_parse (d := d) (t := t) (n := l) g1 hm2 e0 n0 (by omega)) (fun x H2 q => ?_)
  obtain ⟨hpr, hx, hz⟩ := q
  have g2 : gi H2 := hpr.1.1
  have hS0 : pr_S m' 0 = false := by unfold hmm at hm; rcases hm with ⟨-, z⟩ | ⟨-, z⟩ <;> subst z <;> rfl
  have hS91 : pr_S m' 91 = false := by unfold hmm at hm; rcases hm with ⟨-, z⟩ | ⟨-, z⟩ <;> subst z <;> rfl
  have hS99 : pr_S m' 99 = false := by unfold hmm at hm; rcases hm with ⟨-, z⟩ | ⟨-, z⟩ <;> subst z <;> rfl
  have s0 := hpr.2.1.2.2.1 0 0 rfl hS0
  have u2 := (u1.lk g2 hpr.2.1).1
  refine mw_go mu_g34 (k := 1) (f1 := (30, [(1, .inl (nI l)), (0, .inr (.inr (some 0)))], [], mu_si H2 0 2 x)) (C := [mu_is H2 (some 0) 0]) rfl (show mu_is H2 (some 0) 0 from g2.is rfl) ?_
  have g3 : gi (mu_si H2 0 2 x) := g2.si (k := 0) rfl rfl
  have k3 : gk fS H2 (mu_si H2 0 2 x) := gk.si g2 (k := 0) rfl rfl
  refine mw_go mu_g34 (k := 2) (f1 := (34, [(1, .inl (nI l)), (0, .inr (.inr (some 0)))], [.inl (mu_i (mu_si H2 0 2 x) 0 2)], mu_si H2 0 2 x)) (C := [mu_is (mu_si H2 0 2 x) (some 0) 0]) rfl (show mu_is (mu_si H2 0 2 x) (some 0) 0 from g3.is rfl) ?_
  rw [show mu_i (mu_si H2 0 2 x) 0 2 = x from rfl]
  have hprQ := hpr
  rw [hQ1] at hpr
  rcases hx with ⟨rfl, hCT, hCE⟩ | ⟨p, hp, rfl⟩
  rotate_left
  · refine mw_if (P := nI p < 0) (a := 45) (b := 37) (fun _ => rfl) trivial (fun z => absurd z (nI_pos (by omega))) (fun _ => ?_)
    exact mw_of (fun _ => mu_throw rfl rfl rfl rfl (by decide) rfl (by decide) (Or.inl ⟨p, H2, hp, hprQ, rfl⟩))
  refine mw_if (P := (-1 : Int32) < 0) (a := 45) (b := 37) (fun _ => rfl) trivial (fun _ => ?_) (fun z => absurd (by decide) z)
  have u3 := (u2.gk g3 k3).1
  have r3 : ∀ j, mu_r (mu_si H2 0 2 (-1)) 0 j = mu_r Q1 0 j := fun j => s0.r j
  have ej3 : jn (mu_si H2 0 2 (-1)) = jn Q1 := by
    show mu_n H2 (mu_p (mu_r H2 91 2)) = mu_n Q1 (mu_p (mu_r Q1 91 2))
    rw [(hpr.2.1.2.2.1 91 3 rfl hS91).r]
    rw [hQ1]
    exact (hpr.2.1.2.1 _ (by rw [← hQ1]; exact (g1.o (p := 91) (j := 2) rfl).2.1)).2
  have a3 : ak m' (mu_si H2 0 2 (-1)) = ak m' H2 := gT_keep (ra_ok hm2) k3 (fun j hj => by
    show Nat.beq (ra m' j) 0 = false
    exact beq_f (fun z => by have := ra_91 hm2 hj; have q := (gi_w_ok ((ra_ok hm2).1 j hj)).2.2.2.2; rw [z] at q; cases q))
  have hpot := hpr.2.2.2.1
  unfold ps_pot at hpot
  have sz : ∀ j, j < 19 → (ak m' H2 j).1 = gi_sz H2 (m' + 1 + 2 * j) := fun j hj => by rw [ak_n (by omega), (ra_19 hj).1]
  have z0 : (ak m' H2 0).1 = gi_sz H2 (m' + 1) := sz 0 (by decide)
  have z1 : (ak m' H2 1).1 = gi_sz H2 (m' + 3) := sz 1 (by decide)
  have z2 : (ak m' H2 2).1 = gi_sz H2 (m' + 5) := sz 2 (by decide)
  have z3 : (ak m' H2 3).1 = gi_sz H2 (m' + 7) := sz 3 (by decide)
  have z4 : (ak m' H2 4).1 = gi_sz H2 (m' + 9) := sz 4 (by decide)
  have z6 : (ak m' H2 6).1 = gi_sz H2 (m' + 13) := sz 6 (by decide)
  obtain ⟨Q3, hQ3⟩ : ∃ Q3, Q3 = mu_si H2 0 2 (-1) := ⟨_, rfl⟩
  rw [← hQ3] at g3 u3 r3 ej3 a3 ⊢
  refine mw_go mu_g34 (k := 2) (f1 := (49, [(1, .inl (nI l)), (0, .inr (.inr (some 0)))], [.inr (.inr (mu_r Q3 0 7))], Q3)) (C := [mu_is Q3 (some 0) 0]) rfl (show mu_is Q3 (some 0) 0 from g3.is rfl) ?_
  rw [g3.r (p := 0) (j := 7) (q := 91) rfl]
  refine mw_go mu_g34 (k := 2) (f1 := (53, [(1, .inl (nI l)), (0, .inr (.inr (some 0)))], [.inr (.inr (mu_r Q3 0 5)), .inr (.inr (some 91))], Q3)) (C := [mu_is Q3 (some 0) 0]) rfl (show mu_is Q3 (some 0) 0 from g3.is rfl) ?_
  rw [(r3 5).trans e5]
  refine mw_cI (fun _ => rfl) (show mu_is Q3 (some 91) 3 from g3.is rfl) (jg_verdict (C := C) (d := d + 1) g3 hm2 (by rw [a3]; exact CT_ak hCT) (fun j h1 h2 => by rw [a3, sz j (by omega)]; exact hz j h1 h2) (by rw [a3, z0]; omega) (by rw [ej3, j1]; exact hj) (by rw [a3, z1, z2, z3, z4, z6]; omega) hC19b hC hC20 hC20b) (fun y H4 q => ?_)
  obtain ⟨hy, d4, v4, f4⟩ := q
  rw [hQ3] at v4
  refine mw_go mu_g34 (k := 3) (f1 := (59, [(2, .inl y), (1, .inl (nI l)), (0, .inr (.inr (some 0)))], [.inl (1 : Int32), .inl y], H4)) (C := []) rfl trivial ?_
  refine mw_if (P := y = (1 : Int32)) (a := 62) (b := 70) (fun _ => rfl) trivial (fun _ => ?_) (fun n1 => ?_)
  · exact mw_of (fun _ => mu_throw rfl rfl rfl rfl (by decide) rfl (by decide) (Or.inr (Or.inl ⟨H2, H4, hprQ, d4, v4, Or.inl rfl⟩)))
  refine mw_go mu_g34 (k := 2) (f1 := (72, [(2, .inl y), (1, .inl (nI l)), (0, .inr (.inr (some 0)))], [.inl (2 : Int32), .inl y], H4)) (C := []) rfl trivial ?_
  refine mw_if (P := y = (2 : Int32)) (a := 75) (b := 83) (fun _ => rfl) trivial (fun _ => ?_) (fun n2 => ?_)
  · exact mw_of (fun _ => mu_throw rfl rfl rfl rfl (by decide) rfl (by decide) (Or.inr (Or.inl ⟨H2, H4, hprQ, d4, v4, Or.inr rfl⟩)))
  have y0 : y = 0 := by rcases hy with z | z | z; exact z; exact absurd z n1; exact absurd z n2
  have hFN := f4 y0
  rw [← hQ3] at v4
  have hR0 : rS m' 0 = false := by unfold hmm at hm; rcases hm with ⟨-, z⟩ | ⟨-, z⟩ <;> subst z <;> rfl
  have hR99 : rS m' 99 = false := by unfold hmm at hm; rcases hm with ⟨-, z⟩ | ⟨-, z⟩ <;> subst z <;> rfl
  have s4 := v4.1.2.2.1 0 0 rfl hR0
  have u4 := (u3.gk d4.1 v4.1).1
  have x4 : mu_r H4 0 4 = some m := (s4.r 4).trans ((r3 4).trans e4)
  have x5 : mu_r H4 0 5 = some m' := (s4.r 5).trans ((r3 5).trans e5)
  refine mw_go mu_g34 (k := 2) (f1 := (87, [(2, .inl y), (1, .inl (nI l)), (0, .inr (.inr (some 0)))], [.inr (.inr (mu_r H4 0 4))], H4)) (C := [mu_is H4 (some 0) 0]) rfl (show mu_is H4 (some 0) 0 from d4.1.is rfl) ?_
  rw [x4]
  refine mw_go mu_g34 (k := 1) (f1 := (88, [(3, .inr (.inr (some m))), (2, .inl y), (1, .inl (nI l)), (0, .inr (.inr (some 0)))], [], H4)) (C := []) rfl trivial ?_
  refine mw_go mu_g34 (k := 3) (f1 := (93, [(3, .inr (.inr (some m))), (2, .inl y), (1, .inl (nI l)), (0, .inr (.inr (some 0)))], [.inr (.inr (mu_r H4 0 5)), .inr (.inr (some 0))], H4)) (C := [mu_is H4 (some 0) 0]) rfl (show mu_is H4 (some 0) 0 from d4.1.is rfl) ?_
  rw [x5]
  refine mw_go mu_g34 (k := 1) (f1 := (96, [(3, .inr (.inr (some m))), (2, .inl y), (1, .inl (nI l)), (0, .inr (.inr (some 0)))], [], (mu_sr H4 0 4 (some m')))) (C := [mu_is H4 (some 0) 0]) rfl (show mu_is H4 (some 0) 0 from d4.1.is rfl) ?_
  refine mw_go mu_g34 (k := 3) (f1 := (101, [(3, .inr (.inr (some m))), (2, .inl y), (1, .inl (nI l)), (0, .inr (.inr (some 0)))], [], (mu_sr (mu_sr H4 0 4 (some m')) 0 5 (some m)))) (C := [mu_is (mu_sr H4 0 4 (some m')) (some 0) 0]) rfl (show mu_is H4 (some 0) 0 from d4.1.is rfl) ?_
  refine mw_go mu_g34 (k := 3) (f1 := (106, [(3, .inr (.inr (some m))), (2, .inl y), (1, .inl (nI l)), (0, .inr (.inr (some 0)))], [], (mu_si (mu_sr (mu_sr H4 0 4 (some m')) 0 5 (some m)) 0 3 1))) (C := [mu_is (mu_sr (mu_sr H4 0 4 (some m')) 0 5 (some m)) (some 0) 0, (1 : Int32) = 0 ∨ (1 : Int32) = 1]) rfl ⟨(show mu_is H4 (some 0) 0 from d4.1.is rfl), Or.inr rfl⟩ ?_
  refine mw_go mu_g34 (k := 3) (f1 := (111, [(3, .inr (.inr (some m))), (2, .inl y), (1, .inl (nI l)), (0, .inr (.inr (some 0)))], [], (mu_si (mu_si (mu_sr (mu_sr H4 0 4 (some m')) 0 5 (some m)) 0 3 1) 0 12 0))) (C := [mu_is (mu_si (mu_sr (mu_sr H4 0 4 (some m')) 0 5 (some m)) 0 3 1) (some 0) 0, (0 : Int32) = 0 ∨ (0 : Int32) = 1]) rfl ⟨(show mu_is H4 (some 0) 0 from d4.1.is rfl), Or.inl rfl⟩ ?_
  refine mw_go mu_g34 (k := 3) (f1 := (116, [(3, .inr (.inr (some m))), (2, .inl y), (1, .inl (nI l)), (0, .inr (.inr (some 0)))], [], rdw m m' H4)) (C := [mu_is (mu_si (mu_si (mu_sr (mu_sr H4 0 4 (some m')) 0 5 (some m)) 0 3 1) 0 12 0) (some 0) 0]) rfl (show mu_is H4 (some 0) 0 from d4.1.is rfl) ?_
  obtain ⟨u5, k5⟩ := rdw_ok (m := m) (m' := m') u4 hm
  have y4 : mu_r (rdw m m' H4) 0 4 = some m' := rfl
  have a5 : ak m' (rdw m m' H4) = ak m' H4 := gT_keep (ra_ok hm2) k5 (fun j hj => by
    show Nat.beq (ra m' j) 0 = false
    exact beq_f (fun z => by have q := (gi_w_ok ((ra_ok hm2).1 j hj)).2.2.2.2; rw [z] at q; cases q))
  have l5 : ∀ J, gi_o 99 J = true → gi_len (rdw m m' H4) (99, J) = gi_len H (99, J) := fun J hJ => by
    rw [← l1 J]
    show mu_n H4 (mu_p (mu_r H4 99 J)) = mu_n Q1 (mu_p (mu_r Q1 99 J))
    have q1 := v4.1.2.2.1 99 13 rfl hR99
    have q2 := hpr.2.1.2.2.1 99 13 rfl hS99
    rw [← hQ1] at q2
    have o1 := g1.o (p := 99) (j := J) hJ
    have n3 : mu_n Q3 (mu_p (mu_r Q1 99 J)) = mu_n Q1 (mu_p (mu_r Q1 99 J)) := by rw [hQ3]; exact (hpr.2.1.2.1 _ (by rw [← hQ1]; exact o1.2.1)).2.trans (by rw [hQ1])
    have z3 : mu_r Q3 99 J = mu_r Q1 99 J := by rw [hQ3]; exact q2.r J
    have o3 := g3.o (p := 99) (j := J) hJ
    rw [q1.r, z3] 
    rw [z3] at o3
    exact ((v4.1.2.1 _ o3.2.1).2).trans n3
  rw [hQ3] at v4
  generalize hQ5 : rdw m m' H4 = Q5 at u5 k5 y4 a5 l5 ⊢
  refine mw_go mu_g34 (k := 2) (f1 := (120, [(3, .inr (.inr (some m))), (2, .inl y), (1, .inl (nI l)), (0, .inr (.inr (some 0)))], [.inr (.inr (mu_r Q5 0 8))], Q5)) (C := [mu_is Q5 (some 0) 0]) rfl (show mu_is Q5 (some 0) 0 from u5.1.is rfl) ?_
  rw [u5.1.r (p := 0) (j := 8) (q := 99) rfl]
  refine mw_go mu_g34 (k := 2) (f1 := (124, [(3, .inr (.inr (some m))), (2, .inl y), (1, .inl (nI l)), (0, .inr (.inr (some 0)))], [.inr (.inr (mu_r Q5 0 4)), .inr (.inr (some 99))], Q5)) (C := [mu_is Q5 (some 0) 0]) rfl (show mu_is Q5 (some 0) 0 from u5.1.is rfl) ?_
  rw [y4]
  obtain ⟨W, hFW, hFO, hbz⟩ := hFN
  have e15 : ak m' Q5 15 = W 15 := by rw [a5]; exact hFO.1.1 15 (by decide) (by decide) (by decide)
  have ebz : bz (ud m' Q5).1 = bz W := by funext v; unfold bz; show bl ((ak m' Q5 15).2 v 1) = _; rw [e15]
  refine mw_cV (fun _ => rfl) (show mu_is Q5 (some 99) 13 from u5.1.is rfl) (sp_begin (C := C) (d := d + 5) (m := m') (U := ud m' Q5) ⟨u5, hm2⟩ rfl (by rw [ebz]; show sm (bz W) 0 (ak m' Q5 15).1 ≤ 14; rw [e15]; exact hbz) (by show (ak m' Q5 15).1 ≤ 67108864; rw [e15]; have := hFW.2.2.2.2.1.2.2.2.1; omega) (fun w hw => by show (ak m' Q5 15).2 w 2 = -1; have hw : w < (ak m' Q5 15).1 := hw; rw [e15] at hw ⊢; exact hFW.2.2.2.2.2.2 w hw) (by show lwh 1 (dA Q5 99 8).1; rw [show (dA Q5 99 8).1 = gi_len Q5 (99, 8) from rfl, l5 8 rfl]; exact w8) (by show lwh 1 (dA Q5 99 18).1; rw [show (dA Q5 99 18).1 = gi_len Q5 (99, 18) from rfl, l5 18 rfl]; exact w18)) (fun H6 q => ?_)
  obtain ⟨u6, r6, P, f, sg⟩ := q
  refine mw_go mu_g34 (k := 2) (f1 := (131, [(3, .inr (.inr (some m))), (2, .inl y), (1, .inl (nI l)), (0, .inr (.inr (some 0)))], [.inr (.inr (mu_r H6 0 11))], H6)) (C := [mu_is H6 (some 0) 0]) rfl (show mu_is H6 (some 0) 0 from u6.1.1.is rfl) ?_
  rw [u6.1.1.r (p := 0) (j := 11) (q := 158) rfl]
  refine mw_cV (fun _ => rfl) (show mu_is H6 (some 158) 8 from u6.1.1.is rfl) (pv_begin (C := C) (d := d + 8) u6 rfl) (fun H7 q => ?_)
  obtain ⟨u7, r7, d7⟩ := q
  have hU0 : uS m' 0 = false := by unfold hmm at hm; rcases hm with ⟨-, z⟩ | ⟨-, z⟩ <;> subst z <;> rfl
  have y7 : mu_r H7 0 4 = some m' := ((r7.1.2.2.1 0 0 rfl hU0).r 4).trans (((r6.1.2.2.1 0 0 rfl hU0).r 4).trans y4)
  refine mw_go mu_g34 (k := 2) (f1 := (138, [(3, .inr (.inr (some m))), (2, .inl y), (1, .inl (nI l)), (0, .inr (.inr (some 0)))], [.inr (.inr (mu_r H7 0 4))], H7)) (C := [mu_is H7 (some 0) 0]) rfl (show mu_is H7 (some 0) 0 from u7.1.1.is rfl) ?_
  rw [y7]
  refine mw_go mu_g34 (k := 1) (f1 := (141, [(3, .inr (.inr (some m))), (2, .inl y), (1, .inl (nI l)), (0, .inr (.inr (some 0)))], [.inr (.inr (mu_r H7 m' 17))], H7)) (C := [mu_is H7 (some m') 6]) rfl (show mu_is H7 (some m') 6 from gi_im u7.1.1 hm2) ?_
  rw [(gi_mr u7.1.1 hm2 (j := 17) (by decide)).trans (congrArg some (show m' + 1 + 2 * 17 = m' + 35 by omega))]
  refine mw_go mu_g34 (k := 1) (f1 := (144, [(3, .inr (.inr (some m))), (2, .inl y), (1, .inl (nI l)), (0, .inr (.inr (some 0)))], [.inl (mu_i H7 (m' + 35) 2)], H7)) (C := [mu_is H7 (some (m' + 35)) 10]) rfl (show mu_is H7 (some (m' + 35)) 10 from (u7.1.1.w (md_w17 hm2)).1) ?_
  exact mw_of (fun _ => mu_ret rfl trivial (Or.inr (Or.inr ⟨H2, H4, H6, H7, hprQ, d4, v4, ⟨W, hFW, hFO, hbz⟩, u6, by rw [hQ5]; exact r6, ⟨P, f, by rw [hQ5]; exact sg⟩, u7, r7, d7, rfl⟩)))
end Read
