/-! The reference: module -/
theorem rp_modR {T : Nat → Int32} {n f ff d dep B q aq m w pp cap : Nat} {nm : List Int32} {sy : List (List Int32)} {F0 Fs : Nat → Prop} {H0 Hs : mu_H} {res : Nat ⊕ (Mdl × List (List Int32) × Tok)} (hff : f + 3 ≤ ff) (hz : mu_z H0 + B + 200 ≤ 1000000) (g200 : 200 < mu_z H0) (hmS : mdo Hs Fs m w pp q) (hwS : stf Hs Fs w nm) (hlS : ∀ j, j < 79 → stf Hs Fs (1000000 + j) (txt j)) (hne : pp ≠ q) : ∀ g A aP cP F H t qs ps, pst T n t dep F H → syr H F cap sy → nun H0 H F ff pp aP cP (1000000 + 62) 62 0 [] qs ps → nun H0 H F ff q aq 2 (1000000 + 67) 67 0 [] [] [] → aP ≠ aq → qfr A F0 F H0 H → ktf Hs Fs H F → A + 20 * qs.length + 2 * sy.length + pot n t ≤ B + cP + cap → mxR T n f dep nm g ps sy t = some res → mu_W (mu_D (d + 6 * (150 - dep) + 16)) mu_m53 (51, [(1, .inr (.inr (some m))), (0, .inr (.inr (some 169)))], [], H) (fun r => (∃ H1, r = (.inr 0, H1) ∧ ∃ e, res = .inl e ∧ qbd T n e (B + 100) H0 H1) ∨ ∃ v H1, r = (.inl v, H1) ∧ ∃ y sy1 t1 F1 A1 cap1, v = some (.inr (.inr (some m))) ∧ res = .inr (y, sy1, t1) ∧ pst T n t1 dep F1 H1 ∧ syr H1 F1 cap1 sy1 ∧ mdf H1 F1 (ff + 1) m y ∧ qfr A1 F0 F1 H0 H1 ∧ A1 + 2 * sy1.length + pot n t1 ≤ B + 2 + cap1)
  | 0, _, _, _, _, _, _, _, _, _, _, _, _, _, _, _, _, hpx => by cases hpx
  | g + 1, A, aP, cP, F, H, t, qs, ps, hs, hy, hP, hQ, hna, hp, hk, hA, hpx => by
    rw [mxR] at hpx
    have hcap := hP.cap
    have hcy := hy.cp
    have hAz := hp.z
    have hd0 := hs.2.2.2.1.2
    have hmd := hk.2.2.1 _ _ _ _ hmS
    refine mw_go mu_g53 (k := 2) (f1 := (54, [(1, .inr (.inr (some m))), (0, .inr (.inr (some 169)))], [.inr (.inr (some 1000014)), .inr (.inr (some 169))], H)) (C := []) rfl trivial ?_
    refine mw_cIe (fun _ => rfl) (show mu_is H (some 169) 1 from hs.is) (rp_isL (j := 14) hs (by decide)) ?_
    refine mw_if (P := (tis T t (txt 14)) = 0) (a := 87) (b := 60) (fun _ => rfl) trivial (fun h1 => ?_) (fun h1 => ?_)
    · -- 87
      have hpx := ite_ye hpx h1
      refine mw_go mu_g53 (k := 2) (f1 := (90, [(1, .inr (.inr (some m))), (0, .inr (.inr (some 169)))], [.inr (.inr (some 1000009)), .inr (.inr (some 169))], H)) (C := []) rfl trivial ?_
      refine mw_cX (as := [.inr (.inr (some (1000000 + 9)))]) (o := some 169) (S1 := []) rfl rfl rfl rfl (Nat.le_of_ble_eq_true rfl) (by decide) hs.is rfl (rp_expect hs (by omega) (j := 9) (by decide)) (fun H11 e => ?_) (fun v H11 e => ?_)
      · obtain ⟨e1, e2⟩ := e
        have hpx := gex_no hpx e1
        exact Or.inl ⟨_, rfl, _, hpx, (hp.bd e2).wk (by omega)⟩
      obtain ⟨rfl, e11, F11, s11, f11⟩ := e
      have hpx := gex_ye hpx e11
      have st11 : pot n (adv T n t) + ((adv T n t).2.2 - t.2.2 + 4) + 15 ≤ pot n t := pot_step (T := T) hs.tkf.2.2 (tis_ne e11)
      have f11 : pfr ((adv T n t).2.2 - t.2.2 + 4) F F11 H H11 := f11
      have y11 := hy.keep hs f11
      have kt11 := hk.tr (ktf.pf hs f11)
      have md11 := (ktf.pf hs f11).2.2.1 _ _ _ _ hmd
      have zm11 := f11.z
      have u11_0 := hP.keep hs g200 f11
      have u11_1 := hQ.keep hs g200 f11
      have p11 := hp.tr f11
      have z11 := p11.z
      have s11 : pst T n (adv T n t) dep F11 H11 := s11
      show mu_W _ mu_m53 (93, [(1, .inr (.inr (some m))), (0, .inr (.inr (some 169)))], [], H11) _
      have ka12 : mu_k H11 aP = 109 := u11_0.1.2.1.1.2.2
      have kq12 : mu_k H11 q = 18 := u11_1.1.1.1.2.2
      have kp12 : mu_k H11 pp = 18 := u11_0.1.1.1.2.2
      have kb12 : mu_k H11 aq = 109 := u11_1.1.2.1.1.2.2
      have cc12 := u11_0.cap
      obtain ⟨s12, n12, p12, y12, kk12⟩ := u11_0.doneQ s11 y11 g200 p11 (Nat.le_refl _)
      have Q12 := u11_1.fzO (q2 := pp) (a2 := aP) ⟨fun e => hne e.symm, fun e => by rw [e, ka12] at kq12; exact absurd kq12 (by decide), fun e => by rw [e, kp12] at kb12; exact absurd kb12 (by decide), fun e => hna e.symm⟩
      have kt12 := kt11.tr kk12
      refine mw_sub (L' := [(1, .inr (.inr (some m))), (0, .inr (.inr (some 169)))]) (by simp) ?_
      refine rp_modP (Hs := H11) (Fs := fz2 F11 pp aP) hff hz g200 (kt12.2.2.1 _ _ _ _ hmS) (kt12.2.1 _ _ hwS) n12 (fun j hj => kt12.2.1 _ _ (hlS j hj)) f _ _ _ [] sy ⟨_, aq, 2, cap, [], s12, y12, Q12, p12, ktf.rf, ?_⟩ hpx
      simp only [List.length_append, List.length_cons, List.length_nil] at cc12 ⊢
      omega
    · -- 60
      have hpx := ite_no hpx h1
      refine mw_go mu_g53 (k := 1) (f1 := (61, [(1, .inr (.inr (some m))), (0, .inr (.inr (some 169)))], [.inr (.inr (some 169))], H)) (C := []) rfl trivial ?_
      have st11 : pot n (adv T n t) + ((adv T n t).2.2 - t.2.2 + 4) + 15 ≤ pot n t := pot_step (T := T) hs.tkf.2.2 (tis_ne h1)
      refine mw_cV (fun _ => rfl) (show mu_is H (some 169) 1 from hs.is) (rp_advance hs (tis_ne h1) (by omega)) (fun H11 q11 => ?_)
      obtain ⟨F11, s11, f11⟩ := q11
      have f11 : pfr ((adv T n t).2.2 - t.2.2 + 4) F F11 H H11 := f11
      have y11 := hy.keep hs f11
      have kt11 := hk.tr (ktf.pf hs f11)
      have md11 := (ktf.pf hs f11).2.2.1 _ _ _ _ hmd
      have zm11 := f11.z
      have u11_0 := hP.keep hs g200 f11
      have u11_1 := hQ.keep hs g200 f11
      have p11 := hp.tr f11
      have z11 := p11.z
      have s11 : pst T n (adv T n t) dep F11 H11 := s11
      show mu_W _ mu_m53 (64, [(1, .inr (.inr (some m))), (0, .inr (.inr (some 169)))], [], H11) _
      refine mw_go mu_g53 (k := 2) (f1 := (68, [(1, .inr (.inr (some m))), (0, .inr (.inr (some 169)))], [.inr (.inr (mu_r H11 m 1))], H11)) (C := [mu_is H11 (some m) 17]) rfl (show mu_is H11 (some m) 17 from md11.2.1.1) ?_
      refine mw_fr (f' := (68, [(1, .inr (.inr (some m))), (0, .inr (.inr (some 169)))], [.inr (.inr (some pp))], H11)) (by first | (rw [md11.2.2.2.1]; done) | (rw [md11.2.2.2.1]; rfl)) ?_
      refine mw_go mu_g53 (k := 3) (f1 := (73, [(1, .inr (.inr (some m))), (0, .inr (.inr (some 169)))], [.inr (.inr (some 169)), .inr (.inr (some 1000068)), .inr (.inr (some 169)), .inr (.inr (some pp))], H11)) (C := []) rfl trivial ?_
      refine mw_cX (as := []) (o := some 169) (S1 := [.inr (.inr (some 1000068)), .inr (.inr (some 169)), .inr (.inr (some pp))]) rfl rfl rfl rfl (Nat.le_of_ble_eq_true rfl) (by decide) s11.is rfl (rp_name s11 (by omega)) (fun H12 e => ?_) (fun v H12 e => ?_)
      · obtain ⟨e1, e2⟩ := e
        have hpx := gpe_eq (ite_ye hpx e1)
        exact Or.inl ⟨_, rfl, _, hpx, (p11.bd e2).wk (by omega)⟩
      obtain ⟨hn12, wx, F12, rfl, ws12, s12, f12⟩ := e
      have hpx := ite_no hpx hn12
      have ht12 : ((adv T n t)).1 ≠ 0 ∧ ((adv T n t)).1 ≠ 1 := by rw [nmz_2 hn12]; decide
      have st12 : pot n (adv T n (adv T n t)) + ((adv T n (adv T n t)).2.2 - (adv T n t).2.2 + 4) + 15 ≤ pot n (adv T n t) := pot_step (T := T) s11.tkf.2.2 ht12
      have f12 : pfr ((adv T n (adv T n t)).2.2 - (adv T n t).2.2 + 4) F11 F12 H11 H12 := f12
      have y12 := y11.keep s11 f12
      have kt12 := kt11.tr (ktf.pf s11 f12)
      have md12 := (ktf.pf s11 f12).2.2.1 _ _ _ _ md11
      have zm12 := f12.z
      have u12_0 := u11_0.keep s11 g200 f12
      have u12_1 := u11_1.keep s11 g200 f12
      have p12 := p11.tr f12
      have z12 := p12.z
      have s12 : pst T n (adv T n (adv T n t)) dep F12 H12 := s12
      show mu_W _ mu_m53 (76, [(1, .inr (.inr (some m))), (0, .inr (.inr (some 169)))], [.inr (.inr (some wx)), .inr (.inr (some 1000068)), .inr (.inr (some 169)), .inr (.inr (some pp))], H12) _
      have l68_12 := kt12.2.1 _ _ (hlS 68 (by decide))
      refine mw_go mu_g53 (k := 1) (f1 := (77, [(1, .inr (.inr (some m))), (0, .inr (.inr (some 169)))], [.inr (.inr none), .inr (.inr (some wx)), .inr (.inr (some 1000068)), .inr (.inr (some 169)), .inr (.inr (some pp))], H12)) (C := []) rfl trivial ?_
      refine mw_cA (fun _ => rfl) (show mu_is H12 (some 169) 1 from s12.is) (rp_named0 (f := 0) s12 l68_12 (by decide) ws12 (by omega)) (fun v H13 q13 => ?_)
      obtain ⟨qz, F13, rfl, s13, n13, f13⟩ := q13
      have y13 := y12.keep s12 f13
      have kt13 := kt12.tr (ktf.pf s12 f13)
      have md13 := (ktf.pf s12 f13).2.2.1 _ _ _ _ md12
      have zm13 := f13.z
      have u13_0 := u12_0.keep s12 g200 f13
      have u13_1 := u12_1.keep s12 g200 f13
      have p13 := p12.tr f13
      have z13 := p13.z
      show mu_W _ mu_m53 (80, [(1, .inr (.inr (some m))), (0, .inr (.inr (some 169)))], [.inr (.inr (some qz)), .inr (.inr (some pp))], H13) _
      have cp14 := u13_0.cap
      have wr14 := u13_0.wr y13 g200
      have aQ14 : aq < mu_z H13 := u13_1.1.2.1.1.2.1
      have ka14 : mu_k H13 aP = 109 := u13_0.1.2.1.1.2.2
      have kq14 : mu_k H13 q = 18 := u13_1.1.1.1.2.2
      have kp14 : mu_k H13 pp = 18 := u13_0.1.1.1.2.2
      have kb14 : mu_k H13 aq = 109 := u13_1.1.2.1.1.2.2
      have ne14 : ¬ (q = pp ∨ q = aP) ∧ ¬ (aq = pp ∨ aq = aP) := ⟨fun z => z.elim (fun e => hne e.symm) (fun e => by rw [e, ka14] at kq14; exact absurd kq14 (by decide)), fun z => z.elim (fun e => by rw [e, kp14] at kb14; exact absurd kb14 (by decide)) (fun e => hna e.symm)⟩
      refine mw_cA (fun _ => rfl) (show mu_is H13 (some pp) 18 from u13_0.is) (nd_addW u13_0 s13 g200 (n13.le (by omega)) (by omega) (by omega)) (fun r H14 q14 => ?_)
      obtain ⟨rfl, kn14, a14, c_14, v14, s14, hc14, k14, kx14, ax14⟩ := q14
      have cq14 := v14.cap
      simp only [List.length_append, List.length_cons, List.length_nil] at cp14 cq14
      have p14 := p13.kp k14 (fun p z => z) (by omega) (by omega)
      have z14 := p14.z
      have y14 := y13.kp kx14 (fun p z => (wr14 p z).1) (fun p z => (wr14 p z).2) (by have := s13.1.1; omega)
      have kk14 := ktf.kp kx14 (fun p z => ⟨(wr14 p z).1.1, (wr14 p z).1.2.2⟩)
      have kt14 := kt13.tr kk14
      have e14 : mu_r H14 169 13 = mu_r H13 169 13 := kx14.r (Or.inl (by have := s13.1.1; omega)) (fun z => absurd (wr14 169 z).1.2.1 (by decide)) 13
      have Q14 := u13_1.kp kx14 (fun p z => ⟨(wr14 p z).1.1, (wr14 p z).1.2.2⟩) ne14.1 ne14.2 e14
      have na14 : a14 ≠ aq := fun e => ax14.elim (fun z => hna (z ▸ e)) (fun z => by omega)
      have md14 := kk14.2.2.1 _ _ _ _ md13
      show mu_W _ mu_m53 (83, [(1, .inr (.inr (some m))), (0, .inr (.inr (some 169)))], [.inr (.inr (some pp))], H14) _
      refine mw_go mu_g53 (k := 2) (f1 := (51, [(2, .inr (.inr (some pp))), (1, .inr (.inr (some m))), (0, .inr (.inr (some 169)))], [], H14)) (C := []) rfl trivial ?_
      refine mw_sub (L' := [(1, .inr (.inr (some m))), (0, .inr (.inr (some 169)))]) (by simp) ?_
      refine rp_modR hff hz g200 hmS hwS hlS hne g _ _ _ _ _ _ _ _ s14 y14 v14 Q14 na14 p14 kt14 ?_ hpx
      simp only [List.length_append, List.length_cons, List.length_nil]
      omega
theorem rp_module {T : Nat → Int32} {n f ff d dep cap : Nat} {t : Tok} {F : Nat → Prop} {H : mu_H} {sy : List (List Int32)} {res : Nat ⊕ (Mdl × List (List Int32) × Tok)} (hff : f + 3 ≤ ff) (hs : pst T n t dep F H) (hy : syr H F cap sy) (hz : mu_z H + pot n t + 2 * sy.length + 300 ≤ 1000000 + cap) (hpx : mxM T n f dep sy t = some res) : mu_TX (mu_D (d + 6 * (150 - dep) + 17)) 53 [.inr (.inr (some 169))] H (fun H1 => ∃ e, res = .inl e ∧ qbd T n e (pot n t + (2 * sy.length + 16 - cap) + 200) H H1) (fun v H1 => ∃ y sy1 t1 F1 m A1 cap1, v = some (.inr (.inr (some m))) ∧ res = .inr (y, sy1, t1) ∧ pst T n t1 dep F1 H1 ∧ syr H1 F1 cap1 sy1 ∧ mdf H1 F1 (ff + 1) m y ∧ qfr A1 F F1 H H1 ∧ A1 + 2 * sy1.length + pot n t1 + cap + 18 ≤ pot n t + 2 * sy.length + cap1) := by
  unfold mxM at hpx
  have g200 := hs.1.1
  have hcy := hy.cp
  have hd0 := hs.2.2.2.1.2
  have p0 : qfr 0 F F H H := qfr.rf
  have z0 := p0.z
  have k0 : ktf H F H F := ktf.rf
  refine mu_MT.ot fun hot => ?_
  have l0 : ∀ j, j < 79 → stf H F (1000000 + j) (txt j) := fun j hj => stf.lit hot hj
  refine mu_meth (M := mu_m53) rfl rfl ?_
  refine mw_ht (mu_fn_of (show [0].Nodup by decide)) ?_
  refine mw_go mu_g53 (k := 2) (f1 := (3, [(0, .inr (.inr (some 169)))], [.inr (.inr (some 1000028)), .inr (.inr (some 169))], H)) (C := []) rfl trivial ?_
  refine mw_cX (as := [.inr (.inr (some (1000000 + 28)))]) (o := some 169) (S1 := []) rfl rfl rfl rfl (Nat.le_of_ble_eq_true rfl) (by decide) hs.is rfl (rp_expect hs (by omega) (j := 28) (by decide)) (fun H11 e => ?_) (fun v H11 e => ?_)
  · obtain ⟨e1, e2⟩ := e
    have hpx := gex_no hpx e1
    exact Or.inl ⟨_, rfl, _, hpx, (p0.bd e2).wk (by omega)⟩
  obtain ⟨rfl, e11, F11, s11, f11⟩ := e
  have hpx := gex_ye hpx e11
  have st11 : pot n (adv T n t) + ((adv T n t).2.2 - t.2.2 + 4) + 15 ≤ pot n t := pot_step (T := T) hs.tkf.2.2 (tis_ne e11)
  have f11 : pfr ((adv T n t).2.2 - t.2.2 + 4) F F11 H H11 := f11
  have y11 := hy.keep hs f11
  have kt11 := k0.tr (ktf.pf hs f11)
  have zm11 := f11.z
  have p11 := p0.tr f11
  have z11 := p11.z
  have s11 : pst T n (adv T n t) dep F11 H11 := s11
  show mu_W _ mu_m53 (6, [(0, .inr (.inr (some 169)))], [], H11) _
  refine mw_newo rfl (by decide) (by omega) ?_
  have kn12 : kep (fun _ => False) (0 + 1) (0 + 3) H11 (mu_nw H11 17 0 3) := kep.rf.nw (by omega)
  have s12 := s11.kp kn12 (fun _ z => z.elim)
  have f12 : pfr (0 + (0 + 1)) F11 F11 H11 (mu_nw H11 17 0 3) := pfr.rf.kp kn12 (fun _ z => z.elim) (by omega) (by omega)
  have mc12 : mce (mu_nw H11 17 0 3) F11 (mu_z H11) := by
    refine ⟨mu_is_new H11 17 0 3, by omega, by omega, fun z => by have := (s11.fz _ z).2.1.1; omega, fun e => ?_⟩
    obtain ⟨r0, r01, ⟨r02, r03⟩, _⟩ := s11.2.2.2.2.2
    rw [show mu_r (mu_nw H11 17 0 3) 169 13 = mu_r H11 169 13 from kn12.r (Or.inl (by omega)) id 13, r01] at e
    have e := Option.some.inj e
    omega
  obtain ⟨H12, eH12⟩ : ∃ K, K = mu_nw H11 17 0 3 := ⟨_, rfl⟩
  obtain ⟨m, em⟩ : ∃ x, x = mu_z H11 := ⟨_, rfl⟩
  have hm0 : mu_z H ≤ m := by omega
  show mu_W _ mu_m53 (9, [(0, .inr (.inr (some 169)))], [.inr (.inr (some (mu_z H11)))], (mu_nw H11 17 0 3)) _
  rw [← eH12, ← em] at mc12
  rw [← eH12] at s12 f12
  rw [← eH12, ← em]
  have y12 := y11.keep s11 f12
  have kt12 := kt11.tr (ktf.pf s11 f12)
  have zm12 := f12.z
  have p12 := p11.tr f12
  have z12 := p12.z
  show mu_W _ mu_m53 (9, [(0, .inr (.inr (some 169)))], [.inr (.inr (some m))], H12) _
  refine mw_go mu_g53 (k := 2) (f1 := (11, [(0, .inr (.inr (some 169)))], [.inr (.inr (some 169)), .inr (.inr (some m)), .inr (.inr (some m))], H12)) (C := []) rfl trivial ?_
  refine mw_cX (as := []) (o := some 169) (S1 := [.inr (.inr (some m)), .inr (.inr (some m))]) rfl rfl rfl rfl (Nat.le_of_ble_eq_true rfl) (by decide) s12.is rfl (rp_name s12 (by omega)) (fun H13 e => ?_) (fun v H13 e => ?_)
  · obtain ⟨e1, e2⟩ := e
    have hpx := gpe_eq (ite_ye hpx e1)
    exact Or.inl ⟨_, rfl, _, hpx, (p12.bd e2).wk (by omega)⟩
  obtain ⟨hn13, wn, F13, rfl, ws13, s13, f13⟩ := e
  have hpx := ite_no hpx hn13
  have ht13 : ((adv T n t)).1 ≠ 0 ∧ ((adv T n t)).1 ≠ 1 := by rw [nmz_2 hn13]; decide
  have st13 : pot n (adv T n (adv T n t)) + ((adv T n (adv T n t)).2.2 - (adv T n t).2.2 + 4) + 15 ≤ pot n (adv T n t) := pot_step (T := T) s12.tkf.2.2 ht13
  have f13 : pfr ((adv T n (adv T n t)).2.2 - (adv T n t).2.2 + 4) F11 F13 H12 H13 := f13
  have mc13 := mc12.keep s12 f13
  have y13 := y12.keep s12 f13
  have kt13 := kt12.tr (ktf.pf s12 f13)
  have zm13 := f13.z
  have p13 := p12.tr f13
  have z13 := p13.z
  have s13 : pst T n (adv T n (adv T n t)) dep F13 H13 := s13
  show mu_W _ mu_m53 (14, [(0, .inr (.inr (some 169)))], [.inr (.inr (some wn)), .inr (.inr (some m)), .inr (.inr (some m))], H13) _
  obtain ⟨B, hB⟩ : ∃ B, B + cap + 20 = pot n t + 2 * sy.length := ⟨pot n t + 2 * sy.length - cap - 20, by omega⟩
  refine mw_cV (fun _ => rfl) ⟨rfl, mc13.1.2.1⟩ (rp_minit (ff := ff) s13 y13 p13 mc13 hm0 g200 (by omega)) (fun H14 q14 => ?_)
  obtain ⟨A1, pp, ap, q, aq, s14, y14, p14, hA1, kk14, md14, hP, hQ, hne, hna⟩ := q14
  have z14 := p14.z
  have kt14 := kt13.tr kk14
  have wS := kk14.2.1 _ _ ws13
  have hlS : ∀ j, j < 79 → stf H14 (fz2 F13 m m) (1000000 + j) (txt j) := fun j hj => kt14.2.1 _ _ (l0 j hj)
  have hmS := md14
  have hwS := wS
  have hz0 : mu_z H + B + 200 ≤ 1000000 := by omega
  have kt0 : ktf H14 (fz2 F13 m m) H14 (fz2 F13 m m) := ktf.rf
  show mu_W _ mu_m53 (17, [(0, .inr (.inr (some 169)))], [.inr (.inr (some m))], H14) _
  refine mw_imp (fun r hr => ?_) (?_ : mu_W _ _ _ (fun r => (∃ H1, r = (.inr 0, H1) ∧ ∃ e, res = .inl e ∧ qbd T n e (B + 100) H H1) ∨ ∃ v H1, r = (.inl v, H1) ∧ ∃ y sy1 t1 F1 A1 cap1, v = some (.inr (.inr (some m))) ∧ res = .inr (y, sy1, t1) ∧ pst T n t1 dep F1 H1 ∧ syr H1 F1 cap1 sy1 ∧ mdf H1 F1 (ff + 1) m y ∧ qfr A1 F F1 H H1 ∧ A1 + 2 * sy1.length + pot n t1 ≤ B + 2 + cap1))
  · rcases hr with ⟨H1, e1, e, e2, e3⟩ | ⟨v, H1, e1, y, sy1, t1, F1, A9, cap1, e2, e3, e4, e5, e6, e7, e8⟩
    · exact Or.inl ⟨H1, e1, e, e2, e3.wk (by omega)⟩
    · exact Or.inr ⟨v, H1, e1, y, sy1, t1, F1, m, A9, cap1, e2, e3, e4, e5, e6, e7, by omega⟩
  have hz := hz0
  refine mw_go mu_g53 (k := 1) (f1 := (18, [(1, .inr (.inr (some m))), (0, .inr (.inr (some 169)))], [], H14)) (C := []) rfl trivial ?_
  refine mw_go mu_g53 (k := 2) (f1 := (21, [(1, .inr (.inr (some m))), (0, .inr (.inr (some 169)))], [.inr (.inr (some 1000008)), .inr (.inr (some 169))], H14)) (C := []) rfl trivial ?_
  refine mw_cIe (fun _ => rfl) (show mu_is H14 (some 169) 1 from s14.is) (rp_isL (j := 8) s14 (by decide)) ?_
  refine mw_if (P := (tis T (adv T n (adv T n t)) (txt 8)) = 0) (a := 93) (b := 27) (fun _ => rfl) trivial (fun h8 => ?_) (fun h8 => ?_)
  · -- 93
    have hpx := ite_ye hpx h8
    have ka15 : mu_k H14 ap = 109 := hP.1.2.1.1.2.2
    have kq15 : mu_k H14 q = 18 := hQ.1.1.1.2.2
    have kp15 : mu_k H14 pp = 18 := hP.1.1.1.2.2
    have kb15 : mu_k H14 aq = 109 := hQ.1.2.1.1.2.2
    have cc15 := hP.cap
    obtain ⟨s15, n15, p15, y15, kk15⟩ := hP.doneQ s14 y14 g200 p14 (Nat.le_refl _)
    have Q15 := hQ.fzO (q2 := pp) (a2 := ap) ⟨fun e => hne e.symm, fun e => by rw [e, ka15] at kq15; exact absurd kq15 (by decide), fun e => by rw [e, kp15] at kb15; exact absurd kb15 (by decide), fun e => hna e.symm⟩
    have kt15 := kt0.tr kk15
    refine mw_sub (L' := [(1, .inr (.inr (some m))), (0, .inr (.inr (some 169)))]) (by simp) ?_
    refine rp_modP (Hs := H14) (Fs := fz2 (fz2 F13 m m) pp ap) hff hz g200 (kt15.2.2.1 _ _ _ _ hmS) (kt15.2.1 _ _ hwS) n15 (fun j hj => kt15.2.1 _ _ (hlS j hj)) f _ _ _ [] sy ⟨_, aq, 2, cap, [], s15, y15, Q15, p15, ktf.rf, ?_⟩ hpx
    simp only [List.length_append, List.length_cons, List.length_nil] at cc15 ⊢
    omega
  · -- 27
    have hpx := ite_no hpx h8
    refine mw_go mu_g53 (k := 1) (f1 := (28, [(1, .inr (.inr (some m))), (0, .inr (.inr (some 169)))], [.inr (.inr (some 169))], H14)) (C := []) rfl trivial ?_
    have st15 : pot n (adv T n (adv T n (adv T n t))) + ((adv T n (adv T n (adv T n t))).2.2 - (adv T n (adv T n t)).2.2 + 4) + 15 ≤ pot n (adv T n (adv T n t)) := pot_step (T := T) s14.tkf.2.2 (tis_ne h8)
    refine mw_cV (fun _ => rfl) (show mu_is H14 (some 169) 1 from s14.is) (rp_advance s14 (tis_ne h8) (by omega)) (fun H15 q15 => ?_)
    obtain ⟨F15, s15, f15⟩ := q15
    have f15 : pfr ((adv T n (adv T n (adv T n t))).2.2 - (adv T n (adv T n t)).2.2 + 4) (fz2 F13 m m) F15 H14 H15 := f15
    have y15 := y14.keep s14 f15
    have kt15 := kt0.tr (ktf.pf s14 f15)
    have md15 := (ktf.pf s14 f15).2.2.1 _ _ _ _ md14
    have zm15 := f15.z
    have u15_0 := hP.keep s14 g200 f15
    have u15_1 := hQ.keep s14 g200 f15
    have p15 := p14.tr f15
    have z15 := p15.z
    have s15 : pst T n (adv T n (adv T n (adv T n t))) dep F15 H15 := s15
    show mu_W _ mu_m53 (31, [(1, .inr (.inr (some m))), (0, .inr (.inr (some 169)))], [], H15) _
    refine mw_go mu_g53 (k := 2) (f1 := (35, [(1, .inr (.inr (some m))), (0, .inr (.inr (some 169)))], [.inr (.inr (mu_r H15 m 1))], H15)) (C := [mu_is H15 (some m) 17]) rfl (show mu_is H15 (some m) 17 from md15.2.1.1) ?_
    refine mw_fr (f' := (35, [(1, .inr (.inr (some m))), (0, .inr (.inr (some 169)))], [.inr (.inr (some pp))], H15)) (by first | (rw [md15.2.2.2.1]; done) | (rw [md15.2.2.2.1]; rfl)) ?_
    refine mw_go mu_g53 (k := 3) (f1 := (40, [(1, .inr (.inr (some m))), (0, .inr (.inr (some 169)))], [.inr (.inr (some 169)), .inr (.inr (some 1000068)), .inr (.inr (some 169)), .inr (.inr (some pp))], H15)) (C := []) rfl trivial ?_
    refine mw_cX (as := []) (o := some 169) (S1 := [.inr (.inr (some 1000068)), .inr (.inr (some 169)), .inr (.inr (some pp))]) rfl rfl rfl rfl (Nat.le_of_ble_eq_true rfl) (by decide) s15.is rfl (rp_name s15 (by omega)) (fun H16 e => ?_) (fun v H16 e => ?_)
    · obtain ⟨e1, e2⟩ := e
      have hpx := gpe_eq (ite_ye hpx e1)
      exact Or.inl ⟨_, rfl, _, hpx, (p15.bd e2).wk (by omega)⟩
    obtain ⟨hn16, wx, F16, rfl, ws16, s16, f16⟩ := e
    have hpx := ite_no hpx hn16
    have ht16 : ((adv T n (adv T n (adv T n t)))).1 ≠ 0 ∧ ((adv T n (adv T n (adv T n t)))).1 ≠ 1 := by rw [nmz_2 hn16]; decide
    have st16 : pot n (adv T n (adv T n (adv T n (adv T n t)))) + ((adv T n (adv T n (adv T n (adv T n t)))).2.2 - (adv T n (adv T n (adv T n t))).2.2 + 4) + 15 ≤ pot n (adv T n (adv T n (adv T n t))) := pot_step (T := T) s15.tkf.2.2 ht16
    have f16 : pfr ((adv T n (adv T n (adv T n (adv T n t)))).2.2 - (adv T n (adv T n (adv T n t))).2.2 + 4) F15 F16 H15 H16 := f16
    have y16 := y15.keep s15 f16
    have kt16 := kt15.tr (ktf.pf s15 f16)
    have md16 := (ktf.pf s15 f16).2.2.1 _ _ _ _ md15
    have zm16 := f16.z
    have u16_0 := u15_0.keep s15 g200 f16
    have u16_1 := u15_1.keep s15 g200 f16
    have p16 := p15.tr f16
    have z16 := p16.z
    have s16 : pst T n (adv T n (adv T n (adv T n (adv T n t)))) dep F16 H16 := s16
    show mu_W _ mu_m53 (43, [(1, .inr (.inr (some m))), (0, .inr (.inr (some 169)))], [.inr (.inr (some wx)), .inr (.inr (some 1000068)), .inr (.inr (some 169)), .inr (.inr (some pp))], H16) _
    have l68_16 := kt16.2.1 _ _ (hlS 68 (by decide))
    refine mw_go mu_g53 (k := 1) (f1 := (44, [(1, .inr (.inr (some m))), (0, .inr (.inr (some 169)))], [.inr (.inr none), .inr (.inr (some wx)), .inr (.inr (some 1000068)), .inr (.inr (some 169)), .inr (.inr (some pp))], H16)) (C := []) rfl trivial ?_
    refine mw_cA (fun _ => rfl) (show mu_is H16 (some 169) 1 from s16.is) (rp_named0 (f := 0) s16 l68_16 (by decide) ws16 (by omega)) (fun v H17 q17 => ?_)
    obtain ⟨qz, F17, rfl, s17, n17, f17⟩ := q17
    have y17 := y16.keep s16 f17
    have kt17 := kt16.tr (ktf.pf s16 f17)
    have md17 := (ktf.pf s16 f17).2.2.1 _ _ _ _ md16
    have zm17 := f17.z
    have u17_0 := u16_0.keep s16 g200 f17
    have u17_1 := u16_1.keep s16 g200 f17
    have p17 := p16.tr f17
    have z17 := p17.z
    show mu_W _ mu_m53 (47, [(1, .inr (.inr (some m))), (0, .inr (.inr (some 169)))], [.inr (.inr (some qz)), .inr (.inr (some pp))], H17) _
    have cp18 := u17_0.cap
    have wr18 := u17_0.wr y17 g200
    have aQ18 : aq < mu_z H17 := u17_1.1.2.1.1.2.1
    have ka18 : mu_k H17 ap = 109 := u17_0.1.2.1.1.2.2
    have kq18 : mu_k H17 q = 18 := u17_1.1.1.1.2.2
    have kp18 : mu_k H17 pp = 18 := u17_0.1.1.1.2.2
    have kb18 : mu_k H17 aq = 109 := u17_1.1.2.1.1.2.2
    have ne18 : ¬ (q = pp ∨ q = ap) ∧ ¬ (aq = pp ∨ aq = ap) := ⟨fun z => z.elim (fun e => hne e.symm) (fun e => by rw [e, ka18] at kq18; exact absurd kq18 (by decide)), fun z => z.elim (fun e => by rw [e, kp18] at kb18; exact absurd kb18 (by decide)) (fun e => hna e.symm)⟩
    refine mw_cA (fun _ => rfl) (show mu_is H17 (some pp) 18 from u17_0.is) (nd_addW u17_0 s17 g200 (n17.le (by omega)) (by omega) (by omega)) (fun r H18 q18 => ?_)
    obtain ⟨rfl, kn18, a18, c_18, v18, s18, hc18, k18, kx18, ax18⟩ := q18
    have cq18 := v18.cap
    simp only [List.length_append, List.length_cons, List.length_nil] at cp18 cq18
    have p18 := p17.kp k18 (fun p z => z) (by omega) (by omega)
    have z18 := p18.z
    have y18 := y17.kp kx18 (fun p z => (wr18 p z).1) (fun p z => (wr18 p z).2) (by have := s17.1.1; omega)
    have kk18 := ktf.kp kx18 (fun p z => ⟨(wr18 p z).1.1, (wr18 p z).1.2.2⟩)
    have kt18 := kt17.tr kk18
    have e18 : mu_r H18 169 13 = mu_r H17 169 13 := kx18.r (Or.inl (by have := s17.1.1; omega)) (fun z => absurd (wr18 169 z).1.2.1 (by decide)) 13
    have Q18 := u17_1.kp kx18 (fun p z => ⟨(wr18 p z).1.1, (wr18 p z).1.2.2⟩) ne18.1 ne18.2 e18
    have na18 : a18 ≠ aq := fun e => ax18.elim (fun z => hna (z ▸ e)) (fun z => by omega)
    have md18 := kk18.2.2.1 _ _ _ _ md17
    show mu_W _ mu_m53 (50, [(1, .inr (.inr (some m))), (0, .inr (.inr (some 169)))], [.inr (.inr (some pp))], H18) _
    refine mw_go mu_g53 (k := 1) (f1 := (51, [(2, .inr (.inr (some pp))), (1, .inr (.inr (some m))), (0, .inr (.inr (some 169)))], [], H18)) (C := []) rfl trivial ?_
    refine mw_sub (L' := [(1, .inr (.inr (some m))), (0, .inr (.inr (some 169)))]) (by simp) ?_
    refine rp_modR hff hz g200 hmS hwS hlS hne f _ _ _ _ _ _ [qz] _ s18 y18 v18 Q18 na18 p18 kt18 ?_ hpx
    simp only [List.length_cons, List.length_nil]
    omega
