/-! The reference: variables, definitions -/
/-- PathProverModel.variables(LPathProverModel$Module;)V -/
abbrev mu_m488 : ev_M := (5, none, [], ev_b488)
theorem mu_g488 : mu_good mu_m488 := mu_goodk ev_k488
/-- PathProverModel.definitions(LPathProverModel$Module;)V -/
abbrev mu_m489 : ev_M := (4, none, [], ev_b489)
theorem mu_g489 : mu_good mu_m489 := mu_goodk ev_k489
theorem rp_varsL {T : Nat → Int32} {n f ff d dep B q s m w pp : Nat} {F0 Fs : Nat → Prop} {H0 Hs : mu_H} {res : Nat ⊕ (List Tre × List (List Int32) × Tok)} (hff : f + 3 ≤ ff) (hz : mu_z H0 + B + 200 ≤ 1000000) (g200 : 200 < mu_z H0) : ∀ g F H t cs sy, mmk T n dep ff H0 F0 Hs Fs B q s t F H cs sy → mdo H F m w pp q → stf H F (1000000 + 73) (txt 73) → mxV T n f dep g cs sy t = some res → mu_W (mu_D (d + 6 * (150 - dep) + 12)) mu_m488 (0, [(1, .inr (.inr (some m))), (0, .inr (.inr (some 169)))], [], H) (fun r => (∃ H1, r = (.inr 0, H1) ∧ ∃ e, res = .inl e ∧ qbd T n e (B + 100) H0 H1) ∨ ∃ v H1, r = (.inl v, H1) ∧ ∃ cs1 sy1 t1 F1, v = none ∧ res = .inr (cs1, sy1, t1) ∧ mmk T n dep ff H0 F0 Hs Fs B q s t1 F1 H1 cs1 sy1)
  | 0, _, _, _, _, _, _, _, _, hpx => by cases hpx
  | g + 1, F, H, t, cs, sy, hm, hmd, hl73, hpx => by
    rw [mxV] at hpx
    obtain ⟨A, a, c, cap, qs, hs, hy, hu, hp, hk, hA⟩ := hm
    have hcap := hu.cap
    have hcy := hy.cp
    have hAz := hp.z
    have hd0 := hs.2.2.2.1.2
    refine mw_go mu_g488 (k := 1) (f1 := (1, [(1, .inr (.inr (some m))), (0, .inr (.inr (some 169)))], [.inr (.inr (some 169))], H)) (C := []) rfl trivial ?_
    refine mw_cIe (fun _ => rfl) (show mu_is H (some 169) 1 from hs.is) (rp_atName hs) ?_
    refine mw_if (P := (nmz T t) = 0) (a := 55) (b := 7) (fun _ => rfl) trivial (fun h1 => ?_) (fun h1 => ?_)
    · -- 55
      have hpx := ite_ye hpx h1
      exact mw_of (fun _ => mu_ret rfl trivial (Or.inr ⟨_, _, rfl, _, _, _, F, rfl, gok_eq hpx, _, _, _, _, _, hs, hy, hu, hp, hk, hA⟩))
    · -- 7
      have hpx := ite_no hpx h1
      refine mw_go mu_g488 (k := 1) (f1 := (8, [(1, .inr (.inr (some m))), (0, .inr (.inr (some 169)))], [.inr (.inr (some 169))], H)) (C := []) rfl trivial ?_
      have ht11 : (t).1 ≠ 0 ∧ (t).1 ≠ 1 := by rw [nmz_2 h1]; decide
      have st11 : pot n (adv T n t) + ((adv T n t).2.2 - t.2.2 + 4) + 15 ≤ pot n t := pot_step (T := T) hs.tkf.2.2 ht11
      refine mw_cX (as := []) (o := some 169) (S1 := []) rfl rfl rfl rfl (Nat.le_of_ble_eq_true rfl) (by decide) hs.is rfl (rp_name hs (by omega)) (fun H11 e => absurd e.1 h1) (fun v H11 e => ?_)
      obtain ⟨_, wx, F11, rfl, ws11, s11, f11⟩ := e
      have f11 : pfr ((adv T n t).2.2 - t.2.2 + 4) F F11 H H11 := f11
      have y11 := hy.keep hs f11
      have kt11 := hk.tr (ktf.pf hs f11)
      have md11 := (ktf.pf hs f11).2.2.1 _ _ _ _ hmd
      have ws11_0 := hl73.keep hs f11
      have zm11 := f11.z
      have u11_0 := hu.keep hs g200 f11
      have p11 := hp.tr f11
      have z11 := p11.z
      have s11 : pst T n (adv T n t) dep F11 H11 := s11
      show mu_W _ mu_m488 (11, [(1, .inr (.inr (some m))), (0, .inr (.inr (some 169)))], [.inr (.inr (some wx))], H11) _
      refine mw_go mu_g488 (k := 1) (f1 := (12, [(2, .inr (.inr (some wx))), (1, .inr (.inr (some m))), (0, .inr (.inr (some 169)))], [], H11)) (C := []) rfl trivial ?_
      refine mw_go mu_g488 (k := 2) (f1 := (15, [(2, .inr (.inr (some wx))), (1, .inr (.inr (some m))), (0, .inr (.inr (some 169)))], [.inr (.inr (some 1000016)), .inr (.inr (some 169))], H11)) (C := []) rfl trivial ?_
      refine mw_cX (as := [.inr (.inr (some (1000000 + 16)))]) (o := some 169) (S1 := []) rfl rfl rfl rfl (Nat.le_of_ble_eq_true rfl) (by decide) s11.is rfl (rp_expect s11 (by omega) (j := 16) (by decide)) (fun H12 e => ?_) (fun v H12 e => ?_)
      · obtain ⟨e1, e2⟩ := e
        have hpx := gex_no hpx e1
        exact Or.inl ⟨_, rfl, _, hpx, (p11.bd e2).wk (by omega)⟩
      obtain ⟨rfl, e12, F12, s12, f12⟩ := e
      have hpx := gex_ye hpx e12
      have st12 : pot n (adv T n (adv T n t)) + ((adv T n (adv T n t)).2.2 - (adv T n t).2.2 + 4) + 15 ≤ pot n (adv T n t) := pot_step (T := T) s11.tkf.2.2 (tis_ne e12)
      have f12 : pfr ((adv T n (adv T n t)).2.2 - (adv T n t).2.2 + 4) F11 F12 H11 H12 := f12
      have y12 := y11.keep s11 f12
      have kt12 := kt11.tr (ktf.pf s11 f12)
      have md12 := (ktf.pf s11 f12).2.2.1 _ _ _ _ md11
      have ws12_0 := ws11_0.keep s11 f12
      have ws12_1 := ws11.keep s11 f12
      have zm12 := f12.z
      have u12_0 := u11_0.keep s11 g200 f12
      have p12 := p11.tr f12
      have z12 := p12.z
      have s12 : pst T n (adv T n (adv T n t)) dep F12 H12 := s12
      show mu_W _ mu_m488 (18, [(2, .inr (.inr (some wx))), (1, .inr (.inr (some m))), (0, .inr (.inr (some 169)))], [], H12) _
      refine mw_go mu_g488 (k := 1) (f1 := (19, [(2, .inr (.inr (some wx))), (1, .inr (.inr (some m))), (0, .inr (.inr (some 169)))], [.inr (.inr (some 169))], H12)) (C := []) rfl trivial ?_
      obtain ⟨r13, hr13⟩ := gbi_some hpx
      refine mw_cX (as := []) (o := some 169) (S1 := []) rfl rfl rfl rfl (Nat.le_of_ble_eq_true rfl) (by decide) s12.is rfl (rp_type s12 (by omega) hr13) (fun H13 e => ?_) (fun v H13 e => ?_)
      · obtain ⟨e', e1, e2⟩ := e
        rw [hr13, e1] at hpx
        have hpx := gbi_inl hpx
        exact Or.inl ⟨_, rfl, _, hpx, (p12.bd e2).wk (by omega)⟩
      obtain ⟨cy, ty, qy, F13, rfl, e1, s13, n13, w13, f13⟩ := e
      rw [hr13, e1] at hpx
      have hpx := gbi_inr hpx
      have y13 := y12.keep s12 f13
      have kt13 := kt12.tr (ktf.pf s12 f13)
      have md13 := (ktf.pf s12 f13).2.2.1 _ _ _ _ md12
      have ws13_0 := ws12_0.keep s12 f13
      have ws13_1 := ws12_1.keep s12 f13
      have zm13 := f13.z
      have u13_0 := u12_0.keep s12 g200 f13
      have p13 := p12.tr f13
      have z13 := p13.z
      show mu_W _ mu_m488 (22, [(2, .inr (.inr (some wx))), (1, .inr (.inr (some m))), (0, .inr (.inr (some 169)))], [.inr (.inr (some qy))], H13) _
      have tv := pxT_vnk (hr13.trans (congrArg some e1))
      refine mw_go mu_g488 (k := 1) (f1 := (23, [(3, .inr (.inr (some qy))), (2, .inr (.inr (some wx))), (1, .inr (.inr (some m))), (0, .inr (.inr (some 169)))], [], H13)) (C := []) rfl trivial ?_
      refine mw_go mu_g488 (k := 2) (f1 := (25, [(3, .inr (.inr (some qy))), (2, .inr (.inr (some wx))), (1, .inr (.inr (some m))), (0, .inr (.inr (some 169)))], [.inr (.inr (some qy)), .inr (.inr (some 169))], H13)) (C := []) rfl trivial ?_
      have cy14 := y13.cp
      have nl14 := nsy_len (c := cy) (sy := sy)
      refine mw_cV (fun _ => rfl) (show mu_is H13 (some 169) 1 from s13.is) (rp_noteSymbols s13 y13 n13 tv (by omega)) (fun H14 q14 => ?_)
      obtain ⟨cap14, y14, cl14, f14⟩ := q14
      have cz14 := y14.cp
      have s14 := s13.sfr y13 f14
      have kk14 := ktf.sf s13 y13 f14
      have kt14 := kt13.tr kk14
      have p14 := p13.trq f14.qf
      have z14 := p14.z
      have u14 := u13_0.sfr s13 y13 g200 f14
      have m14_0 := kk14.1 _ _ _ n13
      have ws14_0 := kk14.2.1 _ _ ws13_0
      have ws14_1 := kk14.2.1 _ _ ws13_1
      have md14 := kk14.2.2.1 _ _ _ _ md13
      show mu_W _ mu_m488 (28, [(3, .inr (.inr (some qy))), (2, .inr (.inr (some wx))), (1, .inr (.inr (some m))), (0, .inr (.inr (some 169)))], [], H14) _
      refine mw_go mu_g488 (k := 2) (f1 := (31, [(3, .inr (.inr (some qy))), (2, .inr (.inr (some wx))), (1, .inr (.inr (some m))), (0, .inr (.inr (some 169)))], [.inr (.inr (some 1000015)), .inr (.inr (some 169))], H14)) (C := []) rfl trivial ?_
      refine mw_cX (as := [.inr (.inr (some (1000000 + 15)))]) (o := some 169) (S1 := []) rfl rfl rfl rfl (Nat.le_of_ble_eq_true rfl) (by decide) s14.is rfl (rp_expect s14 (by omega) (j := 15) (by decide)) (fun H15 e => ?_) (fun v H15 e => ?_)
      · obtain ⟨e1, e2⟩ := e
        have hpx := gex_no hpx e1
        exact Or.inl ⟨_, rfl, _, hpx, (p14.bd e2).wk (by omega)⟩
      obtain ⟨rfl, e15, F15, s15, f15⟩ := e
      have hpx := gex_ye hpx e15
      have st15 : pot n (adv T n ty) + ((adv T n ty).2.2 - ty.2.2 + 4) + 15 ≤ pot n ty := pot_step (T := T) s14.tkf.2.2 (tis_ne e15)
      have f15 : pfr ((adv T n ty).2.2 - ty.2.2 + 4) F13 F15 H14 H15 := f15
      have y15 := y14.keep s14 f15
      have kt15 := kt14.tr (ktf.pf s14 f15)
      have md15 := (ktf.pf s14 f15).2.2.1 _ _ _ _ md14
      have ws15_0 := ws14_0.keep s14 f15
      have ws15_1 := ws14_1.keep s14 f15
      have zm15 := f15.z
      have u15_0 := u14.keep s14 g200 f15
      have n15_1 := m14_0.keep s14 f15
      have p15 := p14.tr f15
      have z15 := p15.z
      have s15 : pst T n (adv T n ty) dep F15 H15 := s15
      show mu_W _ mu_m488 (34, [(3, .inr (.inr (some qy))), (2, .inr (.inr (some wx))), (1, .inr (.inr (some m))), (0, .inr (.inr (some 169)))], [], H15) _
      refine mw_go mu_g488 (k := 2) (f1 := (38, [(3, .inr (.inr (some qy))), (2, .inr (.inr (some wx))), (1, .inr (.inr (some m))), (0, .inr (.inr (some 169)))], [.inr (.inr (mu_r H15 m 2))], H15)) (C := [mu_is H15 (some m) 17]) rfl (show mu_is H15 (some m) 17 from md15.2.1.1) ?_
      refine mw_fr (f' := (38, [(3, .inr (.inr (some qy))), (2, .inr (.inr (some wx))), (1, .inr (.inr (some m))), (0, .inr (.inr (some 169)))], [.inr (.inr (some q))], H15)) (by first | (rw [md15.2.2.2.2]; done) | (rw [md15.2.2.2.2]; rfl)) ?_
      refine mw_go mu_g488 (k := 4) (f1 := (44, [(3, .inr (.inr (some qy))), (2, .inr (.inr (some wx))), (1, .inr (.inr (some m))), (0, .inr (.inr (some 169)))], [.inr (.inr (some qy)), .inr (.inr (some wx)), .inr (.inr (some 1000073)), .inr (.inr (some 169)), .inr (.inr (some q))], H15)) (C := []) rfl trivial ?_
      refine mw_cA (fun _ => rfl) (show mu_is H15 (some 169) 1 from s15.is) (rp_named1 (f := f + 2) s15 ws15_0 (by decide) ws15_1 (by omega) (n15_1.le (by omega))) (fun v H16 q16 => ?_)
      obtain ⟨qz, F16, rfl, s16, n16, f16⟩ := q16
      have y16 := y15.keep s15 f16
      have kt16 := kt15.tr (ktf.pf s15 f16)
      have md16 := (ktf.pf s15 f16).2.2.1 _ _ _ _ md15
      have ws16_0 := ws15_0.keep s15 f16
      have zm16 := f16.z
      have u16_0 := u15_0.keep s15 g200 f16
      have p16 := p15.tr f16
      have z16 := p16.z
      show mu_W _ mu_m488 (47, [(3, .inr (.inr (some qy))), (2, .inr (.inr (some wx))), (1, .inr (.inr (some m))), (0, .inr (.inr (some 169)))], [.inr (.inr (some qz)), .inr (.inr (some q))], H16) _
      have cp17 := u16_0.cap
      have wr17 := u16_0.wr y16 g200
      refine mw_cA (fun _ => rfl) (show mu_is H16 (some q) 18 from u16_0.is) (nd_addW u16_0 s16 g200 (n16.le (by omega)) (by omega) (by omega)) (fun r H17 q17 => ?_)
      obtain ⟨rfl, kn17, a17, c_17, v17, s17, hc17, k17, kx17, ax17⟩ := q17
      have cq17 := v17.cap
      simp only [List.length_append, List.length_cons, List.length_nil] at cp17 cq17
      have p17 := p16.kp k17 (fun p z => z) (by omega) (by omega)
      have z17 := p17.z
      have y17 := y16.kp kx17 (fun p z => (wr17 p z).1) (fun p z => (wr17 p z).2) (by have := s16.1.1; omega)
      have kk17 := ktf.kp kx17 (fun p z => ⟨(wr17 p z).1.1, (wr17 p z).1.2.2⟩)
      have kt17 := kt16.tr kk17
      have ws17_0 := kk17.2.1 _ _ ws16_0
      have md17 := kk17.2.2.1 _ _ _ _ md16
      show mu_W _ mu_m488 (50, [(3, .inr (.inr (some qy))), (2, .inr (.inr (some wx))), (1, .inr (.inr (some m))), (0, .inr (.inr (some 169)))], [.inr (.inr (some q))], H17) _
      refine mw_go mu_g488 (k := 2) (f1 := (0, [(4, .inr (.inr (some q))), (3, .inr (.inr (some qy))), (2, .inr (.inr (some wx))), (1, .inr (.inr (some m))), (0, .inr (.inr (some 169)))], [], H17)) (C := []) rfl trivial ?_
      refine mw_sub (L' := [(1, .inr (.inr (some m))), (0, .inr (.inr (some 169)))]) (by simp) ?_
      refine rp_varsL hff hz g200 g _ _ _ _ _ ⟨_, _, _, _, _, s17, y17, v17, p17, kt17, ?_⟩ md17 ws17_0 hpx
      simp only [List.length_append, List.length_cons, List.length_nil]
      omega
theorem rp_vars {T : Nat → Int32} {n f ff d dep B q s m w pp : Nat} {F0 Fs : Nat → Prop} {H0 Hs : mu_H} {res : Nat ⊕ (List Tre × List (List Int32) × Tok)} (hff : f + 3 ≤ ff) (hz : mu_z H0 + B + 200 ≤ 1000000) (g200 : 200 < mu_z H0) {g : Nat} {F : Nat → Prop} {H : mu_H} {t : Tok} {cs : List Tre} {sy : List (List Int32)} (hm : mmk T n dep ff H0 F0 Hs Fs B q s t F H cs sy) (hmd : mdo H F m w pp q) (hpx : mxV T n f dep g cs sy t = some res) : mu_TX (mu_D (d + 6 * (150 - dep) + 13)) 488 [.inr (.inr (some 169)), .inr (.inr (some m))] H (fun H1 => ∃ e, res = .inl e ∧ qbd T n e (B + 100) H0 H1) (fun v H1 => ∃ cs1 sy1 t1 F1, v = none ∧ res = .inr (cs1, sy1, t1) ∧ mmk T n dep ff H0 F0 Hs Fs B q s t1 F1 H1 cs1 sy1) := by
  refine mu_MT.ot fun hot => ?_
  refine mu_meth (M := mu_m488) rfl rfl ?_
  refine mw_ht (mu_fn_of (show [0, 1].Nodup by decide)) ?_
  show mu_W _ mu_m488 (0, [(0, .inr (.inr (some 169))), (1, .inr (.inr (some m)))], [], H) _
  refine mw_sub (L' := [(1, .inr (.inr (some m))), (0, .inr (.inr (some 169)))]) (by simp) ?_
  exact rp_varsL hff hz g200 g _ _ _ _ _ hm hmd (stf.lit hot (by decide)) hpx
theorem rp_defsL {T : Nat → Int32} {n f ff d dep B q s m w pp : Nat} {F0 Fs : Nat → Prop} {H0 Hs : mu_H} {res : Nat ⊕ (List Tre × List (List Int32) × Tok)} (hff : f + 3 ≤ ff) (hz : mu_z H0 + B + 200 ≤ 1000000) (g200 : 200 < mu_z H0) (hP0 : ∀ g, g ≤ f → pct T n g 0 491 14) : ∀ g F H t cs sy, mmk T n dep ff H0 F0 Hs Fs B q s t F H cs sy → mdo H F m w pp q → stf H F (1000000 + 74) (txt 74) → mxD T n f dep g cs sy t = some res → mu_W (mu_D (d + 6 * (150 - dep) + 14)) mu_m489 (0, [(1, .inr (.inr (some m))), (0, .inr (.inr (some 169)))], [], H) (fun r => (∃ H1, r = (.inr 0, H1) ∧ ∃ e, res = .inl e ∧ qbd T n e (B + 100) H0 H1) ∨ ∃ v H1, r = (.inl v, H1) ∧ ∃ cs1 sy1 t1 F1, v = none ∧ res = .inr (cs1, sy1, t1) ∧ mmk T n dep ff H0 F0 Hs Fs B q s t1 F1 H1 cs1 sy1)
  | 0, _, _, _, _, _, _, _, _, hpx => by cases hpx
  | g + 1, F, H, t, cs, sy, hm, hmd, hl74, hpx => by
    rw [mxD] at hpx
    obtain ⟨A, a, c, cap, qs, hs, hy, hu, hp, hk, hA⟩ := hm
    have hcap := hu.cap
    have hcy := hy.cp
    have hAz := hp.z
    have hd0 := hs.2.2.2.1.2
    refine mw_go mu_g489 (k := 1) (f1 := (1, [(1, .inr (.inr (some m))), (0, .inr (.inr (some 169)))], [.inr (.inr (some 169))], H)) (C := []) rfl trivial ?_
    refine mw_cIe (fun _ => rfl) (show mu_is H (some 169) 1 from hs.is) (rp_atName hs) ?_
    refine mw_if (P := (nmz T t) = 0) (a := 47) (b := 7) (fun _ => rfl) trivial (fun h1 => ?_) (fun h1 => ?_)
    · -- 47
      have hpx := ite_ye hpx h1
      exact mw_of (fun _ => mu_ret rfl trivial (Or.inr ⟨_, _, rfl, _, _, _, F, rfl, gok_eq hpx, _, _, _, _, _, hs, hy, hu, hp, hk, hA⟩))
    · -- 7
      have hpx := ite_no hpx h1
      refine mw_go mu_g489 (k := 1) (f1 := (8, [(1, .inr (.inr (some m))), (0, .inr (.inr (some 169)))], [.inr (.inr (some 169))], H)) (C := []) rfl trivial ?_
      have ht11 : (t).1 ≠ 0 ∧ (t).1 ≠ 1 := by rw [nmz_2 h1]; decide
      have st11 : pot n (adv T n t) + ((adv T n t).2.2 - t.2.2 + 4) + 15 ≤ pot n t := pot_step (T := T) hs.tkf.2.2 ht11
      refine mw_cX (as := []) (o := some 169) (S1 := []) rfl rfl rfl rfl (Nat.le_of_ble_eq_true rfl) (by decide) hs.is rfl (rp_name hs (by omega)) (fun H11 e => absurd e.1 h1) (fun v H11 e => ?_)
      obtain ⟨_, wx, F11, rfl, ws11, s11, f11⟩ := e
      have f11 : pfr ((adv T n t).2.2 - t.2.2 + 4) F F11 H H11 := f11
      have y11 := hy.keep hs f11
      have kt11 := hk.tr (ktf.pf hs f11)
      have md11 := (ktf.pf hs f11).2.2.1 _ _ _ _ hmd
      have ws11_0 := hl74.keep hs f11
      have zm11 := f11.z
      have u11_0 := hu.keep hs g200 f11
      have p11 := hp.tr f11
      have z11 := p11.z
      have s11 : pst T n (adv T n t) dep F11 H11 := s11
      show mu_W _ mu_m489 (11, [(1, .inr (.inr (some m))), (0, .inr (.inr (some 169)))], [.inr (.inr (some wx))], H11) _
      refine mw_go mu_g489 (k := 1) (f1 := (12, [(2, .inr (.inr (some wx))), (1, .inr (.inr (some m))), (0, .inr (.inr (some 169)))], [], H11)) (C := []) rfl trivial ?_
      refine mw_go mu_g489 (k := 2) (f1 := (15, [(2, .inr (.inr (some wx))), (1, .inr (.inr (some m))), (0, .inr (.inr (some 169)))], [.inr (.inr (some 1000003)), .inr (.inr (some 169))], H11)) (C := []) rfl trivial ?_
      refine mw_cX (as := [.inr (.inr (some (1000000 + 3)))]) (o := some 169) (S1 := []) rfl rfl rfl rfl (Nat.le_of_ble_eq_true rfl) (by decide) s11.is rfl (rp_expect s11 (by omega) (j := 3) (by decide)) (fun H12 e => ?_) (fun v H12 e => ?_)
      · obtain ⟨e1, e2⟩ := e
        have hpx := gex_no hpx e1
        exact Or.inl ⟨_, rfl, _, hpx, (p11.bd e2).wk (by omega)⟩
      obtain ⟨rfl, e12, F12, s12, f12⟩ := e
      have hpx := gex_ye hpx e12
      have st12 : pot n (adv T n (adv T n t)) + ((adv T n (adv T n t)).2.2 - (adv T n t).2.2 + 4) + 15 ≤ pot n (adv T n t) := pot_step (T := T) s11.tkf.2.2 (tis_ne e12)
      have f12 : pfr ((adv T n (adv T n t)).2.2 - (adv T n t).2.2 + 4) F11 F12 H11 H12 := f12
      have y12 := y11.keep s11 f12
      have kt12 := kt11.tr (ktf.pf s11 f12)
      have md12 := (ktf.pf s11 f12).2.2.1 _ _ _ _ md11
      have ws12_0 := ws11_0.keep s11 f12
      have ws12_1 := ws11.keep s11 f12
      have zm12 := f12.z
      have u12_0 := u11_0.keep s11 g200 f12
      have p12 := p11.tr f12
      have z12 := p12.z
      have s12 : pst T n (adv T n (adv T n t)) dep F12 H12 := s12
      show mu_W _ mu_m489 (18, [(2, .inr (.inr (some wx))), (1, .inr (.inr (some m))), (0, .inr (.inr (some 169)))], [], H12) _
      refine mw_go mu_g489 (k := 2) (f1 := (22, [(2, .inr (.inr (some wx))), (1, .inr (.inr (some m))), (0, .inr (.inr (some 169)))], [.inr (.inr (mu_r H12 m 2))], H12)) (C := [mu_is H12 (some m) 17]) rfl (show mu_is H12 (some m) 17 from md12.2.1.1) ?_
      refine mw_fr (f' := (22, [(2, .inr (.inr (some wx))), (1, .inr (.inr (some m))), (0, .inr (.inr (some 169)))], [.inr (.inr (some q))], H12)) (by first | (rw [md12.2.2.2.2]; done) | (rw [md12.2.2.2.2]; rfl)) ?_
      refine mw_go mu_g489 (k := 4) (f1 := (28, [(2, .inr (.inr (some wx))), (1, .inr (.inr (some m))), (0, .inr (.inr (some 169)))], [.inr (.inr (some 169)), .inr (.inr (some wx)), .inr (.inr (some 1000074)), .inr (.inr (some 169)), .inr (.inr (some q))], H12)) (C := []) rfl trivial ?_
      obtain ⟨r13, hr13⟩ := gbi_some hpx
      refine mw_cX (as := []) (o := some 169) (S1 := [.inr (.inr (some wx)), .inr (.inr (some 1000074)), .inr (.inr (some 169)), .inr (.inr (some q))]) rfl rfl rfl rfl (Nat.le_of_ble_eq_true rfl) (by decide) s12.is rfl (show mu_TX (mu_D (d + 6 * (150 - dep) + 14)) _ _ _ _ _ from by rw [show d + 6 * (150 - dep) + 14 = (d + 0) + 6 * (150 - dep) + 14 by omega]; exact hP0 f (Nat.le_refl _) (d + 0) dep _ F12 H12 r13 s12 (by omega) hr13) (fun H13 e => ?_) (fun v H13 e => ?_)
      · obtain ⟨e', e1, e2⟩ := e
        rw [hr13, e1] at hpx
        have hpx := gbi_inl hpx
        exact Or.inl ⟨_, rfl, _, hpx, (p12.bd e2).wk (by omega)⟩
      obtain ⟨cy, ty, qy, F13, rfl, e1, s13, n13, w13, f13⟩ := e
      rw [hr13, e1] at hpx
      have hpx := gbi_inr hpx
      have y13 := y12.keep s12 f13
      have kt13 := kt12.tr (ktf.pf s12 f13)
      have md13 := (ktf.pf s12 f13).2.2.1 _ _ _ _ md12
      have ws13_0 := ws12_0.keep s12 f13
      have ws13_1 := ws12_1.keep s12 f13
      have zm13 := f13.z
      have u13_0 := u12_0.keep s12 g200 f13
      have p13 := p12.tr f13
      have z13 := p13.z
      show mu_W _ mu_m489 (31, [(2, .inr (.inr (some wx))), (1, .inr (.inr (some m))), (0, .inr (.inr (some 169)))], [.inr (.inr (some qy)), .inr (.inr (some wx)), .inr (.inr (some 1000074)), .inr (.inr (some 169)), .inr (.inr (some q))], H13) _
      refine mw_cA (fun _ => rfl) (show mu_is H13 (some 169) 1 from s13.is) (rp_named1 (f := f + 2) s13 ws13_0 (by decide) ws13_1 (by omega) (n13.le (by omega))) (fun v H14 q14 => ?_)
      obtain ⟨qz, F14, rfl, s14, n14, f14⟩ := q14
      have y14 := y13.keep s13 f14
      have kt14 := kt13.tr (ktf.pf s13 f14)
      have md14 := (ktf.pf s13 f14).2.2.1 _ _ _ _ md13
      have ws14_0 := ws13_0.keep s13 f14
      have zm14 := f14.z
      have u14_0 := u13_0.keep s13 g200 f14
      have p14 := p13.tr f14
      have z14 := p14.z
      show mu_W _ mu_m489 (34, [(2, .inr (.inr (some wx))), (1, .inr (.inr (some m))), (0, .inr (.inr (some 169)))], [.inr (.inr (some qz)), .inr (.inr (some q))], H14) _
      have cp15 := u14_0.cap
      have wr15 := u14_0.wr y14 g200
      refine mw_cA (fun _ => rfl) (show mu_is H14 (some q) 18 from u14_0.is) (nd_addW u14_0 s14 g200 (n14.le (by omega)) (by omega) (by omega)) (fun r H15 q15 => ?_)
      obtain ⟨rfl, kn15, a15, c_15, v15, s15, hc15, k15, kx15, ax15⟩ := q15
      have cq15 := v15.cap
      simp only [List.length_append, List.length_cons, List.length_nil] at cp15 cq15
      have p15 := p14.kp k15 (fun p z => z) (by omega) (by omega)
      have z15 := p15.z
      have y15 := y14.kp kx15 (fun p z => (wr15 p z).1) (fun p z => (wr15 p z).2) (by have := s14.1.1; omega)
      have kk15 := ktf.kp kx15 (fun p z => ⟨(wr15 p z).1.1, (wr15 p z).1.2.2⟩)
      have kt15 := kt14.tr kk15
      have ws15_0 := kk15.2.1 _ _ ws14_0
      have md15 := kk15.2.2.1 _ _ _ _ md14
      show mu_W _ mu_m489 (37, [(2, .inr (.inr (some wx))), (1, .inr (.inr (some m))), (0, .inr (.inr (some 169)))], [.inr (.inr (some q))], H15) _
      refine mw_go mu_g489 (k := 1) (f1 := (38, [(3, .inr (.inr (some q))), (2, .inr (.inr (some wx))), (1, .inr (.inr (some m))), (0, .inr (.inr (some 169)))], [], H15)) (C := []) rfl trivial ?_
      refine mw_go mu_g489 (k := 2) (f1 := (41, [(3, .inr (.inr (some q))), (2, .inr (.inr (some wx))), (1, .inr (.inr (some m))), (0, .inr (.inr (some 169)))], [.inr (.inr (some 1000015)), .inr (.inr (some 169))], H15)) (C := []) rfl trivial ?_
      refine mw_cX (as := [.inr (.inr (some (1000000 + 15)))]) (o := some 169) (S1 := []) rfl rfl rfl rfl (Nat.le_of_ble_eq_true rfl) (by decide) s15.is rfl (rp_expect s15 (by omega) (j := 15) (by decide)) (fun H16 e => ?_) (fun v H16 e => ?_)
      · obtain ⟨e1, e2⟩ := e
        have hpx := gex_no hpx e1
        exact Or.inl ⟨_, rfl, _, hpx, (p15.bd e2).wk (by omega)⟩
      obtain ⟨rfl, e16, F16, s16, f16⟩ := e
      have hpx := gex_ye hpx e16
      have st16 : pot n (adv T n ty) + ((adv T n ty).2.2 - ty.2.2 + 4) + 15 ≤ pot n ty := pot_step (T := T) s15.tkf.2.2 (tis_ne e16)
      have f16 : pfr ((adv T n ty).2.2 - ty.2.2 + 4) F14 F16 H15 H16 := f16
      have y16 := y15.keep s15 f16
      have kt16 := kt15.tr (ktf.pf s15 f16)
      have md16 := (ktf.pf s15 f16).2.2.1 _ _ _ _ md15
      have ws16_0 := ws15_0.keep s15 f16
      have zm16 := f16.z
      have u16_0 := v15.keep s15 g200 f16
      have p16 := p15.tr f16
      have z16 := p16.z
      have s16 : pst T n (adv T n ty) dep F16 H16 := s16
      show mu_W _ mu_m489 (44, [(3, .inr (.inr (some q))), (2, .inr (.inr (some wx))), (1, .inr (.inr (some m))), (0, .inr (.inr (some 169)))], [], H16) _
      refine mw_go mu_g489 (k := 1) (f1 := (0, [(3, .inr (.inr (some q))), (2, .inr (.inr (some wx))), (1, .inr (.inr (some m))), (0, .inr (.inr (some 169)))], [], H16)) (C := []) rfl trivial ?_
      refine mw_sub (L' := [(1, .inr (.inr (some m))), (0, .inr (.inr (some 169)))]) (by simp) ?_
      refine rp_defsL hff hz g200 hP0 g _ _ _ _ _ ⟨_, _, _, _, _, s16, y16, u16_0, p16, kt16, ?_⟩ md16 ws16_0 hpx
      simp only [List.length_append, List.length_cons, List.length_nil]
      omega
theorem rp_defs {T : Nat → Int32} {n f ff d dep B q s m w pp : Nat} {F0 Fs : Nat → Prop} {H0 Hs : mu_H} {res : Nat ⊕ (List Tre × List (List Int32) × Tok)} (hff : f + 3 ≤ ff) (hz : mu_z H0 + B + 200 ≤ 1000000) (g200 : 200 < mu_z H0) {g : Nat} {F : Nat → Prop} {H : mu_H} {t : Tok} {cs : List Tre} {sy : List (List Int32)} (hm : mmk T n dep ff H0 F0 Hs Fs B q s t F H cs sy) (hmd : mdo H F m w pp q) (hpx : mxD T n f dep g cs sy t = some res) : mu_TX (mu_D (d + 6 * (150 - dep) + 15)) 489 [.inr (.inr (some 169)), .inr (.inr (some m))] H (fun H1 => ∃ e, res = .inl e ∧ qbd T n e (B + 100) H0 H1) (fun v H1 => ∃ cs1 sy1 t1 F1, v = none ∧ res = .inr (cs1, sy1, t1) ∧ mmk T n dep ff H0 F0 Hs Fs B q s t1 F1 H1 cs1 sy1) := by
  have hP0 : ∀ g, g ≤ f → pct T n g 0 491 14 := fun g _ => (px_ok g).1
  refine mu_MT.ot fun hot => ?_
  refine mu_meth (M := mu_m489) rfl rfl ?_
  refine mw_ht (mu_fn_of (show [0, 1].Nodup by decide)) ?_
  show mu_W _ mu_m489 (0, [(0, .inr (.inr (some 169))), (1, .inr (.inr (some m)))], [], H) _
  refine mw_sub (L' := [(1, .inr (.inr (some m))), (0, .inr (.inr (some 169)))]) (by simp) ?_
  exact rp_defsL hff hz g200 hP0 g _ _ _ _ _ hm hmd (stf.lit hot (by decide)) hpx
