/-! The reference: assignments -/
/-- PathProverModel.assignments(LPathProverModel$Module;)V -/
abbrev mu_m490 : ev_M := (5, none, [], ev_b490)
theorem mu_g490 : mu_good mu_m490 := mu_goodk ev_k490
theorem wrd_ns2 : ∀ j, j < 56 → 28 ≤ j → ∀ s, s < 27 → ¬ sgt s = txt j := by decide +kernel
theorem tis_wd2 {T : Nat → Int32} {n j : Nat} {t : Tok} (hf : tkf n t) (hj : 28 ≤ j ∧ j < 56) (h : ¬ tis T t (txt j) = 0) : t.1 = 2 ∧ slc T t.2.1 t.2.2 = txt j := by
  unfold tis at h
  by_cases e1 : t.1 = 2
  · rw [if_pos e1] at h
    exact ⟨e1, Decidable.byContradiction (fun c => h (if_neg c))⟩
  · rw [if_neg e1] at h
    by_cases e2 : t.1 < 10
    · rw [if_pos e2] at h; exact absurd rfl h
    · rw [if_neg e2, if_neg (wrd_ns2 j hj.2 hj.1 _ (hf.sg e2).1)] at h; exact absurd rfl h
/-- the word of a token, as a String that stays -/
theorem pst.wst2 {T : Nat → Int32} {n dep j : Nat} {t : Tok} {F : Nat → Prop} {H : mu_H} (h : pst T n t dep F H) (hj : 28 ≤ j ∧ j < 56) (h2 : ¬ tis T t (txt j) = 0) : ∃ q, mu_r H 169 11 = some q ∧ stf H F q (txt j) := by
  obtain ⟨e1, e2⟩ := tis_wd2 h.tkf hj h2
  obtain ⟨q, w, b1, b2, b3, b4, b5⟩ := h.wd e1
  rw [e2] at b5
  exact ⟨q, b1, b5, Or.inr ⟨b2, w, b3, b4⟩, by rw [← e2]; exact h.sl⟩
theorem rp_asgnL {T : Nat → Int32} {n f ff d dep B q s m w pp : Nat} {F0 Fs : Nat → Prop} {H0 Hs : mu_H} {res : Nat ⊕ (List Tre × List (List Int32) × Tok)} (hff : f + 3 ≤ ff) (hz : mu_z H0 + B + 200 ≤ 1000000) (g200 : 200 < mu_z H0) (hP11 : ∀ g, g ≤ f → pct T n g 11 503 12) : ∀ g F H t cs sy, mmk T n dep ff H0 F0 Hs Fs B q s t F H cs sy → mdo H F m w pp q → stf H F (1000000 + 75) (txt 75) → mxA T n f dep g cs sy t = some res → mu_W (mu_D (d + 6 * (150 - dep) + 14)) mu_m490 (0, [(1, .inr (.inr (some m))), (0, .inr (.inr (some 169)))], [], H) (fun r => (∃ H1, r = (.inr 0, H1) ∧ ∃ e, res = .inl e ∧ qbd T n e (B + 100) H0 H1) ∨ ∃ v H1, r = (.inl v, H1) ∧ ∃ cs1 sy1 t1 F1, v = none ∧ res = .inr (cs1, sy1, t1) ∧ mmk T n dep ff H0 F0 Hs Fs B q s t1 F1 H1 cs1 sy1)
  | 0, _, _, _, _, _, _, _, _, hpx => by cases hpx
  | g + 1, F, H, t, cs, sy, hm, hmd, hl75, hpx => by
    rw [mxA] at hpx
    obtain ⟨A, a, c, cap, qs, hs, hy, hu, hp, hk, hA⟩ := hm
    have hcap := hu.cap
    have hcy := hy.cp
    have hAz := hp.z
    have hd0 := hs.2.2.2.1.2
    refine mw_go mu_g490 (k := 1) (f1 := (1, [(1, .inr (.inr (some m))), (0, .inr (.inr (some 169)))], [.inr (.inr (some 169))], H)) (C := []) rfl trivial ?_
    refine mw_cIe (fun _ => rfl) (show mu_is H (some 169) 1 from hs.is) (rp_atName hs) ?_
    refine mw_if (P := (nmz T t) = 0) (a := 7) (b := 25) (fun _ => rfl) trivial (fun h1 => ?_) (fun h1 => ?_)
    · -- 7
      have hpx := ite_ye hpx h1
      refine mw_go mu_g490 (k := 2) (f1 := (10, [(1, .inr (.inr (some m))), (0, .inr (.inr (some 169)))], [.inr (.inr (some 1000032)), .inr (.inr (some 169))], H)) (C := []) rfl trivial ?_
      refine mw_cIe (fun _ => rfl) (show mu_is H (some 169) 1 from hs.is) (rp_isL (j := 32) hs (by decide)) ?_
      refine mw_if (P := (tis T t (txt 32)) = 0) (a := 16) (b := 25) (fun _ => rfl) trivial (fun e32 => ?_) (fun e32 => ?_)
      · -- 16
        refine mw_go mu_g490 (k := 2) (f1 := (19, [(1, .inr (.inr (some m))), (0, .inr (.inr (some 169)))], [.inr (.inr (some 1000033)), .inr (.inr (some 169))], H)) (C := []) rfl trivial ?_
        refine mw_cIe (fun _ => rfl) (show mu_is H (some 169) 1 from hs.is) (rp_isL (j := 33) hs (by decide)) ?_
        refine mw_if (P := (tis T t (txt 33)) = 0) (a := 115) (b := 25) (fun _ => rfl) trivial (fun e33 => ?_) (fun e33 => ?_)
        · -- 115
          have ho : one T t [32, 33] = 0 := by
            show (if tis T t (txt 32) = 0 then (if tis T t (txt 33) = 0 then 0 else 33) else 32) = 0
            rw [if_pos e32, if_pos e33]
          have hpx := ite_ye hpx ho
          exact mw_of (fun _ => mu_ret rfl trivial (Or.inr ⟨_, _, rfl, _, _, _, F, rfl, gok_eq hpx, _, _, _, _, _, hs, hy, hu, hp, hk, hA⟩))
        · -- 25
          have ho : one T t [32, 33] = 33 := by
            show (if tis T t (txt 32) = 0 then (if tis T t (txt 33) = 0 then 0 else 33) else 32) = 33
            rw [if_pos e32, if_neg e33]
          have hpx := ite_no hpx (show ¬ one T t [32, 33] = 0 by rw [ho]; decide)
          rw [ho] at hpx
          obtain ⟨sq, w1, w2⟩ := hs.wst2 (j := 33) (by decide) e33
          refine mw_go mu_g490 (k := 1) (f1 := (26, [(1, .inr (.inr (some m))), (0, .inr (.inr (some 169)))], [.inr (.inr (some 169))], H)) (C := []) rfl trivial ?_
          refine mw_cIe (fun _ => rfl) (show mu_is H (some 169) 1 from hs.is) (rp_atName hs) ?_
          refine mw_if (P := (nmz T t) = 0) (a := 38) (b := 32) (fun _ => rfl) trivial (fun h2 => ?_) (fun h2 => absurd h1 h2)
          refine mw_go mu_g490 (k := 2) (f1 := (42, [(1, .inr (.inr (some m))), (0, .inr (.inr (some 169)))], [.inr (.inr (mu_r H 169 11))], H)) (C := [mu_is H (some 169) 1]) rfl (show mu_is H (some 169) 1 from hs.is) ?_
          refine mw_fr (f' := (42, [(1, .inr (.inr (some m))), (0, .inr (.inr (some 169)))], [.inr (.inr (some sq))], H)) (by first | (rw [w1]; done) | (rw [w1]; rfl)) ?_
          refine mw_go mu_g490 (k := 2) (f1 := (44, [(2, .inr (.inr (some sq))), (1, .inr (.inr (some m))), (0, .inr (.inr (some 169)))], [.inr (.inr (some 169))], H)) (C := []) rfl trivial ?_
          refine mw_cIe (fun _ => rfl) (show mu_is H (some 169) 1 from hs.is) (rp_atName hs) ?_
          refine mw_if (P := (nmz T t) = 0) (a := 50) (b := 60) (fun _ => rfl) trivial (fun h3 => ?_) (fun h3 => absurd h1 h3)
          refine mw_go mu_g490 (k := 1) (f1 := (51, [(2, .inr (.inr (some sq))), (1, .inr (.inr (some m))), (0, .inr (.inr (some 169)))], [.inr (.inr (some 169))], H)) (C := []) rfl trivial ?_
          have st11 : pot n (adv T n t) + ((adv T n t).2.2 - t.2.2 + 4) + 15 ≤ pot n t := pot_step (T := T) hs.tkf.2.2 (tis_ne e33)
          refine mw_cV (fun _ => rfl) (show mu_is H (some 169) 1 from hs.is) (rp_advance hs (tis_ne e33) (by omega)) (fun H11 q11 => ?_)
          obtain ⟨F11, s11, f11⟩ := q11
          have f11 : pfr ((adv T n t).2.2 - t.2.2 + 4) F F11 H H11 := f11
          have y11 := hy.keep hs f11
          have kt11 := hk.tr (ktf.pf hs f11)
          have md11 := (ktf.pf hs f11).2.2.1 _ _ _ _ hmd
          have ws11_0 := hl75.keep hs f11
          have ws11_1 := w2.keep hs f11
          have zm11 := f11.z
          have u11_0 := hu.keep hs g200 f11
          have p11 := hp.tr f11
          have z11 := p11.z
          have s11 : pst T n (adv T n t) dep F11 H11 := s11
          show mu_W _ mu_m490 (54, [(2, .inr (.inr (some sq))), (1, .inr (.inr (some m))), (0, .inr (.inr (some 169)))], [], H11) _
          refine mw_go mu_g490 (k := 2) (f1 := (57, [(2, .inr (.inr (some sq))), (1, .inr (.inr (some m))), (0, .inr (.inr (some 169)))], [.inr (.inr (some 1000008)), .inr (.inr (some 169))], H11)) (C := []) rfl trivial ?_
          refine mw_cX (as := [.inr (.inr (some (1000000 + 8)))]) (o := some 169) (S1 := []) rfl rfl rfl rfl (Nat.le_of_ble_eq_true rfl) (by decide) s11.is rfl (rp_expect s11 (by omega) (j := 8) (by decide)) (fun H12 e => ?_) (fun v H12 e => ?_)
          · obtain ⟨e1, e2⟩ := e
            have hpx := gex_no hpx e1
            exact Or.inl ⟨_, rfl, _, hpx, (p11.bd e2).wk (by omega)⟩
          obtain ⟨rfl, e12, F12, s12, f12⟩ := e
          have hpx := gex_ye hpx e12
          have st12 : pot n (adv T n (adv T n t)) + ((adv T n (adv T n t)).2.2 - (adv T n t).2.2 + 4) + 15 ≤ pot n (adv T n t) := pot_step (T := T) s11.tkf.2.2 (tis_ne e12)
          have f12 : pfr ((adv T n (adv T n t)).2.2 - (adv T n t).2.2 + 4) F11 F12 H11 H12 := f12
          have y12 := y11.keep s11 f12
          have kt12 := kt11.tr (ktf.pf s11 f12)
          have md12 := (ktf.pf s11 f12).2.2.1 _ _ _ _ md11
          have ws12_0 := ws11_0.keep s11 f12
          have ws12_1 := ws11_1.keep s11 f12
          have zm12 := f12.z
          have u12_0 := u11_0.keep s11 g200 f12
          have p12 := p11.tr f12
          have z12 := p12.z
          have s12 : pst T n (adv T n (adv T n t)) dep F12 H12 := s12
          show mu_W _ mu_m490 (60, [(2, .inr (.inr (some sq))), (1, .inr (.inr (some m))), (0, .inr (.inr (some 169)))], [], H12) _
          refine mw_go mu_g490 (k := 1) (f1 := (61, [(2, .inr (.inr (some sq))), (1, .inr (.inr (some m))), (0, .inr (.inr (some 169)))], [.inr (.inr (some 169))], H12)) (C := []) rfl trivial ?_
          refine mw_cX (as := []) (o := some 169) (S1 := []) rfl rfl rfl rfl (Nat.le_of_ble_eq_true rfl) (by decide) s12.is rfl (rp_name s12 (by omega)) (fun H13 e => ?_) (fun v H13 e => ?_)
          · obtain ⟨e1, e2⟩ := e
            have hpx := gpe_eq (ite_ye hpx e1)
            exact Or.inl ⟨_, rfl, _, hpx, (p12.bd e2).wk (by omega)⟩
          obtain ⟨hn13, wx, F13, rfl, ws13, s13, f13⟩ := e
          have hpx := ite_no hpx hn13
          have ht13 : ((adv T n (adv T n t))).1 ≠ 0 ∧ ((adv T n (adv T n t))).1 ≠ 1 := by rw [nmz_2 hn13]; decide
          have st13 : pot n (adv T n (adv T n (adv T n t))) + ((adv T n (adv T n (adv T n t))).2.2 - (adv T n (adv T n t)).2.2 + 4) + 15 ≤ pot n (adv T n (adv T n t)) := pot_step (T := T) s12.tkf.2.2 ht13
          have f13 : pfr ((adv T n (adv T n (adv T n t))).2.2 - (adv T n (adv T n t)).2.2 + 4) F12 F13 H12 H13 := f13
          have y13 := y12.keep s12 f13
          have kt13 := kt12.tr (ktf.pf s12 f13)
          have md13 := (ktf.pf s12 f13).2.2.1 _ _ _ _ md12
          have ws13_0 := ws12_0.keep s12 f13
          have ws13_1 := ws12_1.keep s12 f13
          have zm13 := f13.z
          have u13_0 := u12_0.keep s12 g200 f13
          have p13 := p12.tr f13
          have z13 := p13.z
          have s13 : pst T n (adv T n (adv T n (adv T n t))) dep F13 H13 := s13
          show mu_W _ mu_m490 (64, [(2, .inr (.inr (some sq))), (1, .inr (.inr (some m))), (0, .inr (.inr (some 169)))], [.inr (.inr (some wx))], H13) _
          refine mw_go mu_g490 (k := 3) (f1 := (69, [(3, .inr (.inr (some wx))), (2, .inr (.inr (some sq))), (1, .inr (.inr (some m))), (0, .inr (.inr (some 169)))], [.inr (.inr (some 1000075)), .inr (.inr (some sq))], H13)) (C := []) rfl trivial ?_
          refine mw_cS rfl (by decide) ws13_1.1.1 (sb_equals (d := _) ws13_1.1 ws13_0.1 (Nat.lt_trans ws13_1.2.2 (by decide)) (Nat.lt_trans ws13_0.2.2 (by decide))) (fun x H9 q9 => ?_)
          rw [q9.1, q9.2, if_neg (show ¬ txt 33 = txt 75 by decide)]
          show mu_W _ mu_m490 (72, [(3, .inr (.inr (some wx))), (2, .inr (.inr (some sq))), (1, .inr (.inr (some m))), (0, .inr (.inr (some 169)))], [.inl (0 : Int32)], H13) _
          refine mw_if (P := (0 : Int32) = 0) (a := 75) (b := 81) (fun _ => rfl) trivial (fun h4 => ?_) (fun h4 => absurd rfl h4)
          refine mw_go mu_g490 (k := 2) (f1 := (78, [(3, .inr (.inr (some wx))), (2, .inr (.inr (some sq))), (1, .inr (.inr (some m))), (0, .inr (.inr (some 169)))], [.inr (.inr (some 1000009)), .inr (.inr (some 169))], H13)) (C := []) rfl trivial ?_
          refine mw_cX (as := [.inr (.inr (some (1000000 + 9)))]) (o := some 169) (S1 := []) rfl rfl rfl rfl (Nat.le_of_ble_eq_true rfl) (by decide) s13.is rfl (rp_expect s13 (by omega) (j := 9) (by decide)) (fun H14 e => ?_) (fun v H14 e => ?_)
          · obtain ⟨e1, e2⟩ := e
            have hpx := gex_no hpx e1
            exact Or.inl ⟨_, rfl, _, hpx, (p13.bd e2).wk (by omega)⟩
          obtain ⟨rfl, e14, F14, s14, f14⟩ := e
          have hpx := gex_ye hpx e14
          have st14 : pot n (adv T n (adv T n (adv T n (adv T n t)))) + ((adv T n (adv T n (adv T n (adv T n t)))).2.2 - (adv T n (adv T n (adv T n t))).2.2 + 4) + 15 ≤ pot n (adv T n (adv T n (adv T n t))) := pot_step (T := T) s13.tkf.2.2 (tis_ne e14)
          have f14 : pfr ((adv T n (adv T n (adv T n (adv T n t)))).2.2 - (adv T n (adv T n (adv T n t))).2.2 + 4) F13 F14 H13 H14 := f14
          have y14 := y13.keep s13 f14
          have kt14 := kt13.tr (ktf.pf s13 f14)
          have md14 := (ktf.pf s13 f14).2.2.1 _ _ _ _ md13
          have ws14_0 := ws13_0.keep s13 f14
          have ws14_1 := ws13_1.keep s13 f14
          have ws14_2 := ws13.keep s13 f14
          have zm14 := f14.z
          have u14_0 := u13_0.keep s13 g200 f14
          have p14 := p13.tr f14
          have z14 := p14.z
          have s14 : pst T n (adv T n (adv T n (adv T n (adv T n t)))) dep F14 H14 := s14
          show mu_W _ mu_m490 (81, [(3, .inr (.inr (some wx))), (2, .inr (.inr (some sq))), (1, .inr (.inr (some m))), (0, .inr (.inr (some 169)))], [], H14) _
          refine mw_go mu_g490 (k := 2) (f1 := (84, [(3, .inr (.inr (some wx))), (2, .inr (.inr (some sq))), (1, .inr (.inr (some m))), (0, .inr (.inr (some 169)))], [.inr (.inr (some 1000003)), .inr (.inr (some 169))], H14)) (C := []) rfl trivial ?_
          refine mw_cX (as := [.inr (.inr (some (1000000 + 3)))]) (o := some 169) (S1 := []) rfl rfl rfl rfl (Nat.le_of_ble_eq_true rfl) (by decide) s14.is rfl (rp_expect s14 (by omega) (j := 3) (by decide)) (fun H15 e => ?_) (fun v H15 e => ?_)
          · obtain ⟨e1, e2⟩ := e
            have hpx := gex_no hpx e1
            exact Or.inl ⟨_, rfl, _, hpx, (p14.bd e2).wk (by omega)⟩
          obtain ⟨rfl, e15, F15, s15, f15⟩ := e
          have hpx := gex_ye hpx e15
          have st15 : pot n (adv T n (adv T n (adv T n (adv T n (adv T n t))))) + ((adv T n (adv T n (adv T n (adv T n (adv T n t))))).2.2 - (adv T n (adv T n (adv T n (adv T n t)))).2.2 + 4) + 15 ≤ pot n (adv T n (adv T n (adv T n (adv T n t)))) := pot_step (T := T) s14.tkf.2.2 (tis_ne e15)
          have f15 : pfr ((adv T n (adv T n (adv T n (adv T n (adv T n t))))).2.2 - (adv T n (adv T n (adv T n (adv T n t)))).2.2 + 4) F14 F15 H14 H15 := f15
          have y15 := y14.keep s14 f15
          have kt15 := kt14.tr (ktf.pf s14 f15)
          have md15 := (ktf.pf s14 f15).2.2.1 _ _ _ _ md14
          have ws15_0 := ws14_0.keep s14 f15
          have ws15_1 := ws14_1.keep s14 f15
          have ws15_2 := ws14_2.keep s14 f15
          have zm15 := f15.z
          have u15_0 := u14_0.keep s14 g200 f15
          have p15 := p14.tr f15
          have z15 := p15.z
          have s15 : pst T n (adv T n (adv T n (adv T n (adv T n (adv T n t))))) dep F15 H15 := s15
          show mu_W _ mu_m490 (87, [(3, .inr (.inr (some wx))), (2, .inr (.inr (some sq))), (1, .inr (.inr (some m))), (0, .inr (.inr (some 169)))], [], H15) _
          refine mw_go mu_g490 (k := 2) (f1 := (91, [(3, .inr (.inr (some wx))), (2, .inr (.inr (some sq))), (1, .inr (.inr (some m))), (0, .inr (.inr (some 169)))], [.inr (.inr (mu_r H15 m 2))], H15)) (C := [mu_is H15 (some m) 17]) rfl (show mu_is H15 (some m) 17 from md15.2.1.1) ?_
          refine mw_fr (f' := (91, [(3, .inr (.inr (some wx))), (2, .inr (.inr (some sq))), (1, .inr (.inr (some m))), (0, .inr (.inr (some 169)))], [.inr (.inr (some q))], H15)) (by first | (rw [md15.2.2.2.2]; done) | (rw [md15.2.2.2.2]; rfl)) ?_
          refine mw_go mu_g490 (k := 4) (f1 := (95, [(3, .inr (.inr (some wx))), (2, .inr (.inr (some sq))), (1, .inr (.inr (some m))), (0, .inr (.inr (some 169)))], [.inr (.inr (some 169)), .inr (.inr (some wx)), .inr (.inr (some sq)), .inr (.inr (some 169)), .inr (.inr (some q))], H15)) (C := []) rfl trivial ?_
          obtain ⟨r16, hr16⟩ := gbi_some hpx
          refine mw_cX (as := []) (o := some 169) (S1 := [.inr (.inr (some wx)), .inr (.inr (some sq)), .inr (.inr (some 169)), .inr (.inr (some q))]) rfl rfl rfl rfl (Nat.le_of_ble_eq_true rfl) (by decide) s15.is rfl (show mu_TX (mu_D (d + 6 * (150 - dep) + 14)) _ _ _ _ _ from by rw [show d + 6 * (150 - dep) + 14 = (d + 2) + 6 * (150 - dep) + 12 by omega]; exact hP11 f (Nat.le_refl _) (d + 2) dep _ F15 H15 r16 s15 (by omega) hr16) (fun H16 e => ?_) (fun v H16 e => ?_)
          · obtain ⟨e', e1, e2⟩ := e
            rw [hr16, e1] at hpx
            have hpx := gbi_inl hpx
            exact Or.inl ⟨_, rfl, _, hpx, (p15.bd e2).wk (by omega)⟩
          obtain ⟨cy, ty, qy, F16, rfl, e1, s16, n16, w16, f16⟩ := e
          rw [hr16, e1] at hpx
          have hpx := gbi_inr hpx
          have y16 := y15.keep s15 f16
          have kt16 := kt15.tr (ktf.pf s15 f16)
          have md16 := (ktf.pf s15 f16).2.2.1 _ _ _ _ md15
          have ws16_0 := ws15_0.keep s15 f16
          have ws16_1 := ws15_1.keep s15 f16
          have ws16_2 := ws15_2.keep s15 f16
          have zm16 := f16.z
          have u16_0 := u15_0.keep s15 g200 f16
          have p16 := p15.tr f16
          have z16 := p16.z
          show mu_W _ mu_m490 (98, [(3, .inr (.inr (some wx))), (2, .inr (.inr (some sq))), (1, .inr (.inr (some m))), (0, .inr (.inr (some 169)))], [.inr (.inr (some qy)), .inr (.inr (some wx)), .inr (.inr (some sq)), .inr (.inr (some 169)), .inr (.inr (some q))], H16) _
          refine mw_cA (fun _ => rfl) (show mu_is H16 (some 169) 1 from s16.is) (rp_named1 (f := f + 2) s16 ws16_1 (by decide) ws16_2 (by omega) (n16.le (by omega))) (fun v H17 q17 => ?_)
          obtain ⟨qz, F17, rfl, s17, n17, f17⟩ := q17
          have y17 := y16.keep s16 f17
          have kt17 := kt16.tr (ktf.pf s16 f17)
          have md17 := (ktf.pf s16 f17).2.2.1 _ _ _ _ md16
          have ws17_0 := ws16_0.keep s16 f17
          have ws17_1 := ws16_1.keep s16 f17
          have zm17 := f17.z
          have u17_0 := u16_0.keep s16 g200 f17
          have p17 := p16.tr f17
          have z17 := p17.z
          show mu_W _ mu_m490 (101, [(3, .inr (.inr (some wx))), (2, .inr (.inr (some sq))), (1, .inr (.inr (some m))), (0, .inr (.inr (some 169)))], [.inr (.inr (some qz)), .inr (.inr (some q))], H17) _
          have cp18 := u17_0.cap
          have wr18 := u17_0.wr y17 g200
          refine mw_cA (fun _ => rfl) (show mu_is H17 (some q) 18 from u17_0.is) (nd_addW u17_0 s17 g200 (n17.le (by omega)) (by omega) (by omega)) (fun r H18 q18 => ?_)
          obtain ⟨rfl, kn18, a18, c_18, v18, s18, hc18, k18, kx18, ax18⟩ := q18
          have cq18 := v18.cap
          simp only [List.length_append, List.length_cons, List.length_nil] at cp18 cq18
          have p18 := p17.kp k18 (fun p z => z) (by omega) (by omega)
          have z18 := p18.z
          have y18 := y17.kp kx18 (fun p z => (wr18 p z).1) (fun p z => (wr18 p z).2) (by have := s17.1.1; omega)
          have kk18 := ktf.kp kx18 (fun p z => ⟨(wr18 p z).1.1, (wr18 p z).1.2.2⟩)
          have kt18 := kt17.tr kk18
          have ws18_0 := kk18.2.1 _ _ ws17_0
          have ws18_1 := kk18.2.1 _ _ ws17_1
          have md18 := kk18.2.2.1 _ _ _ _ md17
          show mu_W _ mu_m490 (104, [(3, .inr (.inr (some wx))), (2, .inr (.inr (some sq))), (1, .inr (.inr (some m))), (0, .inr (.inr (some 169)))], [.inr (.inr (some q))], H18) _
          refine mw_go mu_g490 (k := 1) (f1 := (106, [(4, .inr (.inr (some q))), (3, .inr (.inr (some wx))), (2, .inr (.inr (some sq))), (1, .inr (.inr (some m))), (0, .inr (.inr (some 169)))], [], H18)) (C := []) rfl trivial ?_
          refine mw_go mu_g490 (k := 2) (f1 := (109, [(4, .inr (.inr (some q))), (3, .inr (.inr (some wx))), (2, .inr (.inr (some sq))), (1, .inr (.inr (some m))), (0, .inr (.inr (some 169)))], [.inr (.inr (some 1000015)), .inr (.inr (some 169))], H18)) (C := []) rfl trivial ?_
          refine mw_cX (as := [.inr (.inr (some (1000000 + 15)))]) (o := some 169) (S1 := []) rfl rfl rfl rfl (Nat.le_of_ble_eq_true rfl) (by decide) s18.is rfl (rp_expect s18 (by omega) (j := 15) (by decide)) (fun H19 e => ?_) (fun v H19 e => ?_)
          · obtain ⟨e1, e2⟩ := e
            have hpx := gex_no hpx e1
            exact Or.inl ⟨_, rfl, _, hpx, (p18.bd e2).wk (by omega)⟩
          obtain ⟨rfl, e19, F19, s19, f19⟩ := e
          have hpx := gex_ye hpx e19
          have st19 : pot n (adv T n ty) + ((adv T n ty).2.2 - ty.2.2 + 4) + 15 ≤ pot n ty := pot_step (T := T) s18.tkf.2.2 (tis_ne e19)
          have f19 : pfr ((adv T n ty).2.2 - ty.2.2 + 4) F17 F19 H18 H19 := f19
          have y19 := y18.keep s18 f19
          have kt19 := kt18.tr (ktf.pf s18 f19)
          have md19 := (ktf.pf s18 f19).2.2.1 _ _ _ _ md18
          have ws19_0 := ws18_0.keep s18 f19
          have ws19_1 := ws18_1.keep s18 f19
          have zm19 := f19.z
          have u19_0 := v18.keep s18 g200 f19
          have p19 := p18.tr f19
          have z19 := p19.z
          have s19 : pst T n (adv T n ty) dep F19 H19 := s19
          show mu_W _ mu_m490 (112, [(4, .inr (.inr (some q))), (3, .inr (.inr (some wx))), (2, .inr (.inr (some sq))), (1, .inr (.inr (some m))), (0, .inr (.inr (some 169)))], [], H19) _
          refine mw_go mu_g490 (k := 1) (f1 := (0, [(4, .inr (.inr (some q))), (3, .inr (.inr (some wx))), (2, .inr (.inr (some sq))), (1, .inr (.inr (some m))), (0, .inr (.inr (some 169)))], [], H19)) (C := []) rfl trivial ?_
          refine mw_sub (L' := [(1, .inr (.inr (some m))), (0, .inr (.inr (some 169)))]) (by simp) ?_
          refine rp_asgnL hff hz g200 hP11 g _ _ _ _ _ ⟨_, _, _, _, _, s19, y19, u19_0, p19, kt19, ?_⟩ md19 ws19_0 hpx
          simp only [List.length_append, List.length_cons, List.length_nil]
          omega
      · -- 25
        have ho : one T t [32, 33] = 32 := by
          show (if tis T t (txt 32) = 0 then (if tis T t (txt 33) = 0 then 0 else 33) else 32) = 32
          rw [if_neg e32]
        have hpx := ite_no hpx (show ¬ one T t [32, 33] = 0 by rw [ho]; decide)
        rw [ho] at hpx
        obtain ⟨sq, w1, w2⟩ := hs.wst2 (j := 32) (by decide) e32
        refine mw_go mu_g490 (k := 1) (f1 := (26, [(1, .inr (.inr (some m))), (0, .inr (.inr (some 169)))], [.inr (.inr (some 169))], H)) (C := []) rfl trivial ?_
        refine mw_cIe (fun _ => rfl) (show mu_is H (some 169) 1 from hs.is) (rp_atName hs) ?_
        refine mw_if (P := (nmz T t) = 0) (a := 38) (b := 32) (fun _ => rfl) trivial (fun h2 => ?_) (fun h2 => absurd h1 h2)
        refine mw_go mu_g490 (k := 2) (f1 := (42, [(1, .inr (.inr (some m))), (0, .inr (.inr (some 169)))], [.inr (.inr (mu_r H 169 11))], H)) (C := [mu_is H (some 169) 1]) rfl (show mu_is H (some 169) 1 from hs.is) ?_
        refine mw_fr (f' := (42, [(1, .inr (.inr (some m))), (0, .inr (.inr (some 169)))], [.inr (.inr (some sq))], H)) (by first | (rw [w1]; done) | (rw [w1]; rfl)) ?_
        refine mw_go mu_g490 (k := 2) (f1 := (44, [(2, .inr (.inr (some sq))), (1, .inr (.inr (some m))), (0, .inr (.inr (some 169)))], [.inr (.inr (some 169))], H)) (C := []) rfl trivial ?_
        refine mw_cIe (fun _ => rfl) (show mu_is H (some 169) 1 from hs.is) (rp_atName hs) ?_
        refine mw_if (P := (nmz T t) = 0) (a := 50) (b := 60) (fun _ => rfl) trivial (fun h3 => ?_) (fun h3 => absurd h1 h3)
        refine mw_go mu_g490 (k := 1) (f1 := (51, [(2, .inr (.inr (some sq))), (1, .inr (.inr (some m))), (0, .inr (.inr (some 169)))], [.inr (.inr (some 169))], H)) (C := []) rfl trivial ?_
        have st11 : pot n (adv T n t) + ((adv T n t).2.2 - t.2.2 + 4) + 15 ≤ pot n t := pot_step (T := T) hs.tkf.2.2 (tis_ne e32)
        refine mw_cV (fun _ => rfl) (show mu_is H (some 169) 1 from hs.is) (rp_advance hs (tis_ne e32) (by omega)) (fun H11 q11 => ?_)
        obtain ⟨F11, s11, f11⟩ := q11
        have f11 : pfr ((adv T n t).2.2 - t.2.2 + 4) F F11 H H11 := f11
        have y11 := hy.keep hs f11
        have kt11 := hk.tr (ktf.pf hs f11)
        have md11 := (ktf.pf hs f11).2.2.1 _ _ _ _ hmd
        have ws11_0 := hl75.keep hs f11
        have ws11_1 := w2.keep hs f11
        have zm11 := f11.z
        have u11_0 := hu.keep hs g200 f11
        have p11 := hp.tr f11
        have z11 := p11.z
        have s11 : pst T n (adv T n t) dep F11 H11 := s11
        show mu_W _ mu_m490 (54, [(2, .inr (.inr (some sq))), (1, .inr (.inr (some m))), (0, .inr (.inr (some 169)))], [], H11) _
        refine mw_go mu_g490 (k := 2) (f1 := (57, [(2, .inr (.inr (some sq))), (1, .inr (.inr (some m))), (0, .inr (.inr (some 169)))], [.inr (.inr (some 1000008)), .inr (.inr (some 169))], H11)) (C := []) rfl trivial ?_
        refine mw_cX (as := [.inr (.inr (some (1000000 + 8)))]) (o := some 169) (S1 := []) rfl rfl rfl rfl (Nat.le_of_ble_eq_true rfl) (by decide) s11.is rfl (rp_expect s11 (by omega) (j := 8) (by decide)) (fun H12 e => ?_) (fun v H12 e => ?_)
        · obtain ⟨e1, e2⟩ := e
          have hpx := gex_no hpx e1
          exact Or.inl ⟨_, rfl, _, hpx, (p11.bd e2).wk (by omega)⟩
        obtain ⟨rfl, e12, F12, s12, f12⟩ := e
        have hpx := gex_ye hpx e12
        have st12 : pot n (adv T n (adv T n t)) + ((adv T n (adv T n t)).2.2 - (adv T n t).2.2 + 4) + 15 ≤ pot n (adv T n t) := pot_step (T := T) s11.tkf.2.2 (tis_ne e12)
        have f12 : pfr ((adv T n (adv T n t)).2.2 - (adv T n t).2.2 + 4) F11 F12 H11 H12 := f12
        have y12 := y11.keep s11 f12
        have kt12 := kt11.tr (ktf.pf s11 f12)
        have md12 := (ktf.pf s11 f12).2.2.1 _ _ _ _ md11
        have ws12_0 := ws11_0.keep s11 f12
        have ws12_1 := ws11_1.keep s11 f12
        have zm12 := f12.z
        have u12_0 := u11_0.keep s11 g200 f12
        have p12 := p11.tr f12
        have z12 := p12.z
        have s12 : pst T n (adv T n (adv T n t)) dep F12 H12 := s12
        show mu_W _ mu_m490 (60, [(2, .inr (.inr (some sq))), (1, .inr (.inr (some m))), (0, .inr (.inr (some 169)))], [], H12) _
        refine mw_go mu_g490 (k := 1) (f1 := (61, [(2, .inr (.inr (some sq))), (1, .inr (.inr (some m))), (0, .inr (.inr (some 169)))], [.inr (.inr (some 169))], H12)) (C := []) rfl trivial ?_
        refine mw_cX (as := []) (o := some 169) (S1 := []) rfl rfl rfl rfl (Nat.le_of_ble_eq_true rfl) (by decide) s12.is rfl (rp_name s12 (by omega)) (fun H13 e => ?_) (fun v H13 e => ?_)
        · obtain ⟨e1, e2⟩ := e
          have hpx := gpe_eq (ite_ye hpx e1)
          exact Or.inl ⟨_, rfl, _, hpx, (p12.bd e2).wk (by omega)⟩
        obtain ⟨hn13, wx, F13, rfl, ws13, s13, f13⟩ := e
        have hpx := ite_no hpx hn13
        have ht13 : ((adv T n (adv T n t))).1 ≠ 0 ∧ ((adv T n (adv T n t))).1 ≠ 1 := by rw [nmz_2 hn13]; decide
        have st13 : pot n (adv T n (adv T n (adv T n t))) + ((adv T n (adv T n (adv T n t))).2.2 - (adv T n (adv T n t)).2.2 + 4) + 15 ≤ pot n (adv T n (adv T n t)) := pot_step (T := T) s12.tkf.2.2 ht13
        have f13 : pfr ((adv T n (adv T n (adv T n t))).2.2 - (adv T n (adv T n t)).2.2 + 4) F12 F13 H12 H13 := f13
        have y13 := y12.keep s12 f13
        have kt13 := kt12.tr (ktf.pf s12 f13)
        have md13 := (ktf.pf s12 f13).2.2.1 _ _ _ _ md12
        have ws13_0 := ws12_0.keep s12 f13
        have ws13_1 := ws12_1.keep s12 f13
        have zm13 := f13.z
        have u13_0 := u12_0.keep s12 g200 f13
        have p13 := p12.tr f13
        have z13 := p13.z
        have s13 : pst T n (adv T n (adv T n (adv T n t))) dep F13 H13 := s13
        show mu_W _ mu_m490 (64, [(2, .inr (.inr (some sq))), (1, .inr (.inr (some m))), (0, .inr (.inr (some 169)))], [.inr (.inr (some wx))], H13) _
        refine mw_go mu_g490 (k := 3) (f1 := (69, [(3, .inr (.inr (some wx))), (2, .inr (.inr (some sq))), (1, .inr (.inr (some m))), (0, .inr (.inr (some 169)))], [.inr (.inr (some 1000075)), .inr (.inr (some sq))], H13)) (C := []) rfl trivial ?_
        refine mw_cS rfl (by decide) ws13_1.1.1 (sb_equals (d := _) ws13_1.1 ws13_0.1 (Nat.lt_trans ws13_1.2.2 (by decide)) (Nat.lt_trans ws13_0.2.2 (by decide))) (fun x H9 q9 => ?_)
        rw [q9.1, q9.2, if_neg (show ¬ txt 32 = txt 75 by decide)]
        show mu_W _ mu_m490 (72, [(3, .inr (.inr (some wx))), (2, .inr (.inr (some sq))), (1, .inr (.inr (some m))), (0, .inr (.inr (some 169)))], [.inl (0 : Int32)], H13) _
        refine mw_if (P := (0 : Int32) = 0) (a := 75) (b := 81) (fun _ => rfl) trivial (fun h4 => ?_) (fun h4 => absurd rfl h4)
        refine mw_go mu_g490 (k := 2) (f1 := (78, [(3, .inr (.inr (some wx))), (2, .inr (.inr (some sq))), (1, .inr (.inr (some m))), (0, .inr (.inr (some 169)))], [.inr (.inr (some 1000009)), .inr (.inr (some 169))], H13)) (C := []) rfl trivial ?_
        refine mw_cX (as := [.inr (.inr (some (1000000 + 9)))]) (o := some 169) (S1 := []) rfl rfl rfl rfl (Nat.le_of_ble_eq_true rfl) (by decide) s13.is rfl (rp_expect s13 (by omega) (j := 9) (by decide)) (fun H14 e => ?_) (fun v H14 e => ?_)
        · obtain ⟨e1, e2⟩ := e
          have hpx := gex_no hpx e1
          exact Or.inl ⟨_, rfl, _, hpx, (p13.bd e2).wk (by omega)⟩
        obtain ⟨rfl, e14, F14, s14, f14⟩ := e
        have hpx := gex_ye hpx e14
        have st14 : pot n (adv T n (adv T n (adv T n (adv T n t)))) + ((adv T n (adv T n (adv T n (adv T n t)))).2.2 - (adv T n (adv T n (adv T n t))).2.2 + 4) + 15 ≤ pot n (adv T n (adv T n (adv T n t))) := pot_step (T := T) s13.tkf.2.2 (tis_ne e14)
        have f14 : pfr ((adv T n (adv T n (adv T n (adv T n t)))).2.2 - (adv T n (adv T n (adv T n t))).2.2 + 4) F13 F14 H13 H14 := f14
        have y14 := y13.keep s13 f14
        have kt14 := kt13.tr (ktf.pf s13 f14)
        have md14 := (ktf.pf s13 f14).2.2.1 _ _ _ _ md13
        have ws14_0 := ws13_0.keep s13 f14
        have ws14_1 := ws13_1.keep s13 f14
        have ws14_2 := ws13.keep s13 f14
        have zm14 := f14.z
        have u14_0 := u13_0.keep s13 g200 f14
        have p14 := p13.tr f14
        have z14 := p14.z
        have s14 : pst T n (adv T n (adv T n (adv T n (adv T n t)))) dep F14 H14 := s14
        show mu_W _ mu_m490 (81, [(3, .inr (.inr (some wx))), (2, .inr (.inr (some sq))), (1, .inr (.inr (some m))), (0, .inr (.inr (some 169)))], [], H14) _
        refine mw_go mu_g490 (k := 2) (f1 := (84, [(3, .inr (.inr (some wx))), (2, .inr (.inr (some sq))), (1, .inr (.inr (some m))), (0, .inr (.inr (some 169)))], [.inr (.inr (some 1000003)), .inr (.inr (some 169))], H14)) (C := []) rfl trivial ?_
        refine mw_cX (as := [.inr (.inr (some (1000000 + 3)))]) (o := some 169) (S1 := []) rfl rfl rfl rfl (Nat.le_of_ble_eq_true rfl) (by decide) s14.is rfl (rp_expect s14 (by omega) (j := 3) (by decide)) (fun H15 e => ?_) (fun v H15 e => ?_)
        · obtain ⟨e1, e2⟩ := e
          have hpx := gex_no hpx e1
          exact Or.inl ⟨_, rfl, _, hpx, (p14.bd e2).wk (by omega)⟩
        obtain ⟨rfl, e15, F15, s15, f15⟩ := e
        have hpx := gex_ye hpx e15
        have st15 : pot n (adv T n (adv T n (adv T n (adv T n (adv T n t))))) + ((adv T n (adv T n (adv T n (adv T n (adv T n t))))).2.2 - (adv T n (adv T n (adv T n (adv T n t)))).2.2 + 4) + 15 ≤ pot n (adv T n (adv T n (adv T n (adv T n t)))) := pot_step (T := T) s14.tkf.2.2 (tis_ne e15)
        have f15 : pfr ((adv T n (adv T n (adv T n (adv T n (adv T n t))))).2.2 - (adv T n (adv T n (adv T n (adv T n t)))).2.2 + 4) F14 F15 H14 H15 := f15
        have y15 := y14.keep s14 f15
        have kt15 := kt14.tr (ktf.pf s14 f15)
        have md15 := (ktf.pf s14 f15).2.2.1 _ _ _ _ md14
        have ws15_0 := ws14_0.keep s14 f15
        have ws15_1 := ws14_1.keep s14 f15
        have ws15_2 := ws14_2.keep s14 f15
        have zm15 := f15.z
        have u15_0 := u14_0.keep s14 g200 f15
        have p15 := p14.tr f15
        have z15 := p15.z
        have s15 : pst T n (adv T n (adv T n (adv T n (adv T n (adv T n t))))) dep F15 H15 := s15
        show mu_W _ mu_m490 (87, [(3, .inr (.inr (some wx))), (2, .inr (.inr (some sq))), (1, .inr (.inr (some m))), (0, .inr (.inr (some 169)))], [], H15) _
        refine mw_go mu_g490 (k := 2) (f1 := (91, [(3, .inr (.inr (some wx))), (2, .inr (.inr (some sq))), (1, .inr (.inr (some m))), (0, .inr (.inr (some 169)))], [.inr (.inr (mu_r H15 m 2))], H15)) (C := [mu_is H15 (some m) 17]) rfl (show mu_is H15 (some m) 17 from md15.2.1.1) ?_
        refine mw_fr (f' := (91, [(3, .inr (.inr (some wx))), (2, .inr (.inr (some sq))), (1, .inr (.inr (some m))), (0, .inr (.inr (some 169)))], [.inr (.inr (some q))], H15)) (by first | (rw [md15.2.2.2.2]; done) | (rw [md15.2.2.2.2]; rfl)) ?_
        refine mw_go mu_g490 (k := 4) (f1 := (95, [(3, .inr (.inr (some wx))), (2, .inr (.inr (some sq))), (1, .inr (.inr (some m))), (0, .inr (.inr (some 169)))], [.inr (.inr (some 169)), .inr (.inr (some wx)), .inr (.inr (some sq)), .inr (.inr (some 169)), .inr (.inr (some q))], H15)) (C := []) rfl trivial ?_
        obtain ⟨r16, hr16⟩ := gbi_some hpx
        refine mw_cX (as := []) (o := some 169) (S1 := [.inr (.inr (some wx)), .inr (.inr (some sq)), .inr (.inr (some 169)), .inr (.inr (some q))]) rfl rfl rfl rfl (Nat.le_of_ble_eq_true rfl) (by decide) s15.is rfl (show mu_TX (mu_D (d + 6 * (150 - dep) + 14)) _ _ _ _ _ from by rw [show d + 6 * (150 - dep) + 14 = (d + 2) + 6 * (150 - dep) + 12 by omega]; exact hP11 f (Nat.le_refl _) (d + 2) dep _ F15 H15 r16 s15 (by omega) hr16) (fun H16 e => ?_) (fun v H16 e => ?_)
        · obtain ⟨e', e1, e2⟩ := e
          rw [hr16, e1] at hpx
          have hpx := gbi_inl hpx
          exact Or.inl ⟨_, rfl, _, hpx, (p15.bd e2).wk (by omega)⟩
        obtain ⟨cy, ty, qy, F16, rfl, e1, s16, n16, w16, f16⟩ := e
        rw [hr16, e1] at hpx
        have hpx := gbi_inr hpx
        have y16 := y15.keep s15 f16
        have kt16 := kt15.tr (ktf.pf s15 f16)
        have md16 := (ktf.pf s15 f16).2.2.1 _ _ _ _ md15
        have ws16_0 := ws15_0.keep s15 f16
        have ws16_1 := ws15_1.keep s15 f16
        have ws16_2 := ws15_2.keep s15 f16
        have zm16 := f16.z
        have u16_0 := u15_0.keep s15 g200 f16
        have p16 := p15.tr f16
        have z16 := p16.z
        show mu_W _ mu_m490 (98, [(3, .inr (.inr (some wx))), (2, .inr (.inr (some sq))), (1, .inr (.inr (some m))), (0, .inr (.inr (some 169)))], [.inr (.inr (some qy)), .inr (.inr (some wx)), .inr (.inr (some sq)), .inr (.inr (some 169)), .inr (.inr (some q))], H16) _
        refine mw_cA (fun _ => rfl) (show mu_is H16 (some 169) 1 from s16.is) (rp_named1 (f := f + 2) s16 ws16_1 (by decide) ws16_2 (by omega) (n16.le (by omega))) (fun v H17 q17 => ?_)
        obtain ⟨qz, F17, rfl, s17, n17, f17⟩ := q17
        have y17 := y16.keep s16 f17
        have kt17 := kt16.tr (ktf.pf s16 f17)
        have md17 := (ktf.pf s16 f17).2.2.1 _ _ _ _ md16
        have ws17_0 := ws16_0.keep s16 f17
        have ws17_1 := ws16_1.keep s16 f17
        have zm17 := f17.z
        have u17_0 := u16_0.keep s16 g200 f17
        have p17 := p16.tr f17
        have z17 := p17.z
        show mu_W _ mu_m490 (101, [(3, .inr (.inr (some wx))), (2, .inr (.inr (some sq))), (1, .inr (.inr (some m))), (0, .inr (.inr (some 169)))], [.inr (.inr (some qz)), .inr (.inr (some q))], H17) _
        have cp18 := u17_0.cap
        have wr18 := u17_0.wr y17 g200
        refine mw_cA (fun _ => rfl) (show mu_is H17 (some q) 18 from u17_0.is) (nd_addW u17_0 s17 g200 (n17.le (by omega)) (by omega) (by omega)) (fun r H18 q18 => ?_)
        obtain ⟨rfl, kn18, a18, c_18, v18, s18, hc18, k18, kx18, ax18⟩ := q18
        have cq18 := v18.cap
        simp only [List.length_append, List.length_cons, List.length_nil] at cp18 cq18
        have p18 := p17.kp k18 (fun p z => z) (by omega) (by omega)
        have z18 := p18.z
        have y18 := y17.kp kx18 (fun p z => (wr18 p z).1) (fun p z => (wr18 p z).2) (by have := s17.1.1; omega)
        have kk18 := ktf.kp kx18 (fun p z => ⟨(wr18 p z).1.1, (wr18 p z).1.2.2⟩)
        have kt18 := kt17.tr kk18
        have ws18_0 := kk18.2.1 _ _ ws17_0
        have ws18_1 := kk18.2.1 _ _ ws17_1
        have md18 := kk18.2.2.1 _ _ _ _ md17
        show mu_W _ mu_m490 (104, [(3, .inr (.inr (some wx))), (2, .inr (.inr (some sq))), (1, .inr (.inr (some m))), (0, .inr (.inr (some 169)))], [.inr (.inr (some q))], H18) _
        refine mw_go mu_g490 (k := 1) (f1 := (106, [(4, .inr (.inr (some q))), (3, .inr (.inr (some wx))), (2, .inr (.inr (some sq))), (1, .inr (.inr (some m))), (0, .inr (.inr (some 169)))], [], H18)) (C := []) rfl trivial ?_
        refine mw_go mu_g490 (k := 2) (f1 := (109, [(4, .inr (.inr (some q))), (3, .inr (.inr (some wx))), (2, .inr (.inr (some sq))), (1, .inr (.inr (some m))), (0, .inr (.inr (some 169)))], [.inr (.inr (some 1000015)), .inr (.inr (some 169))], H18)) (C := []) rfl trivial ?_
        refine mw_cX (as := [.inr (.inr (some (1000000 + 15)))]) (o := some 169) (S1 := []) rfl rfl rfl rfl (Nat.le_of_ble_eq_true rfl) (by decide) s18.is rfl (rp_expect s18 (by omega) (j := 15) (by decide)) (fun H19 e => ?_) (fun v H19 e => ?_)
        · obtain ⟨e1, e2⟩ := e
          have hpx := gex_no hpx e1
          exact Or.inl ⟨_, rfl, _, hpx, (p18.bd e2).wk (by omega)⟩
        obtain ⟨rfl, e19, F19, s19, f19⟩ := e
        have hpx := gex_ye hpx e19
        have st19 : pot n (adv T n ty) + ((adv T n ty).2.2 - ty.2.2 + 4) + 15 ≤ pot n ty := pot_step (T := T) s18.tkf.2.2 (tis_ne e19)
        have f19 : pfr ((adv T n ty).2.2 - ty.2.2 + 4) F17 F19 H18 H19 := f19
        have y19 := y18.keep s18 f19
        have kt19 := kt18.tr (ktf.pf s18 f19)
        have md19 := (ktf.pf s18 f19).2.2.1 _ _ _ _ md18
        have ws19_0 := ws18_0.keep s18 f19
        have ws19_1 := ws18_1.keep s18 f19
        have zm19 := f19.z
        have u19_0 := v18.keep s18 g200 f19
        have p19 := p18.tr f19
        have z19 := p19.z
        have s19 : pst T n (adv T n ty) dep F19 H19 := s19
        show mu_W _ mu_m490 (112, [(4, .inr (.inr (some q))), (3, .inr (.inr (some wx))), (2, .inr (.inr (some sq))), (1, .inr (.inr (some m))), (0, .inr (.inr (some 169)))], [], H19) _
        refine mw_go mu_g490 (k := 1) (f1 := (0, [(4, .inr (.inr (some q))), (3, .inr (.inr (some wx))), (2, .inr (.inr (some sq))), (1, .inr (.inr (some m))), (0, .inr (.inr (some 169)))], [], H19)) (C := []) rfl trivial ?_
        refine mw_sub (L' := [(1, .inr (.inr (some m))), (0, .inr (.inr (some 169)))]) (by simp) ?_
        refine rp_asgnL hff hz g200 hP11 g _ _ _ _ _ ⟨_, _, _, _, _, s19, y19, u19_0, p19, kt19, ?_⟩ md19 ws19_0 hpx
        simp only [List.length_append, List.length_cons, List.length_nil]
        omega
    · -- 25
      have hpx := ite_no hpx h1
      refine mw_go mu_g490 (k := 1) (f1 := (26, [(1, .inr (.inr (some m))), (0, .inr (.inr (some 169)))], [.inr (.inr (some 169))], H)) (C := []) rfl trivial ?_
      refine mw_cIe (fun _ => rfl) (show mu_is H (some 169) 1 from hs.is) (rp_atName hs) ?_
      refine mw_if (P := (nmz T t) = 0) (a := 38) (b := 32) (fun _ => rfl) trivial (fun h2 => absurd h2 h1) (fun h2 => ?_)
      refine mw_go mu_g490 (k := 4) (f1 := (44, [(2, .inr (.inr (some 1000075))), (1, .inr (.inr (some m))), (0, .inr (.inr (some 169)))], [.inr (.inr (some 169))], H)) (C := []) rfl trivial ?_
      refine mw_cIe (fun _ => rfl) (show mu_is H (some 169) 1 from hs.is) (rp_atName hs) ?_
      refine mw_if (P := (nmz T t) = 0) (a := 50) (b := 60) (fun _ => rfl) trivial (fun h3 => absurd h3 h1) (fun h3 => ?_)
      refine mw_go mu_g490 (k := 1) (f1 := (61, [(2, .inr (.inr (some 1000075))), (1, .inr (.inr (some m))), (0, .inr (.inr (some 169)))], [.inr (.inr (some 169))], H)) (C := []) rfl trivial ?_
      have ht11 : (t).1 ≠ 0 ∧ (t).1 ≠ 1 := by rw [nmz_2 h1]; decide
      have st11 : pot n (adv T n t) + ((adv T n t).2.2 - t.2.2 + 4) + 15 ≤ pot n t := pot_step (T := T) hs.tkf.2.2 ht11
      refine mw_cX (as := []) (o := some 169) (S1 := []) rfl rfl rfl rfl (Nat.le_of_ble_eq_true rfl) (by decide) hs.is rfl (rp_name hs (by omega)) (fun H11 e => absurd e.1 h1) (fun v H11 e => ?_)
      obtain ⟨_, wx, F11, rfl, ws11, s11, f11⟩ := e
      have f11 : pfr ((adv T n t).2.2 - t.2.2 + 4) F F11 H H11 := f11
      have y11 := hy.keep hs f11
      have kt11 := hk.tr (ktf.pf hs f11)
      have md11 := (ktf.pf hs f11).2.2.1 _ _ _ _ hmd
      have ws11_0 := hl75.keep hs f11
      have zm11 := f11.z
      have u11_0 := hu.keep hs g200 f11
      have p11 := hp.tr f11
      have z11 := p11.z
      have s11 : pst T n (adv T n t) dep F11 H11 := s11
      show mu_W _ mu_m490 (64, [(2, .inr (.inr (some 1000075))), (1, .inr (.inr (some m))), (0, .inr (.inr (some 169)))], [.inr (.inr (some wx))], H11) _
      refine mw_go mu_g490 (k := 3) (f1 := (69, [(3, .inr (.inr (some wx))), (2, .inr (.inr (some 1000075))), (1, .inr (.inr (some m))), (0, .inr (.inr (some 169)))], [.inr (.inr (some 1000075)), .inr (.inr (some 1000075))], H11)) (C := []) rfl trivial ?_
      refine mw_cS rfl (by decide) ws11_0.1.1 (sb_equals (d := _) ws11_0.1 ws11_0.1 (Nat.lt_trans ws11_0.2.2 (by decide)) (Nat.lt_trans ws11_0.2.2 (by decide))) (fun x H9 q9 => ?_)
      rw [q9.1, q9.2, if_pos rfl]
      show mu_W _ mu_m490 (72, [(3, .inr (.inr (some wx))), (2, .inr (.inr (some 1000075))), (1, .inr (.inr (some m))), (0, .inr (.inr (some 169)))], [.inl (1 : Int32)], H11) _
      refine mw_if (P := (1 : Int32) = 0) (a := 75) (b := 81) (fun _ => rfl) trivial (fun h4 => absurd h4 (by decide)) (fun h4 => ?_)
      refine mw_go mu_g490 (k := 2) (f1 := (84, [(3, .inr (.inr (some wx))), (2, .inr (.inr (some 1000075))), (1, .inr (.inr (some m))), (0, .inr (.inr (some 169)))], [.inr (.inr (some 1000003)), .inr (.inr (some 169))], H11)) (C := []) rfl trivial ?_
      refine mw_cX (as := [.inr (.inr (some (1000000 + 3)))]) (o := some 169) (S1 := []) rfl rfl rfl rfl (Nat.le_of_ble_eq_true rfl) (by decide) s11.is rfl (rp_expect s11 (by omega) (j := 3) (by decide)) (fun H12 e => ?_) (fun v H12 e => ?_)
      · obtain ⟨e1, e2⟩ := e
        have hpx := gex_no hpx e1
        exact Or.inl ⟨_, rfl, _, hpx, (p11.bd e2).wk (by omega)⟩
      obtain ⟨rfl, e12, F12, s12, f12⟩ := e
      have hpx := gex_ye hpx e12
      have st12 : pot n (adv T n (adv T n t)) + ((adv T n (adv T n t)).2.2 - (adv T n t).2.2 + 4) + 15 ≤ pot n (adv T n t) := pot_step (T := T) s11.tkf.2.2 (tis_ne e12)
      have f12 : pfr ((adv T n (adv T n t)).2.2 - (adv T n t).2.2 + 4) F11 F12 H11 H12 := f12
      have y12 := y11.keep s11 f12
      have kt12 := kt11.tr (ktf.pf s11 f12)
      have md12 := (ktf.pf s11 f12).2.2.1 _ _ _ _ md11
      have ws12_0 := ws11_0.keep s11 f12
      have ws12_1 := ws11.keep s11 f12
      have zm12 := f12.z
      have u12_0 := u11_0.keep s11 g200 f12
      have p12 := p11.tr f12
      have z12 := p12.z
      have s12 : pst T n (adv T n (adv T n t)) dep F12 H12 := s12
      show mu_W _ mu_m490 (87, [(3, .inr (.inr (some wx))), (2, .inr (.inr (some 1000075))), (1, .inr (.inr (some m))), (0, .inr (.inr (some 169)))], [], H12) _
      refine mw_go mu_g490 (k := 2) (f1 := (91, [(3, .inr (.inr (some wx))), (2, .inr (.inr (some 1000075))), (1, .inr (.inr (some m))), (0, .inr (.inr (some 169)))], [.inr (.inr (mu_r H12 m 2))], H12)) (C := [mu_is H12 (some m) 17]) rfl (show mu_is H12 (some m) 17 from md12.2.1.1) ?_
      refine mw_fr (f' := (91, [(3, .inr (.inr (some wx))), (2, .inr (.inr (some 1000075))), (1, .inr (.inr (some m))), (0, .inr (.inr (some 169)))], [.inr (.inr (some q))], H12)) (by first | (rw [md12.2.2.2.2]; done) | (rw [md12.2.2.2.2]; rfl)) ?_
      refine mw_go mu_g490 (k := 4) (f1 := (95, [(3, .inr (.inr (some wx))), (2, .inr (.inr (some 1000075))), (1, .inr (.inr (some m))), (0, .inr (.inr (some 169)))], [.inr (.inr (some 169)), .inr (.inr (some wx)), .inr (.inr (some 1000075)), .inr (.inr (some 169)), .inr (.inr (some q))], H12)) (C := []) rfl trivial ?_
      obtain ⟨r13, hr13⟩ := gbi_some hpx
      refine mw_cX (as := []) (o := some 169) (S1 := [.inr (.inr (some wx)), .inr (.inr (some 1000075)), .inr (.inr (some 169)), .inr (.inr (some q))]) rfl rfl rfl rfl (Nat.le_of_ble_eq_true rfl) (by decide) s12.is rfl (show mu_TX (mu_D (d + 6 * (150 - dep) + 14)) _ _ _ _ _ from by rw [show d + 6 * (150 - dep) + 14 = (d + 2) + 6 * (150 - dep) + 12 by omega]; exact hP11 f (Nat.le_refl _) (d + 2) dep _ F12 H12 r13 s12 (by omega) hr13) (fun H13 e => ?_) (fun v H13 e => ?_)
      · obtain ⟨e', e1, e2⟩ := e
        rw [hr13, e1] at hpx
        have hpx := gbi_inl hpx
        exact Or.inl ⟨_, rfl, _, hpx, (p12.bd e2).wk (by omega)⟩
      obtain ⟨cy, ty, qy, F13, rfl, e1, s13, n13, w13, f13⟩ := e
      rw [hr13, e1] at hpx
      have hpx := gbi_inr hpx
      have y13 := y12.keep s12 f13
      have kt13 := kt12.tr (ktf.pf s12 f13)
      have md13 := (ktf.pf s12 f13).2.2.1 _ _ _ _ md12
      have ws13_0 := ws12_0.keep s12 f13
      have ws13_1 := ws12_1.keep s12 f13
      have zm13 := f13.z
      have u13_0 := u12_0.keep s12 g200 f13
      have p13 := p12.tr f13
      have z13 := p13.z
      show mu_W _ mu_m490 (98, [(3, .inr (.inr (some wx))), (2, .inr (.inr (some 1000075))), (1, .inr (.inr (some m))), (0, .inr (.inr (some 169)))], [.inr (.inr (some qy)), .inr (.inr (some wx)), .inr (.inr (some 1000075)), .inr (.inr (some 169)), .inr (.inr (some q))], H13) _
      refine mw_cA (fun _ => rfl) (show mu_is H13 (some 169) 1 from s13.is) (rp_named1 (f := f + 2) s13 ws13_0 (by decide) ws13_1 (by omega) (n13.le (by omega))) (fun v H14 q14 => ?_)
      obtain ⟨qz, F14, rfl, s14, n14, f14⟩ := q14
      have y14 := y13.keep s13 f14
      have kt14 := kt13.tr (ktf.pf s13 f14)
      have md14 := (ktf.pf s13 f14).2.2.1 _ _ _ _ md13
      have ws14_0 := ws13_0.keep s13 f14
      have zm14 := f14.z
      have u14_0 := u13_0.keep s13 g200 f14
      have p14 := p13.tr f14
      have z14 := p14.z
      show mu_W _ mu_m490 (101, [(3, .inr (.inr (some wx))), (2, .inr (.inr (some 1000075))), (1, .inr (.inr (some m))), (0, .inr (.inr (some 169)))], [.inr (.inr (some qz)), .inr (.inr (some q))], H14) _
      have cp15 := u14_0.cap
      have wr15 := u14_0.wr y14 g200
      refine mw_cA (fun _ => rfl) (show mu_is H14 (some q) 18 from u14_0.is) (nd_addW u14_0 s14 g200 (n14.le (by omega)) (by omega) (by omega)) (fun r H15 q15 => ?_)
      obtain ⟨rfl, kn15, a15, c_15, v15, s15, hc15, k15, kx15, ax15⟩ := q15
      have cq15 := v15.cap
      simp only [List.length_append, List.length_cons, List.length_nil] at cp15 cq15
      have p15 := p14.kp k15 (fun p z => z) (by omega) (by omega)
      have z15 := p15.z
      have y15 := y14.kp kx15 (fun p z => (wr15 p z).1) (fun p z => (wr15 p z).2) (by have := s14.1.1; omega)
      have kk15 := ktf.kp kx15 (fun p z => ⟨(wr15 p z).1.1, (wr15 p z).1.2.2⟩)
      have kt15 := kt14.tr kk15
      have ws15_0 := kk15.2.1 _ _ ws14_0
      have md15 := kk15.2.2.1 _ _ _ _ md14
      show mu_W _ mu_m490 (104, [(3, .inr (.inr (some wx))), (2, .inr (.inr (some 1000075))), (1, .inr (.inr (some m))), (0, .inr (.inr (some 169)))], [.inr (.inr (some q))], H15) _
      refine mw_go mu_g490 (k := 1) (f1 := (106, [(4, .inr (.inr (some q))), (3, .inr (.inr (some wx))), (2, .inr (.inr (some 1000075))), (1, .inr (.inr (some m))), (0, .inr (.inr (some 169)))], [], H15)) (C := []) rfl trivial ?_
      refine mw_go mu_g490 (k := 2) (f1 := (109, [(4, .inr (.inr (some q))), (3, .inr (.inr (some wx))), (2, .inr (.inr (some 1000075))), (1, .inr (.inr (some m))), (0, .inr (.inr (some 169)))], [.inr (.inr (some 1000015)), .inr (.inr (some 169))], H15)) (C := []) rfl trivial ?_
      refine mw_cX (as := [.inr (.inr (some (1000000 + 15)))]) (o := some 169) (S1 := []) rfl rfl rfl rfl (Nat.le_of_ble_eq_true rfl) (by decide) s15.is rfl (rp_expect s15 (by omega) (j := 15) (by decide)) (fun H16 e => ?_) (fun v H16 e => ?_)
      · obtain ⟨e1, e2⟩ := e
        have hpx := gex_no hpx e1
        exact Or.inl ⟨_, rfl, _, hpx, (p15.bd e2).wk (by omega)⟩
      obtain ⟨rfl, e16, F16, s16, f16⟩ := e
      have hpx := gex_ye hpx e16
      have st16 : pot n (adv T n ty) + ((adv T n ty).2.2 - ty.2.2 + 4) + 15 ≤ pot n ty := pot_step (T := T) s15.tkf.2.2 (tis_ne e16)
      have f16 : pfr ((adv T n ty).2.2 - ty.2.2 + 4) F14 F16 H15 H16 := f16
      have y16 := y15.keep s15 f16
      have kt16 := kt15.tr (ktf.pf s15 f16)
      have md16 := (ktf.pf s15 f16).2.2.1 _ _ _ _ md15
      have ws16_0 := ws15_0.keep s15 f16
      have zm16 := f16.z
      have u16_0 := v15.keep s15 g200 f16
      have p16 := p15.tr f16
      have z16 := p16.z
      have s16 : pst T n (adv T n ty) dep F16 H16 := s16
      show mu_W _ mu_m490 (112, [(4, .inr (.inr (some q))), (3, .inr (.inr (some wx))), (2, .inr (.inr (some 1000075))), (1, .inr (.inr (some m))), (0, .inr (.inr (some 169)))], [], H16) _
      refine mw_go mu_g490 (k := 1) (f1 := (0, [(4, .inr (.inr (some q))), (3, .inr (.inr (some wx))), (2, .inr (.inr (some 1000075))), (1, .inr (.inr (some m))), (0, .inr (.inr (some 169)))], [], H16)) (C := []) rfl trivial ?_
      refine mw_sub (L' := [(1, .inr (.inr (some m))), (0, .inr (.inr (some 169)))]) (by simp) ?_
      refine rp_asgnL hff hz g200 hP11 g _ _ _ _ _ ⟨_, _, _, _, _, s16, y16, u16_0, p16, kt16, ?_⟩ md16 ws16_0 hpx
      simp only [List.length_append, List.length_cons, List.length_nil]
      omega
theorem rp_asgn {T : Nat → Int32} {n f ff d dep B q s m w pp : Nat} {F0 Fs : Nat → Prop} {H0 Hs : mu_H} {res : Nat ⊕ (List Tre × List (List Int32) × Tok)} (hff : f + 3 ≤ ff) (hz : mu_z H0 + B + 200 ≤ 1000000) (g200 : 200 < mu_z H0) {g : Nat} {F : Nat → Prop} {H : mu_H} {t : Tok} {cs : List Tre} {sy : List (List Int32)} (hm : mmk T n dep ff H0 F0 Hs Fs B q s t F H cs sy) (hmd : mdo H F m w pp q) (hpx : mxA T n f dep g cs sy t = some res) : mu_TX (mu_D (d + 6 * (150 - dep) + 15)) 490 [.inr (.inr (some 169)), .inr (.inr (some m))] H (fun H1 => ∃ e, res = .inl e ∧ qbd T n e (B + 100) H0 H1) (fun v H1 => ∃ cs1 sy1 t1 F1, v = none ∧ res = .inr (cs1, sy1, t1) ∧ mmk T n dep ff H0 F0 Hs Fs B q s t1 F1 H1 cs1 sy1) := by
  have hP11 : ∀ g, g ≤ f → pct T n g 11 503 12 := fun g _ => (px_ok g).2.2.2.2.2.2.2.2.2.2.2
  refine mu_MT.ot fun hot => ?_
  refine mu_meth (M := mu_m490) rfl rfl ?_
  refine mw_ht (mu_fn_of (show [0, 1].Nodup by decide)) ?_
  show mu_W _ mu_m490 (0, [(0, .inr (.inr (some 169))), (1, .inr (.inr (some m)))], [], H) _
  refine mw_sub (L' := [(1, .inr (.inr (some m))), (0, .inr (.inr (some 169)))]) (by simp) ?_
  exact rp_asgnL hff hz g200 hP11 g _ _ _ _ _ hm hmd (stf.lit hot (by decide)) hpx
