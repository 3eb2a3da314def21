/-! The reference: module, what stands in it -/
/-- PathProverModel.module()LPathProverModel$Module; -/
abbrev mu_m53 : ev_M := (5, (some (.object "PathProverModel$Module")), [], ev_b53)
theorem mu_g53 : mu_good mu_m53 := mu_goodk ev_k53
theorem qbi_some {β : Type} {r : QR} {k : List Tre → List (List Int32) → Tok → Option (Nat ⊕ β)} {res : Nat ⊕ β} (h : qbi r k = some res) : ∃ r', r = some r' := by
  cases r with
  | none => cases h
  | some r => exact ⟨r, rfl⟩
theorem qbi_inl {β : Type} {k : List Tre → List (List Int32) → Tok → Option (Nat ⊕ β)} {res : Nat ⊕ β} {e : Nat} (h : qbi (some (.inl e)) k = some res) : res = .inl e := (Option.some.inj h).symm
theorem qbi_inr {β : Type} {k : List Tre → List (List Int32) → Tok → Option (Nat ⊕ β)} {res : Nat ⊕ β} {cs : List Tre} {sy : List (List Int32)} {t : Tok} (h : qbi (some (.inr (cs, sy, t))) k = some res) : k cs sy t = some res := h
theorem rp_modE {T : Nat → Int32} {n f ff d dep B q s m w pp : Nat} {nm : List Int32} {ps : List Tre} {F0 Fs : Nat → Prop} {H0 Hs : mu_H} {res : Nat ⊕ (Mdl × List (List Int32) × Tok)} (hff : f + 3 ≤ ff) (hz : mu_z H0 + B + 200 ≤ 1000000) (g200 : 200 < mu_z H0) (hmS : mdo Hs Fs m w pp q) (hwS : stf Hs Fs w nm) (hpS : nd Hs Fs (ff + 1) pp (tmk 62 0 [] ps)) (hlS : ∀ j, j < 79 → stf Hs Fs (1000000 + j) (txt j)) {g : Nat} (ih : ∀ F H t cs sy, mmk T n dep ff H0 F0 Hs Fs B q s t F H cs sy → mxP T n f dep nm ps g cs sy t = some res → mu_W (mu_D (d + 6 * (150 - dep) + 16)) mu_m53 (93, [(1, .inr (.inr (some m))), (0, .inr (.inr (some 169)))], [], H) (fun r => (∃ H1, r = (.inr 0, H1) ∧ ∃ e, res = .inl e ∧ qbd T n e (B + 100) H0 H1) ∨ ∃ v H1, r = (.inl v, H1) ∧ ∃ y sy1 t1 F1 A1 cap1, v = some (.inr (.inr (some m))) ∧ res = .inr (y, sy1, t1) ∧ pst T n t1 dep F1 H1 ∧ syr H1 F1 cap1 sy1 ∧ mdf H1 F1 (ff + 1) m y ∧ qfr A1 F0 F1 H0 H1 ∧ A1 + 2 * sy1.length + pot n t1 ≤ B + 2 + cap1)) {j : Nat} {F : Nat → Prop} {H : mu_H} {t : Tok} {cs : List Tre} {sy : List (List Int32)} (hm : mmk T n dep ff H0 F0 Hs Fs B q s t F H cs sy) (hj : 34 ≤ j ∧ j ≤ 38) (hej : ¬ tis T t (txt j) = 0) (hpx : (gbi (px T n f 0 dep [] (adv T n t)) fun c t1 => gex T n 15 t1 fun t2 => mxP T n f dep nm ps g (cs ++ [tmk j 0 [txt 76] [c]]) sy t2) = some res) : mu_W (mu_D (d + 6 * (150 - dep) + 16)) mu_m53 (182, [(1, .inr (.inr (some m))), (0, .inr (.inr (some 169)))], [.inr (.inr (some 169))], H) (fun r => (∃ H1, r = (.inr 0, H1) ∧ ∃ e, res = .inl e ∧ qbd T n e (B + 100) H0 H1) ∨ ∃ v H1, r = (.inl v, H1) ∧ ∃ y sy1 t1 F1 A1 cap1, v = some (.inr (.inr (some m))) ∧ res = .inr (y, sy1, t1) ∧ pst T n t1 dep F1 H1 ∧ syr H1 F1 cap1 sy1 ∧ mdf H1 F1 (ff + 1) m y ∧ qfr A1 F0 F1 H0 H1 ∧ A1 + 2 * sy1.length + pot n t1 ≤ B + 2 + cap1) := by
  obtain ⟨A, a, c, cap, qs, hs, hy, hu, hp, hk, hA⟩ := hm
  have hcap := hu.cap
  have hcy := hy.cp
  have hAz := hp.z
  have hd0 := hs.2.2.2.1.2
  have hmd := hk.2.2.1 _ _ _ _ hmS
  have hP0 : ∀ g, g ≤ f → pct T n g 0 491 14 := fun g _ => (px_ok g).1
  have hj28 : 28 ≤ j ∧ j < 56 := by omega
  refine mw_go mu_g53 (k := 2) (f1 := (187, [(1, .inr (.inr (some m))), (0, .inr (.inr (some 169)))], [.inl (1 : Int32), .inr (.inr (some 169))], H)) (C := []) rfl trivial ?_
  refine mw_cX (as := [.inl (1 : Int32)]) (o := some 169) (S1 := []) rfl rfl rfl rfl (Nat.le_of_ble_eq_true rfl) (by decide) hs.is rfl (rp_can (x := 1)) (fun H9 e => absurd e.1 (by decide)) (fun v H9 e => ?_)
  obtain ⟨_, rfl, e9⟩ := e
  rw [e9]
  clear e9 H9
  obtain ⟨sq, w1, w2⟩ := hs.wst2 hj28 hej
  show mu_W _ mu_m53 (190, [(1, .inr (.inr (some m))), (0, .inr (.inr (some 169)))], [.inl (1 : Int32)], H) _
  refine mw_go mu_g53 (k := 4) (f1 := (196, [(3, .inr (.inr (mu_r H 169 11))), (2, .inl (1 : Int32)), (1, .inr (.inr (some m))), (0, .inr (.inr (some 169)))], [], H)) (C := [mu_is H (some 169) 1]) rfl (show mu_is H (some 169) 1 from hs.is) ?_
  refine mw_fr (f' := (196, [(3, .inr (.inr (some sq))), (2, .inl (1 : Int32)), (1, .inr (.inr (some m))), (0, .inr (.inr (some 169)))], [], H)) (by first | (rw [w1]; done) | (rw [w1]; rfl)) ?_
  refine mw_go mu_g53 (k := 1) (f1 := (197, [(3, .inr (.inr (some sq))), (2, .inl (1 : Int32)), (1, .inr (.inr (some m))), (0, .inr (.inr (some 169)))], [.inr (.inr (some 169))], H)) (C := []) rfl trivial ?_
  have st12 : pot n (adv T n t) + ((adv T n t).2.2 - t.2.2 + 4) + 15 ≤ pot n t := pot_step (T := T) hs.tkf.2.2 (tis_ne hej)
  refine mw_cV (fun _ => rfl) (show mu_is H (some 169) 1 from hs.is) (rp_advance hs (tis_ne hej) (by omega)) (fun H12 q12 => ?_)
  obtain ⟨F12, s12, f12⟩ := q12
  have f12 : pfr ((adv T n t).2.2 - t.2.2 + 4) F F12 H H12 := f12
  have y12 := hy.keep hs f12
  have kt12 := hk.tr (ktf.pf hs f12)
  have md12 := (ktf.pf hs f12).2.2.1 _ _ _ _ hmd
  have ws12_0 := w2.keep hs f12
  have zm12 := f12.z
  have u12_0 := hu.keep hs g200 f12
  have p12 := hp.tr f12
  have z12 := p12.z
  have s12 : pst T n (adv T n t) dep F12 H12 := s12
  show mu_W _ mu_m53 (200, [(3, .inr (.inr (some sq))), (2, .inl (1 : Int32)), (1, .inr (.inr (some m))), (0, .inr (.inr (some 169)))], [], H12) _
  refine mw_go mu_g53 (k := 2) (f1 := (203, [(3, .inr (.inr (some sq))), (2, .inl (1 : Int32)), (1, .inr (.inr (some m))), (0, .inr (.inr (some 169)))], [.inr (.inr (some 1000029)), .inr (.inr (some sq))], H12)) (C := []) rfl trivial ?_
  refine mw_cS rfl (by decide) ws12_0.1.1 (sb_equals (d := _) ws12_0.1 (kt12.2.1 _ _ (hlS 29 (by decide))).1 (Nat.lt_trans ws12_0.2.2 (by decide)) (Nat.lt_trans (kt12.2.1 _ _ (hlS 29 (by decide))).2.2 (by decide))) (fun x H9 q9 => ?_)
  rw [q9.1, q9.2, if_neg (fun z => absurd (txt_inj j (by omega) 29 (by decide) z) (by omega))]
  clear q9 H9
  show mu_W _ mu_m53 (206, [(3, .inr (.inr (some sq))), (2, .inl (1 : Int32)), (1, .inr (.inr (some m))), (0, .inr (.inr (some 169)))], [.inl (0 : Int32)], H12) _
  refine mw_if (P := (0 : Int32) = 0) (a := 217) (b := 209) (fun _ => rfl) trivial (fun h29 => ?_) (fun h29 => absurd rfl h29)
  refine mw_go mu_g53 (k := 2) (f1 := (220, [(3, .inr (.inr (some sq))), (2, .inl (1 : Int32)), (1, .inr (.inr (some m))), (0, .inr (.inr (some 169)))], [.inr (.inr (some 1000030)), .inr (.inr (some sq))], H12)) (C := []) rfl trivial ?_
  refine mw_cS rfl (by decide) ws12_0.1.1 (sb_equals (d := _) ws12_0.1 (kt12.2.1 _ _ (hlS 30 (by decide))).1 (Nat.lt_trans ws12_0.2.2 (by decide)) (Nat.lt_trans (kt12.2.1 _ _ (hlS 30 (by decide))).2.2 (by decide))) (fun x H9 q9 => ?_)
  rw [q9.1, q9.2, if_neg (fun z => absurd (txt_inj j (by omega) 30 (by decide) z) (by omega))]
  clear q9 H9
  show mu_W _ mu_m53 (223, [(3, .inr (.inr (some sq))), (2, .inl (1 : Int32)), (1, .inr (.inr (some m))), (0, .inr (.inr (some 169)))], [.inl (0 : Int32)], H12) _
  refine mw_if (P := (0 : Int32) = 0) (a := 234) (b := 226) (fun _ => rfl) trivial (fun h30 => ?_) (fun h30 => absurd rfl h30)
  refine mw_go mu_g53 (k := 2) (f1 := (237, [(3, .inr (.inr (some sq))), (2, .inl (1 : Int32)), (1, .inr (.inr (some m))), (0, .inr (.inr (some 169)))], [.inr (.inr (some 1000031)), .inr (.inr (some sq))], H12)) (C := []) rfl trivial ?_
  refine mw_cS rfl (by decide) ws12_0.1.1 (sb_equals (d := _) ws12_0.1 (kt12.2.1 _ _ (hlS 31 (by decide))).1 (Nat.lt_trans ws12_0.2.2 (by decide)) (Nat.lt_trans (kt12.2.1 _ _ (hlS 31 (by decide))).2.2 (by decide))) (fun x H9 q9 => ?_)
  rw [q9.1, q9.2, if_neg (fun z => absurd (txt_inj j (by omega) 31 (by decide) z) (by omega))]
  clear q9 H9
  show mu_W _ mu_m53 (240, [(3, .inr (.inr (some sq))), (2, .inl (1 : Int32)), (1, .inr (.inr (some m))), (0, .inr (.inr (some 169)))], [.inl (0 : Int32)], H12) _
  refine mw_if (P := (0 : Int32) = 0) (a := 251) (b := 243) (fun _ => rfl) trivial (fun h31 => ?_) (fun h31 => absurd rfl h31)
  refine mw_go mu_g53 (k := 2) (f1 := (255, [(3, .inr (.inr (some sq))), (2, .inl (1 : Int32)), (1, .inr (.inr (some m))), (0, .inr (.inr (some 169)))], [.inr (.inr (mu_r H12 m 2))], H12)) (C := [mu_is H12 (some m) 17]) rfl (show mu_is H12 (some m) 17 from md12.2.1.1) ?_
  refine mw_fr (f' := (255, [(3, .inr (.inr (some sq))), (2, .inl (1 : Int32)), (1, .inr (.inr (some m))), (0, .inr (.inr (some 169)))], [.inr (.inr (some q))], H12)) (by first | (rw [md12.2.2.2.2]; done) | (rw [md12.2.2.2.2]; rfl)) ?_
  refine mw_go mu_g53 (k := 4) (f1 := (261, [(3, .inr (.inr (some sq))), (2, .inl (1 : Int32)), (1, .inr (.inr (some m))), (0, .inr (.inr (some 169)))], [.inr (.inr (some 169)), .inr (.inr (some 1000076)), .inr (.inr (some sq)), .inr (.inr (some 169)), .inr (.inr (some q))], H12)) (C := []) rfl trivial ?_
  obtain ⟨r13, hr13⟩ := gbi_some hpx
  refine mw_cX (as := []) (o := some 169) (S1 := [.inr (.inr (some 1000076)), .inr (.inr (some sq)), .inr (.inr (some 169)), .inr (.inr (some q))]) rfl rfl rfl rfl (Nat.le_of_ble_eq_true rfl) (by decide) s12.is rfl (show mu_TX (mu_D (d + 6 * (150 - dep) + 16)) _ _ _ _ _ from by rw [show d + 6 * (150 - dep) + 16 = (d + 2) + 6 * (150 - dep) + 14 by omega]; exact hP0 f (Nat.le_refl _) (d + 2) dep _ F12 H12 r13 s12 (by omega) hr13) (fun H13 e => ?_) (fun v H13 e => ?_)
  · obtain ⟨e', e1, e2⟩ := e
    rw [hr13, e1] at hpx
    have hpx := gbi_inl hpx
    exact Or.inl ⟨_, rfl, _, hpx, (p12.bd e2).wk (by omega)⟩
  obtain ⟨cy, ty, qy, F13, rfl, e1, s13, n13, w13, f13⟩ := e
  rw [hr13, e1] at hpx
  have hpx := gbi_inr hpx
  have y13 := y12.keep s12 f13
  have kt13 := kt12.tr (ktf.pf s12 f13)
  have md13 := (ktf.pf s12 f13).2.2.1 _ _ _ _ md12
  have ws13_0 := ws12_0.keep s12 f13
  have zm13 := f13.z
  have u13_0 := u12_0.keep s12 g200 f13
  have p13 := p12.tr f13
  have z13 := p13.z
  show mu_W _ mu_m53 (264, [(3, .inr (.inr (some sq))), (2, .inl (1 : Int32)), (1, .inr (.inr (some m))), (0, .inr (.inr (some 169)))], [.inr (.inr (some qy)), .inr (.inr (some 1000076)), .inr (.inr (some sq)), .inr (.inr (some 169)), .inr (.inr (some q))], H13) _
  have l76 := kt13.2.1 _ _ (hlS 76 (by decide))
  refine mw_cA (fun _ => rfl) (show mu_is H13 (some 169) 1 from s13.is) (rp_named1 (f := f + 2) s13 ws13_0 (show j < 79 by omega) l76 (by omega) (n13.le (by omega))) (fun v H14 q14 => ?_)
  obtain ⟨qz, F14, rfl, s14, n14, f14⟩ := q14
  have y14 := y13.keep s13 f14
  have kt14 := kt13.tr (ktf.pf s13 f14)
  have md14 := (ktf.pf s13 f14).2.2.1 _ _ _ _ md13
  have ws14_0 := ws13_0.keep s13 f14
  have zm14 := f14.z
  have u14_0 := u13_0.keep s13 g200 f14
  have p14 := p13.tr f14
  have z14 := p14.z
  show mu_W _ mu_m53 (267, [(3, .inr (.inr (some sq))), (2, .inl (1 : Int32)), (1, .inr (.inr (some m))), (0, .inr (.inr (some 169)))], [.inr (.inr (some qz)), .inr (.inr (some q))], H14) _
  have cp15 := u14_0.cap
  have wr15 := u14_0.wr y14 g200
  refine mw_cA (fun _ => rfl) (show mu_is H14 (some q) 18 from u14_0.is) (nd_addW u14_0 s14 g200 (n14.le (by omega)) (by omega) (by omega)) (fun r H15 q15 => ?_)
  obtain ⟨rfl, kn15, a15, c_15, v15, s15, hc15, k15, kx15, ax15⟩ := q15
  have cq15 := v15.cap
  simp only [List.length_append, List.length_cons, List.length_nil] at cp15 cq15
  have p15 := p14.kp k15 (fun p z => z) (by omega) (by omega)
  have z15 := p15.z
  have y15 := y14.kp kx15 (fun p z => (wr15 p z).1) (fun p z => (wr15 p z).2) (by have := s14.1.1; omega)
  have kk15 := ktf.kp kx15 (fun p z => ⟨(wr15 p z).1.1, (wr15 p z).1.2.2⟩)
  have kt15 := kt14.tr kk15
  have ws15_0 := kk15.2.1 _ _ ws14_0
  have md15 := kk15.2.2.1 _ _ _ _ md14
  show mu_W _ mu_m53 (270, [(3, .inr (.inr (some sq))), (2, .inl (1 : Int32)), (1, .inr (.inr (some m))), (0, .inr (.inr (some 169)))], [.inr (.inr (some q))], H15) _
  refine mw_go mu_g53 (k := 1) (f1 := (272, [(4, .inr (.inr (some q))), (3, .inr (.inr (some sq))), (2, .inl (1 : Int32)), (1, .inr (.inr (some m))), (0, .inr (.inr (some 169)))], [], H15)) (C := []) rfl trivial ?_
  refine mw_go mu_g53 (k := 2) (f1 := (275, [(4, .inr (.inr (some q))), (3, .inr (.inr (some sq))), (2, .inl (1 : Int32)), (1, .inr (.inr (some m))), (0, .inr (.inr (some 169)))], [.inr (.inr (some 1000015)), .inr (.inr (some 169))], H15)) (C := []) rfl trivial ?_
  refine mw_cX (as := [.inr (.inr (some (1000000 + 15)))]) (o := some 169) (S1 := []) rfl rfl rfl rfl (Nat.le_of_ble_eq_true rfl) (by decide) s15.is rfl (rp_expect s15 (by omega) (j := 15) (by decide)) (fun H16 e => ?_) (fun v H16 e => ?_)
  · obtain ⟨e1, e2⟩ := e
    have hpx := gex_no hpx e1
    exact Or.inl ⟨_, rfl, _, hpx, (p15.bd e2).wk (by omega)⟩
  obtain ⟨rfl, e16, F16, s16, f16⟩ := e
  have hpx := gex_ye hpx e16
  have st16 : pot n (adv T n ty) + ((adv T n ty).2.2 - ty.2.2 + 4) + 15 ≤ pot n ty := pot_step (T := T) s15.tkf.2.2 (tis_ne e16)
  have f16 : pfr ((adv T n ty).2.2 - ty.2.2 + 4) F14 F16 H15 H16 := f16
  have y16 := y15.keep s15 f16
  have kt16 := kt15.tr (ktf.pf s15 f16)
  have md16 := (ktf.pf s15 f16).2.2.1 _ _ _ _ md15
  have ws16_0 := ws15_0.keep s15 f16
  have zm16 := f16.z
  have u16_0 := v15.keep s15 g200 f16
  have p16 := p15.tr f16
  have z16 := p16.z
  have s16 : pst T n (adv T n ty) dep F16 H16 := s16
  show mu_W _ mu_m53 (278, [(4, .inr (.inr (some q))), (3, .inr (.inr (some sq))), (2, .inl (1 : Int32)), (1, .inr (.inr (some m))), (0, .inr (.inr (some 169)))], [], H16) _
  refine mw_go mu_g53 (k := 1) (f1 := (93, [(4, .inr (.inr (some q))), (3, .inr (.inr (some sq))), (2, .inl (1 : Int32)), (1, .inr (.inr (some m))), (0, .inr (.inr (some 169)))], [], H16)) (C := []) rfl trivial ?_
  refine mw_sub (L' := [(1, .inr (.inr (some m))), (0, .inr (.inr (some 169)))]) (by simp) ?_
  refine ih _ _ _ _ _ ⟨_, _, _, _, _, s16, y16, u16_0, p16, kt16, ?_⟩ hpx
  simp only [List.length_append, List.length_cons, List.length_nil]
  omega
theorem rp_mod29 {T : Nat → Int32} {n f ff d dep B q s m w pp : Nat} {nm : List Int32} {ps : List Tre} {F0 Fs : Nat → Prop} {H0 Hs : mu_H} {res : Nat ⊕ (Mdl × List (List Int32) × Tok)} (hff : f + 3 ≤ ff) (hz : mu_z H0 + B + 200 ≤ 1000000) (g200 : 200 < mu_z H0) (hmS : mdo Hs Fs m w pp q) (hwS : stf Hs Fs w nm) (hpS : nd Hs Fs (ff + 1) pp (tmk 62 0 [] ps)) (hlS : ∀ j, j < 79 → stf Hs Fs (1000000 + j) (txt j)) {g : Nat} (ih : ∀ F H t cs sy, mmk T n dep ff H0 F0 Hs Fs B q s t F H cs sy → mxP T n f dep nm ps g cs sy t = some res → mu_W (mu_D (d + 6 * (150 - dep) + 16)) mu_m53 (93, [(1, .inr (.inr (some m))), (0, .inr (.inr (some 169)))], [], H) (fun r => (∃ H1, r = (.inr 0, H1) ∧ ∃ e, res = .inl e ∧ qbd T n e (B + 100) H0 H1) ∨ ∃ v H1, r = (.inl v, H1) ∧ ∃ y sy1 t1 F1 A1 cap1, v = some (.inr (.inr (some m))) ∧ res = .inr (y, sy1, t1) ∧ pst T n t1 dep F1 H1 ∧ syr H1 F1 cap1 sy1 ∧ mdf H1 F1 (ff + 1) m y ∧ qfr A1 F0 F1 H0 H1 ∧ A1 + 2 * sy1.length + pot n t1 ≤ B + 2 + cap1)) {F : Nat → Prop} {H : mu_H} {t : Tok} {cs : List Tre} {sy : List (List Int32)} (hm : mmk T n dep ff H0 F0 Hs Fs B q s t F H cs sy) (hej : ¬ tis T t (txt 29) = 0) (hpx : (qbi (mxV T n f dep f cs sy (adv T n t)) fun cs1 sy1 t1 => mxP T n f dep nm ps g cs1 sy1 t1) = some res) : mu_W (mu_D (d + 6 * (150 - dep) + 16)) mu_m53 (182, [(1, .inr (.inr (some m))), (0, .inr (.inr (some 169)))], [.inr (.inr (some 169))], H) (fun r => (∃ H1, r = (.inr 0, H1) ∧ ∃ e, res = .inl e ∧ qbd T n e (B + 100) H0 H1) ∨ ∃ v H1, r = (.inl v, H1) ∧ ∃ y sy1 t1 F1 A1 cap1, v = some (.inr (.inr (some m))) ∧ res = .inr (y, sy1, t1) ∧ pst T n t1 dep F1 H1 ∧ syr H1 F1 cap1 sy1 ∧ mdf H1 F1 (ff + 1) m y ∧ qfr A1 F0 F1 H0 H1 ∧ A1 + 2 * sy1.length + pot n t1 ≤ B + 2 + cap1) := by
  obtain ⟨A, a, c, cap, qs, hs, hy, hu, hp, hk, hA⟩ := hm
  have hcap := hu.cap
  have hcy := hy.cp
  have hAz := hp.z
  have hd0 := hs.2.2.2.1.2
  have hmd := hk.2.2.1 _ _ _ _ hmS
  refine mw_go mu_g53 (k := 2) (f1 := (187, [(1, .inr (.inr (some m))), (0, .inr (.inr (some 169)))], [.inl (1 : Int32), .inr (.inr (some 169))], H)) (C := []) rfl trivial ?_
  refine mw_cX (as := [.inl (1 : Int32)]) (o := some 169) (S1 := []) rfl rfl rfl rfl (Nat.le_of_ble_eq_true rfl) (by decide) hs.is rfl (rp_can (x := 1)) (fun H9 e => absurd e.1 (by decide)) (fun v H9 e => ?_)
  obtain ⟨_, rfl, e9⟩ := e
  rw [e9]
  clear e9 H9
  obtain ⟨sq, w1, w2⟩ := hs.wst2 (show 28 ≤ 29 ∧ 29 < 56 by decide) hej
  show mu_W _ mu_m53 (190, [(1, .inr (.inr (some m))), (0, .inr (.inr (some 169)))], [.inl (1 : Int32)], H) _
  refine mw_go mu_g53 (k := 4) (f1 := (196, [(3, .inr (.inr (mu_r H 169 11))), (2, .inl (1 : Int32)), (1, .inr (.inr (some m))), (0, .inr (.inr (some 169)))], [], H)) (C := [mu_is H (some 169) 1]) rfl (show mu_is H (some 169) 1 from hs.is) ?_
  refine mw_fr (f' := (196, [(3, .inr (.inr (some sq))), (2, .inl (1 : Int32)), (1, .inr (.inr (some m))), (0, .inr (.inr (some 169)))], [], H)) (by first | (rw [w1]; done) | (rw [w1]; rfl)) ?_
  refine mw_go mu_g53 (k := 1) (f1 := (197, [(3, .inr (.inr (some sq))), (2, .inl (1 : Int32)), (1, .inr (.inr (some m))), (0, .inr (.inr (some 169)))], [.inr (.inr (some 169))], H)) (C := []) rfl trivial ?_
  have st12 : pot n (adv T n t) + ((adv T n t).2.2 - t.2.2 + 4) + 15 ≤ pot n t := pot_step (T := T) hs.tkf.2.2 (tis_ne hej)
  refine mw_cV (fun _ => rfl) (show mu_is H (some 169) 1 from hs.is) (rp_advance hs (tis_ne hej) (by omega)) (fun H12 q12 => ?_)
  obtain ⟨F12, s12, f12⟩ := q12
  have f12 : pfr ((adv T n t).2.2 - t.2.2 + 4) F F12 H H12 := f12
  have y12 := hy.keep hs f12
  have kt12 := hk.tr (ktf.pf hs f12)
  have md12 := (ktf.pf hs f12).2.2.1 _ _ _ _ hmd
  have ws12_0 := w2.keep hs f12
  have zm12 := f12.z
  have u12_0 := hu.keep hs g200 f12
  have p12 := hp.tr f12
  have z12 := p12.z
  have s12 : pst T n (adv T n t) dep F12 H12 := s12
  show mu_W _ mu_m53 (200, [(3, .inr (.inr (some sq))), (2, .inl (1 : Int32)), (1, .inr (.inr (some m))), (0, .inr (.inr (some 169)))], [], H12) _
  refine mw_go mu_g53 (k := 2) (f1 := (203, [(3, .inr (.inr (some sq))), (2, .inl (1 : Int32)), (1, .inr (.inr (some m))), (0, .inr (.inr (some 169)))], [.inr (.inr (some 1000029)), .inr (.inr (some sq))], H12)) (C := []) rfl trivial ?_
  refine mw_cS rfl (by decide) ws12_0.1.1 (sb_equals (d := _) ws12_0.1 (kt12.2.1 _ _ (hlS 29 (by decide))).1 (Nat.lt_trans ws12_0.2.2 (by decide)) (Nat.lt_trans (kt12.2.1 _ _ (hlS 29 (by decide))).2.2 (by decide))) (fun x H9 q9 => ?_)
  rw [q9.1, q9.2, if_pos rfl]
  clear q9 H9
  show mu_W _ mu_m53 (206, [(3, .inr (.inr (some sq))), (2, .inl (1 : Int32)), (1, .inr (.inr (some m))), (0, .inr (.inr (some 169)))], [.inl (1 : Int32)], H12) _
  refine mw_if (P := (1 : Int32) = 0) (a := 217) (b := 209) (fun _ => rfl) trivial (fun h29 => absurd h29 (by decide)) (fun h29 => ?_)
  refine mw_go mu_g53 (k := 2) (f1 := (211, [(3, .inr (.inr (some sq))), (2, .inl (1 : Int32)), (1, .inr (.inr (some m))), (0, .inr (.inr (some 169)))], [.inr (.inr (some m)), .inr (.inr (some 169))], H12)) (C := []) rfl trivial ?_
  obtain ⟨r13, hr13⟩ := qbi_some hpx
  refine mw_cX (as := [.inr (.inr (some m))]) (o := some 169) (S1 := []) rfl rfl rfl rfl (Nat.le_of_ble_eq_true rfl) (by decide) s12.is rfl (show mu_TX (mu_D (d + 6 * (150 - dep) + 16)) _ _ _ _ _ from by rw [show d + 6 * (150 - dep) + 16 = (d + 3) + 6 * (150 - dep) + 13 by omega]; exact rp_vars hff hz g200 (Hs := Hs) (Fs := Fs) (s := s) ⟨_, _, _, _, _, s12, y12, u12_0, p12, kt12, by omega⟩ md12 hr13) (fun H13 e => ?_) (fun v H13 e => ?_)
  · obtain ⟨e', e1, e2⟩ := e
    rw [hr13, e1] at hpx
    exact Or.inl ⟨_, rfl, _, qbi_inl hpx, e2⟩
  obtain ⟨cs1, sy1, t1, F1, rfl, e1, hm1⟩ := e
  rw [hr13, e1] at hpx
  have hpx := qbi_inr hpx
  show mu_W _ mu_m53 (214, [(3, .inr (.inr (some sq))), (2, .inl (1 : Int32)), (1, .inr (.inr (some m))), (0, .inr (.inr (some 169)))], [], H13) _
  refine mw_go mu_g53 (k := 2) (f1 := (93, [(3, .inr (.inr (some sq))), (2, .inl (1 : Int32)), (1, .inr (.inr (some m))), (0, .inr (.inr (some 169)))], [], H13)) (C := []) rfl trivial ?_
  refine mw_sub (L' := [(1, .inr (.inr (some m))), (0, .inr (.inr (some 169)))]) (by simp) ?_
  exact ih _ _ _ _ _ hm1 hpx
theorem rp_mod30 {T : Nat → Int32} {n f ff d dep B q s m w pp : Nat} {nm : List Int32} {ps : List Tre} {F0 Fs : Nat → Prop} {H0 Hs : mu_H} {res : Nat ⊕ (Mdl × List (List Int32) × Tok)} (hff : f + 3 ≤ ff) (hz : mu_z H0 + B + 200 ≤ 1000000) (g200 : 200 < mu_z H0) (hmS : mdo Hs Fs m w pp q) (hwS : stf Hs Fs w nm) (hpS : nd Hs Fs (ff + 1) pp (tmk 62 0 [] ps)) (hlS : ∀ j, j < 79 → stf Hs Fs (1000000 + j) (txt j)) {g : Nat} (ih : ∀ F H t cs sy, mmk T n dep ff H0 F0 Hs Fs B q s t F H cs sy → mxP T n f dep nm ps g cs sy t = some res → mu_W (mu_D (d + 6 * (150 - dep) + 16)) mu_m53 (93, [(1, .inr (.inr (some m))), (0, .inr (.inr (some 169)))], [], H) (fun r => (∃ H1, r = (.inr 0, H1) ∧ ∃ e, res = .inl e ∧ qbd T n e (B + 100) H0 H1) ∨ ∃ v H1, r = (.inl v, H1) ∧ ∃ y sy1 t1 F1 A1 cap1, v = some (.inr (.inr (some m))) ∧ res = .inr (y, sy1, t1) ∧ pst T n t1 dep F1 H1 ∧ syr H1 F1 cap1 sy1 ∧ mdf H1 F1 (ff + 1) m y ∧ qfr A1 F0 F1 H0 H1 ∧ A1 + 2 * sy1.length + pot n t1 ≤ B + 2 + cap1)) {F : Nat → Prop} {H : mu_H} {t : Tok} {cs : List Tre} {sy : List (List Int32)} (hm : mmk T n dep ff H0 F0 Hs Fs B q s t F H cs sy) (hej : ¬ tis T t (txt 30) = 0) (hpx : (qbi (mxD T n f dep f cs sy (adv T n t)) fun cs1 sy1 t1 => mxP T n f dep nm ps g cs1 sy1 t1) = some res) : mu_W (mu_D (d + 6 * (150 - dep) + 16)) mu_m53 (182, [(1, .inr (.inr (some m))), (0, .inr (.inr (some 169)))], [.inr (.inr (some 169))], H) (fun r => (∃ H1, r = (.inr 0, H1) ∧ ∃ e, res = .inl e ∧ qbd T n e (B + 100) H0 H1) ∨ ∃ v H1, r = (.inl v, H1) ∧ ∃ y sy1 t1 F1 A1 cap1, v = some (.inr (.inr (some m))) ∧ res = .inr (y, sy1, t1) ∧ pst T n t1 dep F1 H1 ∧ syr H1 F1 cap1 sy1 ∧ mdf H1 F1 (ff + 1) m y ∧ qfr A1 F0 F1 H0 H1 ∧ A1 + 2 * sy1.length + pot n t1 ≤ B + 2 + cap1) := by
  obtain ⟨A, a, c, cap, qs, hs, hy, hu, hp, hk, hA⟩ := hm
  have hcap := hu.cap
  have hcy := hy.cp
  have hAz := hp.z
  have hd0 := hs.2.2.2.1.2
  have hmd := hk.2.2.1 _ _ _ _ hmS
  refine mw_go mu_g53 (k := 2) (f1 := (187, [(1, .inr (.inr (some m))), (0, .inr (.inr (some 169)))], [.inl (1 : Int32), .inr (.inr (some 169))], H)) (C := []) rfl trivial ?_
  refine mw_cX (as := [.inl (1 : Int32)]) (o := some 169) (S1 := []) rfl rfl rfl rfl (Nat.le_of_ble_eq_true rfl) (by decide) hs.is rfl (rp_can (x := 1)) (fun H9 e => absurd e.1 (by decide)) (fun v H9 e => ?_)
  obtain ⟨_, rfl, e9⟩ := e
  rw [e9]
  clear e9 H9
  obtain ⟨sq, w1, w2⟩ := hs.wst2 (show 28 ≤ 30 ∧ 30 < 56 by decide) hej
  show mu_W _ mu_m53 (190, [(1, .inr (.inr (some m))), (0, .inr (.inr (some 169)))], [.inl (1 : Int32)], H) _
  refine mw_go mu_g53 (k := 4) (f1 := (196, [(3, .inr (.inr (mu_r H 169 11))), (2, .inl (1 : Int32)), (1, .inr (.inr (some m))), (0, .inr (.inr (some 169)))], [], H)) (C := [mu_is H (some 169) 1]) rfl (show mu_is H (some 169) 1 from hs.is) ?_
  refine mw_fr (f' := (196, [(3, .inr (.inr (some sq))), (2, .inl (1 : Int32)), (1, .inr (.inr (some m))), (0, .inr (.inr (some 169)))], [], H)) (by first | (rw [w1]; done) | (rw [w1]; rfl)) ?_
  refine mw_go mu_g53 (k := 1) (f1 := (197, [(3, .inr (.inr (some sq))), (2, .inl (1 : Int32)), (1, .inr (.inr (some m))), (0, .inr (.inr (some 169)))], [.inr (.inr (some 169))], H)) (C := []) rfl trivial ?_
  have st12 : pot n (adv T n t) + ((adv T n t).2.2 - t.2.2 + 4) + 15 ≤ pot n t := pot_step (T := T) hs.tkf.2.2 (tis_ne hej)
  refine mw_cV (fun _ => rfl) (show mu_is H (some 169) 1 from hs.is) (rp_advance hs (tis_ne hej) (by omega)) (fun H12 q12 => ?_)
  obtain ⟨F12, s12, f12⟩ := q12
  have f12 : pfr ((adv T n t).2.2 - t.2.2 + 4) F F12 H H12 := f12
  have y12 := hy.keep hs f12
  have kt12 := hk.tr (ktf.pf hs f12)
  have md12 := (ktf.pf hs f12).2.2.1 _ _ _ _ hmd
  have ws12_0 := w2.keep hs f12
  have zm12 := f12.z
  have u12_0 := hu.keep hs g200 f12
  have p12 := hp.tr f12
  have z12 := p12.z
  have s12 : pst T n (adv T n t) dep F12 H12 := s12
  show mu_W _ mu_m53 (200, [(3, .inr (.inr (some sq))), (2, .inl (1 : Int32)), (1, .inr (.inr (some m))), (0, .inr (.inr (some 169)))], [], H12) _
  refine mw_go mu_g53 (k := 2) (f1 := (203, [(3, .inr (.inr (some sq))), (2, .inl (1 : Int32)), (1, .inr (.inr (some m))), (0, .inr (.inr (some 169)))], [.inr (.inr (some 1000029)), .inr (.inr (some sq))], H12)) (C := []) rfl trivial ?_
  refine mw_cS rfl (by decide) ws12_0.1.1 (sb_equals (d := _) ws12_0.1 (kt12.2.1 _ _ (hlS 29 (by decide))).1 (Nat.lt_trans ws12_0.2.2 (by decide)) (Nat.lt_trans (kt12.2.1 _ _ (hlS 29 (by decide))).2.2 (by decide))) (fun x H9 q9 => ?_)
  rw [q9.1, q9.2, if_neg (show ¬ txt 30 = txt 29 by decide)]
  clear q9 H9
  show mu_W _ mu_m53 (206, [(3, .inr (.inr (some sq))), (2, .inl (1 : Int32)), (1, .inr (.inr (some m))), (0, .inr (.inr (some 169)))], [.inl (0 : Int32)], H12) _
  refine mw_if (P := (0 : Int32) = 0) (a := 217) (b := 209) (fun _ => rfl) trivial (fun h29 => ?_) (fun h29 => absurd rfl h29)
  refine mw_go mu_g53 (k := 2) (f1 := (220, [(3, .inr (.inr (some sq))), (2, .inl (1 : Int32)), (1, .inr (.inr (some m))), (0, .inr (.inr (some 169)))], [.inr (.inr (some 1000030)), .inr (.inr (some sq))], H12)) (C := []) rfl trivial ?_
  refine mw_cS rfl (by decide) ws12_0.1.1 (sb_equals (d := _) ws12_0.1 (kt12.2.1 _ _ (hlS 30 (by decide))).1 (Nat.lt_trans ws12_0.2.2 (by decide)) (Nat.lt_trans (kt12.2.1 _ _ (hlS 30 (by decide))).2.2 (by decide))) (fun x H9 q9 => ?_)
  rw [q9.1, q9.2, if_pos rfl]
  clear q9 H9
  show mu_W _ mu_m53 (223, [(3, .inr (.inr (some sq))), (2, .inl (1 : Int32)), (1, .inr (.inr (some m))), (0, .inr (.inr (some 169)))], [.inl (1 : Int32)], H12) _
  refine mw_if (P := (1 : Int32) = 0) (a := 234) (b := 226) (fun _ => rfl) trivial (fun h30 => absurd h30 (by decide)) (fun h30 => ?_)
  refine mw_go mu_g53 (k := 2) (f1 := (228, [(3, .inr (.inr (some sq))), (2, .inl (1 : Int32)), (1, .inr (.inr (some m))), (0, .inr (.inr (some 169)))], [.inr (.inr (some m)), .inr (.inr (some 169))], H12)) (C := []) rfl trivial ?_
  obtain ⟨r13, hr13⟩ := qbi_some hpx
  refine mw_cX (as := [.inr (.inr (some m))]) (o := some 169) (S1 := []) rfl rfl rfl rfl (Nat.le_of_ble_eq_true rfl) (by decide) s12.is rfl (show mu_TX (mu_D (d + 6 * (150 - dep) + 16)) _ _ _ _ _ from by rw [show d + 6 * (150 - dep) + 16 = (d + 1) + 6 * (150 - dep) + 15 by omega]; exact rp_defs hff hz g200 (Hs := Hs) (Fs := Fs) (s := s) ⟨_, _, _, _, _, s12, y12, u12_0, p12, kt12, by omega⟩ md12 hr13) (fun H13 e => ?_) (fun v H13 e => ?_)
  · obtain ⟨e', e1, e2⟩ := e
    rw [hr13, e1] at hpx
    exact Or.inl ⟨_, rfl, _, qbi_inl hpx, e2⟩
  obtain ⟨cs1, sy1, t1, F1, rfl, e1, hm1⟩ := e
  rw [hr13, e1] at hpx
  have hpx := qbi_inr hpx
  show mu_W _ mu_m53 (231, [(3, .inr (.inr (some sq))), (2, .inl (1 : Int32)), (1, .inr (.inr (some m))), (0, .inr (.inr (some 169)))], [], H13) _
  refine mw_go mu_g53 (k := 2) (f1 := (93, [(3, .inr (.inr (some sq))), (2, .inl (1 : Int32)), (1, .inr (.inr (some m))), (0, .inr (.inr (some 169)))], [], H13)) (C := []) rfl trivial ?_
  refine mw_sub (L' := [(1, .inr (.inr (some m))), (0, .inr (.inr (some 169)))]) (by simp) ?_
  exact ih _ _ _ _ _ hm1 hpx
theorem rp_mod31 {T : Nat → Int32} {n f ff d dep B q s m w pp : Nat} {nm : List Int32} {ps : List Tre} {F0 Fs : Nat → Prop} {H0 Hs : mu_H} {res : Nat ⊕ (Mdl × List (List Int32) × Tok)} (hff : f + 3 ≤ ff) (hz : mu_z H0 + B + 200 ≤ 1000000) (g200 : 200 < mu_z H0) (hmS : mdo Hs Fs m w pp q) (hwS : stf Hs Fs w nm) (hpS : nd Hs Fs (ff + 1) pp (tmk 62 0 [] ps)) (hlS : ∀ j, j < 79 → stf Hs Fs (1000000 + j) (txt j)) {g : Nat} (ih : ∀ F H t cs sy, mmk T n dep ff H0 F0 Hs Fs B q s t F H cs sy → mxP T n f dep nm ps g cs sy t = some res → mu_W (mu_D (d + 6 * (150 - dep) + 16)) mu_m53 (93, [(1, .inr (.inr (some m))), (0, .inr (.inr (some 169)))], [], H) (fun r => (∃ H1, r = (.inr 0, H1) ∧ ∃ e, res = .inl e ∧ qbd T n e (B + 100) H0 H1) ∨ ∃ v H1, r = (.inl v, H1) ∧ ∃ y sy1 t1 F1 A1 cap1, v = some (.inr (.inr (some m))) ∧ res = .inr (y, sy1, t1) ∧ pst T n t1 dep F1 H1 ∧ syr H1 F1 cap1 sy1 ∧ mdf H1 F1 (ff + 1) m y ∧ qfr A1 F0 F1 H0 H1 ∧ A1 + 2 * sy1.length + pot n t1 ≤ B + 2 + cap1)) {F : Nat → Prop} {H : mu_H} {t : Tok} {cs : List Tre} {sy : List (List Int32)} (hm : mmk T n dep ff H0 F0 Hs Fs B q s t F H cs sy) (hej : ¬ tis T t (txt 31) = 0) (hpx : (qbi (mxA T n f dep f cs sy (adv T n t)) fun cs1 sy1 t1 => mxP T n f dep nm ps g cs1 sy1 t1) = some res) : mu_W (mu_D (d + 6 * (150 - dep) + 16)) mu_m53 (182, [(1, .inr (.inr (some m))), (0, .inr (.inr (some 169)))], [.inr (.inr (some 169))], H) (fun r => (∃ H1, r = (.inr 0, H1) ∧ ∃ e, res = .inl e ∧ qbd T n e (B + 100) H0 H1) ∨ ∃ v H1, r = (.inl v, H1) ∧ ∃ y sy1 t1 F1 A1 cap1, v = some (.inr (.inr (some m))) ∧ res = .inr (y, sy1, t1) ∧ pst T n t1 dep F1 H1 ∧ syr H1 F1 cap1 sy1 ∧ mdf H1 F1 (ff + 1) m y ∧ qfr A1 F0 F1 H0 H1 ∧ A1 + 2 * sy1.length + pot n t1 ≤ B + 2 + cap1) := by
  obtain ⟨A, a, c, cap, qs, hs, hy, hu, hp, hk, hA⟩ := hm
  have hcap := hu.cap
  have hcy := hy.cp
  have hAz := hp.z
  have hd0 := hs.2.2.2.1.2
  have hmd := hk.2.2.1 _ _ _ _ hmS
  refine mw_go mu_g53 (k := 2) (f1 := (187, [(1, .inr (.inr (some m))), (0, .inr (.inr (some 169)))], [.inl (1 : Int32), .inr (.inr (some 169))], H)) (C := []) rfl trivial ?_
  refine mw_cX (as := [.inl (1 : Int32)]) (o := some 169) (S1 := []) rfl rfl rfl rfl (Nat.le_of_ble_eq_true rfl) (by decide) hs.is rfl (rp_can (x := 1)) (fun H9 e => absurd e.1 (by decide)) (fun v H9 e => ?_)
  obtain ⟨_, rfl, e9⟩ := e
  rw [e9]
  clear e9 H9
  obtain ⟨sq, w1, w2⟩ := hs.wst2 (show 28 ≤ 31 ∧ 31 < 56 by decide) hej
  show mu_W _ mu_m53 (190, [(1, .inr (.inr (some m))), (0, .inr (.inr (some 169)))], [.inl (1 : Int32)], H) _
  refine mw_go mu_g53 (k := 4) (f1 := (196, [(3, .inr (.inr (mu_r H 169 11))), (2, .inl (1 : Int32)), (1, .inr (.inr (some m))), (0, .inr (.inr (some 169)))], [], H)) (C := [mu_is H (some 169) 1]) rfl (show mu_is H (some 169) 1 from hs.is) ?_
  refine mw_fr (f' := (196, [(3, .inr (.inr (some sq))), (2, .inl (1 : Int32)), (1, .inr (.inr (some m))), (0, .inr (.inr (some 169)))], [], H)) (by first | (rw [w1]; done) | (rw [w1]; rfl)) ?_
  refine mw_go mu_g53 (k := 1) (f1 := (197, [(3, .inr (.inr (some sq))), (2, .inl (1 : Int32)), (1, .inr (.inr (some m))), (0, .inr (.inr (some 169)))], [.inr (.inr (some 169))], H)) (C := []) rfl trivial ?_
  have st12 : pot n (adv T n t) + ((adv T n t).2.2 - t.2.2 + 4) + 15 ≤ pot n t := pot_step (T := T) hs.tkf.2.2 (tis_ne hej)
  refine mw_cV (fun _ => rfl) (show mu_is H (some 169) 1 from hs.is) (rp_advance hs (tis_ne hej) (by omega)) (fun H12 q12 => ?_)
  obtain ⟨F12, s12, f12⟩ := q12
  have f12 : pfr ((adv T n t).2.2 - t.2.2 + 4) F F12 H H12 := f12
  have y12 := hy.keep hs f12
  have kt12 := hk.tr (ktf.pf hs f12)
  have md12 := (ktf.pf hs f12).2.2.1 _ _ _ _ hmd
  have ws12_0 := w2.keep hs f12
  have zm12 := f12.z
  have u12_0 := hu.keep hs g200 f12
  have p12 := hp.tr f12
  have z12 := p12.z
  have s12 : pst T n (adv T n t) dep F12 H12 := s12
  show mu_W _ mu_m53 (200, [(3, .inr (.inr (some sq))), (2, .inl (1 : Int32)), (1, .inr (.inr (some m))), (0, .inr (.inr (some 169)))], [], H12) _
  refine mw_go mu_g53 (k := 2) (f1 := (203, [(3, .inr (.inr (some sq))), (2, .inl (1 : Int32)), (1, .inr (.inr (some m))), (0, .inr (.inr (some 169)))], [.inr (.inr (some 1000029)), .inr (.inr (some sq))], H12)) (C := []) rfl trivial ?_
  refine mw_cS rfl (by decide) ws12_0.1.1 (sb_equals (d := _) ws12_0.1 (kt12.2.1 _ _ (hlS 29 (by decide))).1 (Nat.lt_trans ws12_0.2.2 (by decide)) (Nat.lt_trans (kt12.2.1 _ _ (hlS 29 (by decide))).2.2 (by decide))) (fun x H9 q9 => ?_)
  rw [q9.1, q9.2, if_neg (show ¬ txt 31 = txt 29 by decide)]
  clear q9 H9
  show mu_W _ mu_m53 (206, [(3, .inr (.inr (some sq))), (2, .inl (1 : Int32)), (1, .inr (.inr (some m))), (0, .inr (.inr (some 169)))], [.inl (0 : Int32)], H12) _
  refine mw_if (P := (0 : Int32) = 0) (a := 217) (b := 209) (fun _ => rfl) trivial (fun h29 => ?_) (fun h29 => absurd rfl h29)
  refine mw_go mu_g53 (k := 2) (f1 := (220, [(3, .inr (.inr (some sq))), (2, .inl (1 : Int32)), (1, .inr (.inr (some m))), (0, .inr (.inr (some 169)))], [.inr (.inr (some 1000030)), .inr (.inr (some sq))], H12)) (C := []) rfl trivial ?_
  refine mw_cS rfl (by decide) ws12_0.1.1 (sb_equals (d := _) ws12_0.1 (kt12.2.1 _ _ (hlS 30 (by decide))).1 (Nat.lt_trans ws12_0.2.2 (by decide)) (Nat.lt_trans (kt12.2.1 _ _ (hlS 30 (by decide))).2.2 (by decide))) (fun x H9 q9 => ?_)
  rw [q9.1, q9.2, if_neg (show ¬ txt 31 = txt 30 by decide)]
  clear q9 H9
  show mu_W _ mu_m53 (223, [(3, .inr (.inr (some sq))), (2, .inl (1 : Int32)), (1, .inr (.inr (some m))), (0, .inr (.inr (some 169)))], [.inl (0 : Int32)], H12) _
  refine mw_if (P := (0 : Int32) = 0) (a := 234) (b := 226) (fun _ => rfl) trivial (fun h30 => ?_) (fun h30 => absurd rfl h30)
  refine mw_go mu_g53 (k := 2) (f1 := (237, [(3, .inr (.inr (some sq))), (2, .inl (1 : Int32)), (1, .inr (.inr (some m))), (0, .inr (.inr (some 169)))], [.inr (.inr (some 1000031)), .inr (.inr (some sq))], H12)) (C := []) rfl trivial ?_
  refine mw_cS rfl (by decide) ws12_0.1.1 (sb_equals (d := _) ws12_0.1 (kt12.2.1 _ _ (hlS 31 (by decide))).1 (Nat.lt_trans ws12_0.2.2 (by decide)) (Nat.lt_trans (kt12.2.1 _ _ (hlS 31 (by decide))).2.2 (by decide))) (fun x H9 q9 => ?_)
  rw [q9.1, q9.2, if_pos rfl]
  clear q9 H9
  show mu_W _ mu_m53 (240, [(3, .inr (.inr (some sq))), (2, .inl (1 : Int32)), (1, .inr (.inr (some m))), (0, .inr (.inr (some 169)))], [.inl (1 : Int32)], H12) _
  refine mw_if (P := (1 : Int32) = 0) (a := 251) (b := 243) (fun _ => rfl) trivial (fun h31 => absurd h31 (by decide)) (fun h31 => ?_)
  refine mw_go mu_g53 (k := 2) (f1 := (245, [(3, .inr (.inr (some sq))), (2, .inl (1 : Int32)), (1, .inr (.inr (some m))), (0, .inr (.inr (some 169)))], [.inr (.inr (some m)), .inr (.inr (some 169))], H12)) (C := []) rfl trivial ?_
  obtain ⟨r13, hr13⟩ := qbi_some hpx
  refine mw_cX (as := [.inr (.inr (some m))]) (o := some 169) (S1 := []) rfl rfl rfl rfl (Nat.le_of_ble_eq_true rfl) (by decide) s12.is rfl (show mu_TX (mu_D (d + 6 * (150 - dep) + 16)) _ _ _ _ _ from by rw [show d + 6 * (150 - dep) + 16 = (d + 1) + 6 * (150 - dep) + 15 by omega]; exact rp_asgn hff hz g200 (Hs := Hs) (Fs := Fs) (s := s) ⟨_, _, _, _, _, s12, y12, u12_0, p12, kt12, by omega⟩ md12 hr13) (fun H13 e => ?_) (fun v H13 e => ?_)
  · obtain ⟨e', e1, e2⟩ := e
    rw [hr13, e1] at hpx
    exact Or.inl ⟨_, rfl, _, qbi_inl hpx, e2⟩
  obtain ⟨cs1, sy1, t1, F1, rfl, e1, hm1⟩ := e
  rw [hr13, e1] at hpx
  have hpx := qbi_inr hpx
  show mu_W _ mu_m53 (248, [(3, .inr (.inr (some sq))), (2, .inl (1 : Int32)), (1, .inr (.inr (some m))), (0, .inr (.inr (some 169)))], [], H13) _
  refine mw_go mu_g53 (k := 2) (f1 := (93, [(3, .inr (.inr (some sq))), (2, .inl (1 : Int32)), (1, .inr (.inr (some m))), (0, .inr (.inr (some 169)))], [], H13)) (C := []) rfl trivial ?_
  refine mw_sub (L' := [(1, .inr (.inr (some m))), (0, .inr (.inr (some 169)))]) (by simp) ?_
  exact ih _ _ _ _ _ hm1 hpx
theorem rp_modP {T : Nat → Int32} {n f ff d dep B q s m w pp : Nat} {nm : List Int32} {ps : List Tre} {F0 Fs : Nat → Prop} {H0 Hs : mu_H} {res : Nat ⊕ (Mdl × List (List Int32) × Tok)} (hff : f + 3 ≤ ff) (hz : mu_z H0 + B + 200 ≤ 1000000) (g200 : 200 < mu_z H0) (hmS : mdo Hs Fs m w pp q) (hwS : stf Hs Fs w nm) (hpS : nd Hs Fs (ff + 1) pp (tmk 62 0 [] ps)) (hlS : ∀ j, j < 79 → stf Hs Fs (1000000 + j) (txt j)) : ∀ g F H t cs sy, mmk T n dep ff H0 F0 Hs Fs B q s t F H cs sy → mxP T n f dep nm ps g cs sy t = some res → mu_W (mu_D (d + 6 * (150 - dep) + 16)) mu_m53 (93, [(1, .inr (.inr (some m))), (0, .inr (.inr (some 169)))], [], H) (fun r => (∃ H1, r = (.inr 0, H1) ∧ ∃ e, res = .inl e ∧ qbd T n e (B + 100) H0 H1) ∨ ∃ v H1, r = (.inl v, H1) ∧ ∃ y sy1 t1 F1 A1 cap1, v = some (.inr (.inr (some m))) ∧ res = .inr (y, sy1, t1) ∧ pst T n t1 dep F1 H1 ∧ syr H1 F1 cap1 sy1 ∧ mdf H1 F1 (ff + 1) m y ∧ qfr A1 F0 F1 H0 H1 ∧ A1 + 2 * sy1.length + pot n t1 ≤ B + 2 + cap1)
  | 0, _, _, _, _, _, _, hpx => by cases hpx
  | g + 1, F, H, t, cs, sy, hm, hpx => by
    rw [mxP] at hpx
    have hm0 := hm
    obtain ⟨A, a, c, cap, qs, hs, hy, hu, hp, hk, hA⟩ := hm
    have hcap := hu.cap
    have hcy := hy.cp
    have hAz := hp.z
    have hd0 := hs.2.2.2.1.2
    have hmd := hk.2.2.1 _ _ _ _ hmS
    refine mw_go mu_g53 (k := 2) (f1 := (97, [(1, .inr (.inr (some m))), (0, .inr (.inr (some 169)))], [.inl (mu_i H 169 7)], H)) (C := [mu_is H (some 169) 1]) rfl (show mu_is H (some 169) 1 from hs.is) ?_
    refine mw_fr (f' := (97, [(1, .inr (.inr (some m))), (0, .inr (.inr (some 169)))], [.inl t.1], H)) (by first | (rw [hs.f7]; done) | (rw [hs.f7]; rfl)) ?_
    refine mw_if (P := t.1 = 0) (a := 281) (b := 100) (fun _ => rfl) trivial (fun ht0 => ?_) (fun ht0 => ?_)
    · -- 281
      have hpx := ite_ye hpx ht0
      refine mw_go mu_g53 (k := 1) (f1 := (282, [(1, .inr (.inr (some m))), (0, .inr (.inr (some 169)))], [.inr (.inr (some m))], H)) (C := []) rfl trivial ?_
      obtain ⟨s11, n11, p11, y11, kk11⟩ := hu.doneQ hs hy g200 hp (Nat.le_refl _)
      have kt11 := hk.tr kk11
      exact mw_of (fun _ => mu_ret rfl trivial (Or.inr ⟨_, _, rfl, _, _, _, _, A, cap, rfl, gok_eq hpx, s11, y11, ⟨w, pp, q, kt11.2.2.1 _ _ _ _ hmS, kt11.2.1 _ _ hwS, kt11.1 _ _ _ hpS, n11⟩, p11, by omega⟩))
    · -- 100
      have hpx := ite_no hpx ht0
      refine mw_go mu_g53 (k := 2) (f1 := (103, [(1, .inr (.inr (some m))), (0, .inr (.inr (some 169)))], [.inr (.inr (some 1000028)), .inr (.inr (some 169))], H)) (C := []) rfl trivial ?_
      refine mw_cIe (fun _ => rfl) (show mu_is H (some 169) 1 from hs.is) (rp_isL (j := 28) hs (by decide)) ?_
      refine mw_if (P := (tis T t (txt 28)) = 0) (a := 109) (b := 281) (fun _ => rfl) trivial (fun h28 => ?_) (fun h28 => ?_)
      · -- 109
        have hpx := ite_ye hpx h28
        refine mw_go mu_g53 (k := 1) (f1 := (110, [(1, .inr (.inr (some m))), (0, .inr (.inr (some 169)))], [.inr (.inr (some 169))], H)) (C := []) rfl trivial ?_
        refine mw_go mu_g53 (k := 2) (f1 := (113, [(1, .inr (.inr (some m))), (0, .inr (.inr (some 169)))], [.inr (.inr (some 1000029)), .inr (.inr (some 169)), .inr (.inr (some 169))], H)) (C := []) rfl trivial ?_
        refine mw_cIe (fun _ => rfl) (show mu_is H (some 169) 1 from hs.is) (rp_isL (j := 29) hs (by decide)) ?_
        refine mw_if (P := (tis T t (txt 29)) = 0) (a := 119) (b := 182) (fun _ => rfl) trivial (fun e29 => ?_) (fun e29 => ?_)
        · -- 119
          refine mw_go mu_g53 (k := 2) (f1 := (122, [(1, .inr (.inr (some m))), (0, .inr (.inr (some 169)))], [.inr (.inr (some 1000030)), .inr (.inr (some 169)), .inr (.inr (some 169))], H)) (C := []) rfl trivial ?_
          refine mw_cIe (fun _ => rfl) (show mu_is H (some 169) 1 from hs.is) (rp_isL (j := 30) hs (by decide)) ?_
          refine mw_if (P := (tis T t (txt 30)) = 0) (a := 128) (b := 182) (fun _ => rfl) trivial (fun e30 => ?_) (fun e30 => ?_)
          · -- 128
            refine mw_go mu_g53 (k := 2) (f1 := (131, [(1, .inr (.inr (some m))), (0, .inr (.inr (some 169)))], [.inr (.inr (some 1000031)), .inr (.inr (some 169)), .inr (.inr (some 169))], H)) (C := []) rfl trivial ?_
            refine mw_cIe (fun _ => rfl) (show mu_is H (some 169) 1 from hs.is) (rp_isL (j := 31) hs (by decide)) ?_
            refine mw_if (P := (tis T t (txt 31)) = 0) (a := 137) (b := 182) (fun _ => rfl) trivial (fun e31 => ?_) (fun e31 => ?_)
            · -- 137
              refine mw_go mu_g53 (k := 2) (f1 := (140, [(1, .inr (.inr (some m))), (0, .inr (.inr (some 169)))], [.inr (.inr (some 1000034)), .inr (.inr (some 169)), .inr (.inr (some 169))], H)) (C := []) rfl trivial ?_
              refine mw_cIe (fun _ => rfl) (show mu_is H (some 169) 1 from hs.is) (rp_isL (j := 34) hs (by decide)) ?_
              refine mw_if (P := (tis T t (txt 34)) = 0) (a := 146) (b := 182) (fun _ => rfl) trivial (fun e34 => ?_) (fun e34 => ?_)
              · -- 146
                refine mw_go mu_g53 (k := 2) (f1 := (149, [(1, .inr (.inr (some m))), (0, .inr (.inr (some 169)))], [.inr (.inr (some 1000035)), .inr (.inr (some 169)), .inr (.inr (some 169))], H)) (C := []) rfl trivial ?_
                refine mw_cIe (fun _ => rfl) (show mu_is H (some 169) 1 from hs.is) (rp_isL (j := 35) hs (by decide)) ?_
                refine mw_if (P := (tis T t (txt 35)) = 0) (a := 155) (b := 182) (fun _ => rfl) trivial (fun e35 => ?_) (fun e35 => ?_)
                · -- 155
                  refine mw_go mu_g53 (k := 2) (f1 := (158, [(1, .inr (.inr (some m))), (0, .inr (.inr (some 169)))], [.inr (.inr (some 1000036)), .inr (.inr (some 169)), .inr (.inr (some 169))], H)) (C := []) rfl trivial ?_
                  refine mw_cIe (fun _ => rfl) (show mu_is H (some 169) 1 from hs.is) (rp_isL (j := 36) hs (by decide)) ?_
                  refine mw_if (P := (tis T t (txt 36)) = 0) (a := 164) (b := 182) (fun _ => rfl) trivial (fun e36 => ?_) (fun e36 => ?_)
                  · -- 164
                    refine mw_go mu_g53 (k := 2) (f1 := (167, [(1, .inr (.inr (some m))), (0, .inr (.inr (some 169)))], [.inr (.inr (some 1000037)), .inr (.inr (some 169)), .inr (.inr (some 169))], H)) (C := []) rfl trivial ?_
                    refine mw_cIe (fun _ => rfl) (show mu_is H (some 169) 1 from hs.is) (rp_isL (j := 37) hs (by decide)) ?_
                    refine mw_if (P := (tis T t (txt 37)) = 0) (a := 173) (b := 182) (fun _ => rfl) trivial (fun e37 => ?_) (fun e37 => ?_)
                    · -- 173
                      refine mw_go mu_g53 (k := 2) (f1 := (176, [(1, .inr (.inr (some m))), (0, .inr (.inr (some 169)))], [.inr (.inr (some 1000038)), .inr (.inr (some 169)), .inr (.inr (some 169))], H)) (C := []) rfl trivial ?_
                      refine mw_cIe (fun _ => rfl) (show mu_is H (some 169) 1 from hs.is) (rp_isL (j := 38) hs (by decide)) ?_
                      refine mw_if (P := (tis T t (txt 38)) = 0) (a := 186) (b := 182) (fun _ => rfl) trivial (fun e38 => ?_) (fun e38 => ?_)
                      · -- 186
                        have ho : one T t [29, 30, 31, 34, 35, 36, 37, 38] = 0 := by
                          show (if tis T t (txt 29) = 0 then (if tis T t (txt 30) = 0 then (if tis T t (txt 31) = 0 then (if tis T t (txt 34) = 0 then (if tis T t (txt 35) = 0 then (if tis T t (txt 36) = 0 then (if tis T t (txt 37) = 0 then (if tis T t (txt 38) = 0 then 0 else 38) else 37) else 36) else 35) else 34) else 31) else 30) else 29) = 0
                          rw [if_pos e29, if_pos e30, if_pos e31, if_pos e34, if_pos e35, if_pos e36, if_pos e37, if_pos e38]
                        have hpx := gpe_eq (ite_ye hpx ho)
                        refine mw_go mu_g53 (k := 1) (f1 := (187, [(1, .inr (.inr (some m))), (0, .inr (.inr (some 169)))], [.inl (0 : Int32), .inr (.inr (some 169))], H)) (C := []) rfl trivial ?_
                        refine mw_cX (as := [.inl (0 : Int32)]) (o := some 169) (S1 := []) rfl rfl rfl rfl (Nat.le_of_ble_eq_true rfl) (by decide) hs.is rfl (rp_can (x := 0)) (fun H9 e => ?_) (fun v H9 e => absurd rfl e.1)
                        rw [e.2]
                        exact Or.inl ⟨_, rfl, _, hpx, (hp.bd hs.bad).wk (by omega)⟩
                      · -- 182
                        have ho : one T t [29, 30, 31, 34, 35, 36, 37, 38] = 38 := by
                          show (if tis T t (txt 29) = 0 then (if tis T t (txt 30) = 0 then (if tis T t (txt 31) = 0 then (if tis T t (txt 34) = 0 then (if tis T t (txt 35) = 0 then (if tis T t (txt 36) = 0 then (if tis T t (txt 37) = 0 then (if tis T t (txt 38) = 0 then 0 else 38) else 37) else 36) else 35) else 34) else 31) else 30) else 29) = 38
                          rw [if_pos e29, if_pos e30, if_pos e31, if_pos e34, if_pos e35, if_pos e36, if_pos e37, if_neg e38]
                        have hpx := ite_no hpx (show ¬ one T t [29, 30, 31, 34, 35, 36, 37, 38] = 0 by rw [ho]; decide)
                        rw [ho] at hpx
                        have hpx := ite_no hpx (show ¬ (38 : Nat) = 29 by decide)
                        have hpx := ite_no hpx (show ¬ (38 : Nat) = 30 by decide)
                        have hpx := ite_no hpx (show ¬ (38 : Nat) = 31 by decide)
                        exact rp_modE hff hz g200 hmS hwS hpS hlS (fun F H t cs sy a1 a2 => rp_modP hff hz g200 hmS hwS hpS hlS g F H t cs sy a1 a2) hm0 (j := 38) (by decide) e38 hpx
                    · -- 182
                      have ho : one T t [29, 30, 31, 34, 35, 36, 37, 38] = 37 := by
                        show (if tis T t (txt 29) = 0 then (if tis T t (txt 30) = 0 then (if tis T t (txt 31) = 0 then (if tis T t (txt 34) = 0 then (if tis T t (txt 35) = 0 then (if tis T t (txt 36) = 0 then (if tis T t (txt 37) = 0 then (if tis T t (txt 38) = 0 then 0 else 38) else 37) else 36) else 35) else 34) else 31) else 30) else 29) = 37
                        rw [if_pos e29, if_pos e30, if_pos e31, if_pos e34, if_pos e35, if_pos e36, if_neg e37]
                      have hpx := ite_no hpx (show ¬ one T t [29, 30, 31, 34, 35, 36, 37, 38] = 0 by rw [ho]; decide)
                      rw [ho] at hpx
                      have hpx := ite_no hpx (show ¬ (37 : Nat) = 29 by decide)
                      have hpx := ite_no hpx (show ¬ (37 : Nat) = 30 by decide)
                      have hpx := ite_no hpx (show ¬ (37 : Nat) = 31 by decide)
                      exact rp_modE hff hz g200 hmS hwS hpS hlS (fun F H t cs sy a1 a2 => rp_modP hff hz g200 hmS hwS hpS hlS g F H t cs sy a1 a2) hm0 (j := 37) (by decide) e37 hpx
                  · -- 182
                    have ho : one T t [29, 30, 31, 34, 35, 36, 37, 38] = 36 := by
                      show (if tis T t (txt 29) = 0 then (if tis T t (txt 30) = 0 then (if tis T t (txt 31) = 0 then (if tis T t (txt 34) = 0 then (if tis T t (txt 35) = 0 then (if tis T t (txt 36) = 0 then (if tis T t (txt 37) = 0 then (if tis T t (txt 38) = 0 then 0 else 38) else 37) else 36) else 35) else 34) else 31) else 30) else 29) = 36
                      rw [if_pos e29, if_pos e30, if_pos e31, if_pos e34, if_pos e35, if_neg e36]
                    have hpx := ite_no hpx (show ¬ one T t [29, 30, 31, 34, 35, 36, 37, 38] = 0 by rw [ho]; decide)
                    rw [ho] at hpx
                    have hpx := ite_no hpx (show ¬ (36 : Nat) = 29 by decide)
                    have hpx := ite_no hpx (show ¬ (36 : Nat) = 30 by decide)
                    have hpx := ite_no hpx (show ¬ (36 : Nat) = 31 by decide)
                    exact rp_modE hff hz g200 hmS hwS hpS hlS (fun F H t cs sy a1 a2 => rp_modP hff hz g200 hmS hwS hpS hlS g F H t cs sy a1 a2) hm0 (j := 36) (by decide) e36 hpx
                · -- 182
                  have ho : one T t [29, 30, 31, 34, 35, 36, 37, 38] = 35 := by
                    show (if tis T t (txt 29) = 0 then (if tis T t (txt 30) = 0 then (if tis T t (txt 31) = 0 then (if tis T t (txt 34) = 0 then (if tis T t (txt 35) = 0 then (if tis T t (txt 36) = 0 then (if tis T t (txt 37) = 0 then (if tis T t (txt 38) = 0 then 0 else 38) else 37) else 36) else 35) else 34) else 31) else 30) else 29) = 35
                    rw [if_pos e29, if_pos e30, if_pos e31, if_pos e34, if_neg e35]
                  have hpx := ite_no hpx (show ¬ one T t [29, 30, 31, 34, 35, 36, 37, 38] = 0 by rw [ho]; decide)
                  rw [ho] at hpx
                  have hpx := ite_no hpx (show ¬ (35 : Nat) = 29 by decide)
                  have hpx := ite_no hpx (show ¬ (35 : Nat) = 30 by decide)
                  have hpx := ite_no hpx (show ¬ (35 : Nat) = 31 by decide)
                  exact rp_modE hff hz g200 hmS hwS hpS hlS (fun F H t cs sy a1 a2 => rp_modP hff hz g200 hmS hwS hpS hlS g F H t cs sy a1 a2) hm0 (j := 35) (by decide) e35 hpx
              · -- 182
                have ho : one T t [29, 30, 31, 34, 35, 36, 37, 38] = 34 := by
                  show (if tis T t (txt 29) = 0 then (if tis T t (txt 30) = 0 then (if tis T t (txt 31) = 0 then (if tis T t (txt 34) = 0 then (if tis T t (txt 35) = 0 then (if tis T t (txt 36) = 0 then (if tis T t (txt 37) = 0 then (if tis T t (txt 38) = 0 then 0 else 38) else 37) else 36) else 35) else 34) else 31) else 30) else 29) = 34
                  rw [if_pos e29, if_pos e30, if_pos e31, if_neg e34]
                have hpx := ite_no hpx (show ¬ one T t [29, 30, 31, 34, 35, 36, 37, 38] = 0 by rw [ho]; decide)
                rw [ho] at hpx
                have hpx := ite_no hpx (show ¬ (34 : Nat) = 29 by decide)
                have hpx := ite_no hpx (show ¬ (34 : Nat) = 30 by decide)
                have hpx := ite_no hpx (show ¬ (34 : Nat) = 31 by decide)
                exact rp_modE hff hz g200 hmS hwS hpS hlS (fun F H t cs sy a1 a2 => rp_modP hff hz g200 hmS hwS hpS hlS g F H t cs sy a1 a2) hm0 (j := 34) (by decide) e34 hpx
            · -- 182
              have ho : one T t [29, 30, 31, 34, 35, 36, 37, 38] = 31 := by
                show (if tis T t (txt 29) = 0 then (if tis T t (txt 30) = 0 then (if tis T t (txt 31) = 0 then (if tis T t (txt 34) = 0 then (if tis T t (txt 35) = 0 then (if tis T t (txt 36) = 0 then (if tis T t (txt 37) = 0 then (if tis T t (txt 38) = 0 then 0 else 38) else 37) else 36) else 35) else 34) else 31) else 30) else 29) = 31
                rw [if_pos e29, if_pos e30, if_neg e31]
              have hpx := ite_no hpx (show ¬ one T t [29, 30, 31, 34, 35, 36, 37, 38] = 0 by rw [ho]; decide)
              rw [ho] at hpx
              have hpx := ite_no hpx (show ¬ (31 : Nat) = 29 by decide)
              have hpx := ite_no hpx (show ¬ (31 : Nat) = 30 by decide)
              have hpx := ite_ye hpx (rfl : (31 : Nat) = 31)
              exact rp_mod31 hff hz g200 hmS hwS hpS hlS (fun F H t cs sy a1 a2 => rp_modP hff hz g200 hmS hwS hpS hlS g F H t cs sy a1 a2) hm0 e31 hpx
          · -- 182
            have ho : one T t [29, 30, 31, 34, 35, 36, 37, 38] = 30 := by
              show (if tis T t (txt 29) = 0 then (if tis T t (txt 30) = 0 then (if tis T t (txt 31) = 0 then (if tis T t (txt 34) = 0 then (if tis T t (txt 35) = 0 then (if tis T t (txt 36) = 0 then (if tis T t (txt 37) = 0 then (if tis T t (txt 38) = 0 then 0 else 38) else 37) else 36) else 35) else 34) else 31) else 30) else 29) = 30
              rw [if_pos e29, if_neg e30]
            have hpx := ite_no hpx (show ¬ one T t [29, 30, 31, 34, 35, 36, 37, 38] = 0 by rw [ho]; decide)
            rw [ho] at hpx
            have hpx := ite_no hpx (show ¬ (30 : Nat) = 29 by decide)
            have hpx := ite_ye hpx (rfl : (30 : Nat) = 30)
            exact rp_mod30 hff hz g200 hmS hwS hpS hlS (fun F H t cs sy a1 a2 => rp_modP hff hz g200 hmS hwS hpS hlS g F H t cs sy a1 a2) hm0 e30 hpx
        · -- 182
          have ho : one T t [29, 30, 31, 34, 35, 36, 37, 38] = 29 := by
            show (if tis T t (txt 29) = 0 then (if tis T t (txt 30) = 0 then (if tis T t (txt 31) = 0 then (if tis T t (txt 34) = 0 then (if tis T t (txt 35) = 0 then (if tis T t (txt 36) = 0 then (if tis T t (txt 37) = 0 then (if tis T t (txt 38) = 0 then 0 else 38) else 37) else 36) else 35) else 34) else 31) else 30) else 29) = 29
            rw [if_neg e29]
          have hpx := ite_no hpx (show ¬ one T t [29, 30, 31, 34, 35, 36, 37, 38] = 0 by rw [ho]; decide)
          rw [ho] at hpx
          have hpx := ite_ye hpx (rfl : (29 : Nat) = 29)
          exact rp_mod29 hff hz g200 hmS hwS hpS hlS (fun F H t cs sy a1 a2 => rp_modP hff hz g200 hmS hwS hpS hlS g F H t cs sy a1 a2) hm0 e29 hpx
      · -- 281
        have hpx := ite_no hpx h28
        refine mw_go mu_g53 (k := 1) (f1 := (282, [(1, .inr (.inr (some m))), (0, .inr (.inr (some 169)))], [.inr (.inr (some m))], H)) (C := []) rfl trivial ?_
        obtain ⟨s11, n11, p11, y11, kk11⟩ := hu.doneQ hs hy g200 hp (Nat.le_refl _)
        have kt11 := hk.tr kk11
        exact mw_of (fun _ => mu_ret rfl trivial (Or.inr ⟨_, _, rfl, _, _, _, _, A, cap, rfl, gok_eq hpx, s11, y11, ⟨w, pp, q, kt11.2.2.1 _ _ _ _ hmS, kt11.2.1 _ _ hwS, kt11.1 _ _ _ hpS, n11⟩, p11, by omega⟩))
