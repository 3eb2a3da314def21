/-! The reference: relation; lists in { } -/
theorem rp_rel_list {T : Nat → Int32} {n f d dep q s : Nat} {t0 : Tok} {F0 : Nat → Prop} {H0 : mu_H} {res : Nat ⊕ (Tre × Tok)} (hP0 : ∀ g, g ≤ f → pct T n g 0 491 14) (hz : mu_z H0 + pot n t0 + 40 ≤ 1000000) (g200 : 200 < mu_z H0) : ∀ g, g ≤ f → ∀ A F H t a c qs cs, pst T n t dep F H → nu H0 H F f q a c s 50 0 qs cs → pfr A F0 F H0 H → A + 27 * qs.length + pot n t ≤ pot n t0 + c → px T n g 25 dep cs t = some res → mu_W (mu_D (d + 6 * (150 - dep) + 14)) mu_m497 (47, [(2, .inr (.inr (some q))), (0, .inr (.inr (some 169)))], [], H) (fun r => (∃ H1, r = (.inr 0, H1) ∧ ∃ e, res = .inl e ∧ pbd T n e (pot n t0 + 30) H0 H1) ∨ ∃ v H1, r = (.inl v, H1) ∧ ∃ c t1 q F1, v = some (.inr (.inr (some q))) ∧ res = .inr (c, t1) ∧ pst T n t1 dep F1 H1 ∧ nd H1 F1 (f + 1) q c ∧ pot n t1 + 12 ≤ pot n t0 ∧ pfr (pot n t0 - pot n t1 - 12) F0 F1 H0 H1)
  | 0, _, _, _, _, _, _, _, _, _, _, _, _, _, hpx => by cases hpx
  | g + 1, hg, A, F, H, t, a, c, qs, cs, hs, hu, hp, hA0, hpx => by
    have hpx : pxL T n (px T n g) 50 25 dep cs t = some res := hpx
    unfold pxL at hpx
    have hcap := hu.cap
    have hA := hp.z
    have hd0 := hs.2.2.2.1.2
    refine mw_go mu_g497 (k := 2) (f1 := (50, [(2, .inr (.inr (some q))), (0, .inr (.inr (some 169)))], [.inr (.inr (some 1000014)), .inr (.inr (some 169))], H)) (C := []) rfl trivial ?_
    refine mw_cIe (fun _ => rfl) (show mu_is H (some 169) 1 from hs.is) (rp_isL (j := 14) hs (by decide)) ?_
    refine mw_if (P := (tis T t (txt 14)) = 0) (a := 72) (b := 56) (fun _ => rfl) trivial (fun h1 => ?_) (fun h1 => ?_)
    · -- 72
      have hpx := ite_ye hpx h1
      refine mw_go mu_g497 (k := 2) (f1 := (75, [(2, .inr (.inr (some q))), (0, .inr (.inr (some 169)))], [.inr (.inr (some 1000011)), .inr (.inr (some 169))], H)) (C := []) rfl trivial ?_
      refine mw_cX (as := [.inr (.inr (some (1000000 + 11)))]) (o := some 169) (S1 := []) rfl rfl rfl rfl (Nat.le_of_ble_eq_true rfl) (by decide) hs.is rfl (rp_expect hs (by omega) (j := 11) (by decide)) (fun H11 e => ?_) (fun v H11 e => ?_)
      · obtain ⟨e1, e2⟩ := e
        have hpx := exq_no hpx e1
        exact Or.inl ⟨_, rfl, _, hpx, (hp.bd e2).wk (by omega)⟩
      obtain ⟨rfl, e11, F11, s11, f11⟩ := e
      have hpx := exq_ye hpx e11
      have st11 : pot n (adv T n t) + ((adv T n t).2.2 - t.2.2 + 4) + 15 ≤ pot n t := pot_step (T := T) hs.tkf.2.2 (tis_ne e11)
      have f11 : pfr ((adv T n t).2.2 - t.2.2 + 4) F F11 H H11 := f11
      have u11 := hu.keep hs g200 f11
      have p11 := hp.tr f11
      have z11 := p11.z
      have s11 : pst T n (adv T n t) dep F11 H11 := s11
      show mu_W _ mu_m497 (78, [(2, .inr (.inr (some q))), (0, .inr (.inr (some 169)))], [], H11) _
      obtain ⟨F12, s12, n12, p12⟩ := u11.done s11 g200 p11
      have z12 := p12.z
      refine mw_go mu_g497 (k := 1) (f1 := (79, [(2, .inr (.inr (some q))), (0, .inr (.inr (some 169)))], [.inr (.inr (some q))], H11)) (C := []) rfl trivial ?_
      exact mw_of (fun _ => mu_ret rfl trivial (Or.inr ⟨_, _, rfl, _, _, q, F12, rfl, pok_eq hpx, s12, n12.le (by omega), by omega, p12.wk (by omega)⟩))
    · -- 56
      have hpx := ite_no hpx h1
      refine mw_go mu_g497 (k := 1) (f1 := (57, [(2, .inr (.inr (some q))), (0, .inr (.inr (some 169)))], [.inr (.inr (some 169))], H)) (C := []) rfl trivial ?_
      have st11 : pot n (adv T n t) + ((adv T n t).2.2 - t.2.2 + 4) + 15 ≤ pot n t := pot_step (T := T) hs.tkf.2.2 (tis_ne h1)
      refine mw_cV (fun _ => rfl) (show mu_is H (some 169) 1 from hs.is) (rp_advance hs (tis_ne h1) (by omega)) (fun H11 q11 => ?_)
      obtain ⟨F11, s11, f11⟩ := q11
      have f11 : pfr ((adv T n t).2.2 - t.2.2 + 4) F F11 H H11 := f11
      have u11 := hu.keep hs g200 f11
      have p11 := hp.tr f11
      have z11 := p11.z
      have s11 : pst T n (adv T n t) dep F11 H11 := s11
      show mu_W _ mu_m497 (60, [(2, .inr (.inr (some q))), (0, .inr (.inr (some 169)))], [], H11) _
      refine mw_go mu_g497 (k := 2) (f1 := (62, [(2, .inr (.inr (some q))), (0, .inr (.inr (some 169)))], [.inr (.inr (some 169)), .inr (.inr (some q))], H11)) (C := []) rfl trivial ?_
      obtain ⟨r12, hr12⟩ := pbi_some hpx
      refine mw_cX (as := []) (o := some 169) (S1 := [.inr (.inr (some q))]) rfl rfl rfl rfl (Nat.le_of_ble_eq_true rfl) (by decide) s11.is rfl (show mu_TX (mu_D (d + 6 * (150 - dep) + 14)) _ _ _ _ _ from by rw [show d + 6 * (150 - dep) + 14 = (d + 0) + 6 * (150 - dep) + 14 by omega]; exact hP0 g (by omega) (d + 0) dep _ F11 H11 r12 s11 (by omega) hr12) (fun H12 e => ?_) (fun v H12 e => ?_)
      · obtain ⟨e', e1, e2⟩ := e
        rw [hr12, e1] at hpx
        have hpx := pbi_inl hpx
        exact Or.inl ⟨_, rfl, _, hpx, (p11.bd e2).wk (by omega)⟩
      obtain ⟨cy, ty, qy, F12, rfl, e1, s12, n12, w12, f12⟩ := e
      rw [hr12, e1] at hpx
      have hpx := pbi_inr hpx
      have u12 := u11.keep s11 g200 f12
      have p12 := p11.tr f12
      have z12 := p12.z
      show mu_W _ mu_m497 (65, [(2, .inr (.inr (some q))), (0, .inr (.inr (some 169)))], [.inr (.inr (some qy)), .inr (.inr (some q))], H12) _
      have cp13 := u12.cap
      refine mw_cA (fun _ => rfl) (show mu_is H12 (some q) 18 from u12.is) (nd_addU u12 s12 g200 (n12.le (by omega)) (by omega) (by omega)) (fun r H13 q13 => ?_)
      obtain ⟨rfl, a13, c_13, v13, s13, hc13, k13⟩ := q13
      have cq13 := v13.cap
      simp only [List.length_append, List.length_cons, List.length_nil] at cp13 cq13
      have p13 := p12.kp k13 (fun p z => z) (by omega) (by omega)
      have z13 := p13.z
      show mu_W _ mu_m497 (68, [(2, .inr (.inr (some q))), (0, .inr (.inr (some 169)))], [.inr (.inr (some q))], H13) _
      refine mw_go mu_g497 (k := 2) (f1 := (47, [(2, .inr (.inr (some q))), (0, .inr (.inr (some 169)))], [], H13)) (C := []) rfl trivial ?_
      refine mw_sub (L' := [(2, .inr (.inr (some q))), (0, .inr (.inr (some 169)))]) (by simp) ?_
      refine rp_rel_list hP0 hz g200 g (by omega) _ _ _ _ _ _ (qs ++ [qy]) (cs ++ [cy]) s13 v13 p13 ?_ hpx
      simp only [List.length_append, List.length_cons, List.length_nil]
      omega
theorem rp_rel_cmp {T : Nat → Int32} {n f d dep : Nat} {t t1 : Tok} {F F1 : Nat → Prop} {H H1 : mu_H} {res : Nat ⊕ (Tre × Tok)} {q A j : Nat} {c : Tre} (hP6 : ∀ g, g ≤ f → pct T n g 6 498 14) (hz : mu_z H + pot n t + 40 ≤ 1000000) (g200 : 200 < mu_z H) (hot : mu_ot H1) (hs : pst T n t1 dep F1 H1) (hn : nd H1 F1 f q c) (p0 : pfr A F F1 H H1) (hA : A + pot n t1 + 12 ≤ pot n t) (hj : j < 27) (hj2 : ¬ tis T t1 (txt (1 + j)) = 0) (hpx : (pbi (px T n f 6 dep [] (adv T n t1)) fun c2 t2 => pok (tmk (1 + j) 0 [] [c, c2]) t2) = some res) : mu_W (mu_D (d + 6 * (150 - dep) + 14)) mu_m497 (146, [(1, .inr (.inr (some q))), (0, .inr (.inr (some 169)))], [], H1) (fun r => (∃ H1, r = (.inr 0, H1) ∧ ∃ e, res = .inl e ∧ pbd T n e (pot n t + 30) H H1) ∨ ∃ v H1, r = (.inl v, H1) ∧ ∃ c t1 q F1, v = some (.inr (.inr (some q))) ∧ res = .inr (c, t1) ∧ pst T n t1 dep F1 H1 ∧ nd H1 F1 (f + 1) q c ∧ pot n t1 + 12 ≤ pot n t ∧ pfr (pot n t - pot n t1 - 12) F F1 H H1) := by
  have z0 := p0.z
  have hd0 := hs.2.2.2.1.2
  refine mw_newo rfl (by decide) (by omega) ?_
  show mu_W _ mu_m497 (149, [(1, .inr (.inr (some q))), (0, .inr (.inr (some 169)))], [.inr (.inr (some (mu_z H1)))], (mu_nw H1 18 0 8)) _
  have kn11 : kep (fun _ => False) (0 + 1) (0 + 8) H1 (mu_nw H1 18 0 8) := kep.rf.nw (by omega)
  have sn11 : pst T n t1 dep F1 (mu_nw H1 18 0 8) := hs.kp kn11 (fun _ z => z.elim)
  obtain ⟨g1, g2, g3, g4, g5⟩ := sn11.sgr (s := j) hj hj2
  refine mw_go mu_g497 (k := 7) (f1 := (161, [(1, .inr (.inr (some q))), (0, .inr (.inr (some 169)))], [.inl ((mu_i (mu_nw H1 18 0 8) 169 7) - (10 : Int32)), .inr (.inr (mu_r (mu_nw H1 18 0 8) 169 4)), .inr (.inr (some (mu_z H1))), .inr (.inr (some (mu_z H1)))], (mu_nw H1 18 0 8))) (C := [mu_is (mu_nw H1 18 0 8) (some 169) 1, mu_is (mu_nw H1 18 0 8) (some 169) 1]) rfl (show (mu_is (mu_nw H1 18 0 8) (some 169) 1) ∧ (mu_is (mu_nw H1 18 0 8) (some 169) 1) from ⟨sn11.is, sn11.is⟩) ?_
  refine mw_fr (f' := (161, [(1, .inr (.inr (some q))), (0, .inr (.inr (some 169)))], [.inl (nI j), .inr (.inr (some 171)), .inr (.inr (some (mu_z H1))), .inr (.inr (some (mu_z H1)))], (mu_nw H1 18 0 8))) (by first | (rw [sn11.1.2.2.2.1.1, g1]; done) | (rw [sn11.1.2.2.2.1.1, g1]; rfl)) ?_
  refine mw_go mu_g497 (k := 1) (f1 := (162, [(1, .inr (.inr (some q))), (0, .inr (.inr (some 169)))], [.inr (.inr (mu_r (mu_nw H1 18 0 8) 171 (nI j).toNatClampNeg)), .inr (.inr (some (mu_z H1))), .inr (.inr (some (mu_z H1)))], (mu_nw H1 18 0 8))) (C := [mu_is (mu_nw H1 18 0 8) (some 171) (mu_k (mu_nw H1 18 0 8) 171), 103 ≤ mu_k (mu_nw H1 18 0 8) 171 ∧ mu_k (mu_nw H1 18 0 8) 171 ≤ 110 ∧ mu_k (mu_nw H1 18 0 8) 171 ≠ 108, vp_in (nI j) (mu_n (mu_nw H1 18 0 8) 171)]) rfl (show (mu_is (mu_nw H1 18 0 8) (some 171) (mu_k (mu_nw H1 18 0 8) 171)) ∧ (103 ≤ mu_k (mu_nw H1 18 0 8) 171 ∧ mu_k (mu_nw H1 18 0 8) 171 ≤ 110 ∧ mu_k (mu_nw H1 18 0 8) 171 ≠ 108) ∧ (vp_in (nI j) (mu_n (mu_nw H1 18 0 8) 171)) from ⟨g2, g3, g4⟩) ?_
  refine mw_fr (f' := (162, [(1, .inr (.inr (some q))), (0, .inr (.inr (some 169)))], [.inr (.inr (some (1000000 + (1 + j)))), .inr (.inr (some (mu_z H1))), .inr (.inr (some (mu_z H1)))], (mu_nw H1 18 0 8))) (by first | (rw [g5]; done) | (rw [g5]; rfl)) ?_
  refine mw_cV (fun _ => rfl) ⟨rfl, Nat.lt_succ_self _⟩ (nd_newS (H0 := H) (f := f) hs (by omega) (by omega) (stf.lit hot (j := 1 + j) (by omega)) (by omega)) (fun H11 q11 => ?_)
  obtain ⟨v11, s11, k11⟩ := q11
  have f11 : pfr (0 + 2) F1 F1 H1 H11 := pfr.rf.kp k11 (fun p z => z) (by omega) (by omega)
  have n11_1 := hn.keep hs f11
  have p11 := p0.tr f11
  have z11 := p11.z
  show mu_W _ mu_m497 (165, [(1, .inr (.inr (some q))), (0, .inr (.inr (some 169)))], [.inr (.inr (some (mu_z H1)))], H11) _
  refine mw_go mu_g497 (k := 1) (f1 := (166, [(1, .inr (.inr (some q))), (0, .inr (.inr (some 169)))], [.inr (.inr (some q)), .inr (.inr (some (mu_z H1)))], H11)) (C := []) rfl trivial ?_
  have cp12 := v11.cap
  refine mw_cA (fun _ => rfl) (show mu_is H11 (some (mu_z H1)) 18 from v11.is) (nd_addU v11 s11 g200 (n11_1.le (by omega)) (by omega) (by omega)) (fun r H12 q12 => ?_)
  obtain ⟨rfl, a12, c_12, v12, s12, hc12, k12⟩ := q12
  have cq12 := v12.cap
  simp only [List.length_append, List.length_cons, List.length_nil] at cp12 cq12
  have p12 := p11.kp k12 (fun p z => z) (by omega) (by omega)
  have z12 := p12.z
  show mu_W _ mu_m497 (169, [(1, .inr (.inr (some q))), (0, .inr (.inr (some 169)))], [.inr (.inr (some (mu_z H1)))], H12) _
  refine mw_go mu_g497 (k := 2) (f1 := (171, [(3, .inr (.inr (some (mu_z H1)))), (1, .inr (.inr (some q))), (0, .inr (.inr (some 169)))], [.inr (.inr (some 169))], H12)) (C := []) rfl trivial ?_
  have st13 : pot n (adv T n t1) + ((adv T n t1).2.2 - t1.2.2 + 4) + 15 ≤ pot n t1 := pot_step (T := T) s12.tkf.2.2 (tis_ne hj2)
  refine mw_cV (fun _ => rfl) (show mu_is H12 (some 169) 1 from s12.is) (rp_advance s12 (tis_ne hj2) (by omega)) (fun H13 q13 => ?_)
  obtain ⟨F13, s13, f13⟩ := q13
  have f13 : pfr ((adv T n t1).2.2 - t1.2.2 + 4) F1 F13 H12 H13 := f13
  have u13 := v12.keep s12 g200 f13
  have p13 := p12.tr f13
  have z13 := p13.z
  have s13 : pst T n (adv T n t1) dep F13 H13 := s13
  show mu_W _ mu_m497 (174, [(3, .inr (.inr (some (mu_z H1)))), (1, .inr (.inr (some q))), (0, .inr (.inr (some 169)))], [], H13) _
  refine mw_go mu_g497 (k := 2) (f1 := (176, [(3, .inr (.inr (some (mu_z H1)))), (1, .inr (.inr (some q))), (0, .inr (.inr (some 169)))], [.inr (.inr (some 169)), .inr (.inr (some (mu_z H1)))], H13)) (C := []) rfl trivial ?_
  obtain ⟨r14, hr14⟩ := pbi_some hpx
  refine mw_cX (as := []) (o := some 169) (S1 := [.inr (.inr (some (mu_z H1)))]) rfl rfl rfl rfl (Nat.le_of_ble_eq_true rfl) (by decide) s13.is rfl (show mu_TX (mu_D (d + 6 * (150 - dep) + 14)) _ _ _ _ _ from by rw [show d + 6 * (150 - dep) + 14 = (d + 0) + 6 * (150 - dep) + 14 by omega]; exact hP6 f (Nat.le_refl _) (d + 0) dep _ F13 H13 r14 s13 (by omega) hr14) (fun H14 e => ?_) (fun v H14 e => ?_)
  · obtain ⟨e', e1, e2⟩ := e
    rw [hr14, e1] at hpx
    have hpx := pbi_inl hpx
    exact Or.inl ⟨_, rfl, _, hpx, (p13.bd e2).wk (by omega)⟩
  obtain ⟨cy, ty, qy, F14, rfl, e1, s14, n14, w14, f14⟩ := e
  rw [hr14, e1] at hpx
  have hpx := pbi_inr hpx
  have u14 := u13.keep s13 g200 f14
  have p14 := p13.tr f14
  have z14 := p14.z
  show mu_W _ mu_m497 (179, [(3, .inr (.inr (some (mu_z H1)))), (1, .inr (.inr (some q))), (0, .inr (.inr (some 169)))], [.inr (.inr (some qy)), .inr (.inr (some (mu_z H1)))], H14) _
  have cp15 := u14.cap
  refine mw_cA (fun _ => rfl) (show mu_is H14 (some (mu_z H1)) 18 from u14.is) (nd_addU u14 s14 g200 (n14.le (by omega)) (by omega) (by omega)) (fun r H15 q15 => ?_)
  obtain ⟨rfl, a15, c_15, v15, s15, hc15, k15⟩ := q15
  have cq15 := v15.cap
  simp only [List.length_append, List.length_cons, List.length_nil] at cp15 cq15
  have p15 := p14.kp k15 (fun p z => z) (by omega) (by omega)
  have z15 := p15.z
  show mu_W _ mu_m497 (182, [(3, .inr (.inr (some (mu_z H1)))), (1, .inr (.inr (some q))), (0, .inr (.inr (some 169)))], [.inr (.inr (some (mu_z H1)))], H15) _
  obtain ⟨F16, s16, n16, p16⟩ := v15.done s15 g200 p15
  have z16 := p16.z
  exact mw_of (fun _ => mu_ret rfl trivial (Or.inr ⟨_, _, rfl, _, _, (mu_z H1), F16, rfl, pok_eq hpx, s16, n16.le (Nat.le_refl _), by omega, p16.wk (by omega)⟩))
/-- relation -/
theorem rp_relation {T : Nat → Int32} {n f : Nat} (hP6 : ∀ g, g ≤ f → pct T n g 6 498 14) (hP0 : ∀ g, g ≤ f → pct T n g 0 491 14) : pct T n (f + 1) 5 497 15 := by
  intro d dep t F H res hs hz hpx
  have hpx : px5 T n (px T n f) dep t = some res := hpx
  unfold px5 at hpx
  have g200 := hs.1.1
  have hd0 := hs.2.2.2.1.2
  have p0 : pfr 0 F F H H := pfr.rf
  have z0 := p0.z
  refine mu_MT.ot fun hot0 => ?_
  refine mu_meth (M := mu_m497) rfl rfl ?_
  refine mw_ht (mu_fn_of (show [0].Nodup by decide)) ?_
  refine mw_go mu_g497 (k := 1) (f1 := (1, [(0, .inr (.inr (some 169)))], [.inr (.inr (some 169))], H)) (C := []) rfl trivial ?_
  obtain ⟨r11, hr11⟩ := pbi_some hpx
  refine mw_cX (as := []) (o := some 169) (S1 := []) rfl rfl rfl rfl (Nat.le_of_ble_eq_true rfl) (by decide) hs.is rfl (show mu_TX (mu_D (d + 6 * (150 - dep) + 14)) _ _ _ _ _ from by rw [show d + 6 * (150 - dep) + 14 = (d + 0) + 6 * (150 - dep) + 14 by omega]; exact hP6 f (Nat.le_refl _) (d + 0) dep _ F H r11 hs (by omega) hr11) (fun H11 e => ?_) (fun v H11 e => ?_)
  · obtain ⟨e', e1, e2⟩ := e
    rw [hr11, e1] at hpx
    have hpx := pbi_inl hpx
    exact Or.inl ⟨_, rfl, _, hpx, (p0.bd e2).wk (by omega)⟩
  obtain ⟨cx, tx, qx, F11, rfl, e1, s11, n11, w11, f11⟩ := e
  rw [hr11, e1] at hpx
  have hpx := pbi_inr hpx
  have p11 := p0.tr f11
  have z11 := p11.z
  show mu_W _ mu_m497 (4, [(0, .inr (.inr (some 169)))], [.inr (.inr (some qx))], H11) _
  have hot : mu_ot H11 := mu_ot_same hot0 (fun p hp => p11.1.1.2.1 p (Or.inr hp) (fun z => by have := (hs.nF p z).2; omega))
  refine mw_go mu_g497 (k := 1) (f1 := (5, [(1, .inr (.inr (some qx))), (0, .inr (.inr (some 169)))], [], H11)) (C := []) rfl trivial ?_
  refine mw_go mu_g497 (k := 2) (f1 := (8, [(1, .inr (.inr (some qx))), (0, .inr (.inr (some 169)))], [.inr (.inr (some 1000050)), .inr (.inr (some 169))], H11)) (C := []) rfl trivial ?_
  refine mw_cIe (fun _ => rfl) (show mu_is H11 (some 169) 1 from s11.is) (rp_isL (j := 50) s11 (by decide)) ?_
  refine mw_if (P := (tis T tx (txt 50)) = 0) (a := 80) (b := 14) (fun _ => rfl) trivial (fun h50 => ?_) (fun h50 => ?_)
  · -- 80
    have hpx := ite_ye hpx h50
    refine mw_go mu_g497 (k := 2) (f1 := (83, [(1, .inr (.inr (some qx))), (0, .inr (.inr (some 169)))], [.inr (.inr (some 1000021)), .inr (.inr (some 169))], H11)) (C := []) rfl trivial ?_
    refine mw_cIe (fun _ => rfl) (show mu_is H11 (some 169) 1 from s11.is) (rp_isL (j := 21) s11 (by decide)) ?_
    refine mw_if (P := (tis T tx (txt 21)) = 0) (a := 89) (b := 134) (fun _ => rfl) trivial (fun e21 => ?_) (fun e21 => ?_)
    · -- 89
      refine mw_go mu_g497 (k := 2) (f1 := (92, [(1, .inr (.inr (some qx))), (0, .inr (.inr (some 169)))], [.inr (.inr (some 1000005)), .inr (.inr (some 169))], H11)) (C := []) rfl trivial ?_
      refine mw_cIe (fun _ => rfl) (show mu_is H11 (some 169) 1 from s11.is) (rp_isL (j := 5) s11 (by decide)) ?_
      refine mw_if (P := (tis T tx (txt 5)) = 0) (a := 98) (b := 134) (fun _ => rfl) trivial (fun e5 => ?_) (fun e5 => ?_)
      · -- 98
        refine mw_go mu_g497 (k := 2) (f1 := (101, [(1, .inr (.inr (some qx))), (0, .inr (.inr (some 169)))], [.inr (.inr (some 1000022)), .inr (.inr (some 169))], H11)) (C := []) rfl trivial ?_
        refine mw_cIe (fun _ => rfl) (show mu_is H11 (some 169) 1 from s11.is) (rp_isL (j := 22) s11 (by decide)) ?_
        refine mw_if (P := (tis T tx (txt 22)) = 0) (a := 107) (b := 134) (fun _ => rfl) trivial (fun e22 => ?_) (fun e22 => ?_)
        · -- 107
          refine mw_go mu_g497 (k := 2) (f1 := (110, [(1, .inr (.inr (some qx))), (0, .inr (.inr (some 169)))], [.inr (.inr (some 1000006)), .inr (.inr (some 169))], H11)) (C := []) rfl trivial ?_
          refine mw_cIe (fun _ => rfl) (show mu_is H11 (some 169) 1 from s11.is) (rp_isL (j := 6) s11 (by decide)) ?_
          refine mw_if (P := (tis T tx (txt 6)) = 0) (a := 116) (b := 134) (fun _ => rfl) trivial (fun e6 => ?_) (fun e6 => ?_)
          · -- 116
            refine mw_go mu_g497 (k := 2) (f1 := (119, [(1, .inr (.inr (some qx))), (0, .inr (.inr (some 169)))], [.inr (.inr (some 1000023)), .inr (.inr (some 169))], H11)) (C := []) rfl trivial ?_
            refine mw_cIe (fun _ => rfl) (show mu_is H11 (some 169) 1 from s11.is) (rp_isL (j := 23) s11 (by decide)) ?_
            refine mw_if (P := (tis T tx (txt 23)) = 0) (a := 125) (b := 134) (fun _ => rfl) trivial (fun e23 => ?_) (fun e23 => ?_)
            · -- 125
              refine mw_go mu_g497 (k := 2) (f1 := (128, [(1, .inr (.inr (some qx))), (0, .inr (.inr (some 169)))], [.inr (.inr (some 1000007)), .inr (.inr (some 169))], H11)) (C := []) rfl trivial ?_
              refine mw_cIe (fun _ => rfl) (show mu_is H11 (some 169) 1 from s11.is) (rp_isL (j := 7) s11 (by decide)) ?_
              refine mw_if (P := (tis T tx (txt 7)) = 0) (a := 138) (b := 134) (fun _ => rfl) trivial (fun e7 => ?_) (fun e7 => ?_)
              · -- 138
                have ho : one T tx [21, 5, 22, 6, 23, 7] = 0 := by
                  show (if tis T tx (txt 21) = 0 then (if tis T tx (txt 5) = 0 then (if tis T tx (txt 22) = 0 then (if tis T tx (txt 6) = 0 then (if tis T tx (txt 23) = 0 then (if tis T tx (txt 7) = 0 then 0 else 7) else 23) else 6) else 22) else 5) else 21) = 0
                  rw [if_pos e21, if_pos e5, if_pos e22, if_pos e6, if_pos e23, if_pos e7]
                have hpx := ite_ye hpx ho
                refine mw_go mu_g497 (k := 3) (f1 := (141, [(2, .inl (0 : Int32)), (1, .inr (.inr (some qx))), (0, .inr (.inr (some 169)))], [.inl (0 : Int32)], H11)) (C := []) rfl trivial ?_
                refine mw_if (P := (0 : Int32) = 0) (a := 144) (b := 146) (fun _ => rfl) trivial (fun h9 => ?_) (fun h9 => absurd (show (0 : Int32) = 0 from rfl) h9)
                refine mw_go mu_g497 (k := 1) (f1 := (145, [(2, .inl (0 : Int32)), (1, .inr (.inr (some qx))), (0, .inr (.inr (some 169)))], [.inr (.inr (some qx))], H11)) (C := []) rfl trivial ?_
                exact mw_of (fun _ => mu_ret rfl trivial (Or.inr ⟨_, _, rfl, _, _, qx, F11, rfl, pok_eq hpx, s11, n11.le (Nat.le_succ _), by omega, p11.wk (by omega)⟩))
              · -- 134
                have ho : one T tx [21, 5, 22, 6, 23, 7] = 7 := by
                  show (if tis T tx (txt 21) = 0 then (if tis T tx (txt 5) = 0 then (if tis T tx (txt 22) = 0 then (if tis T tx (txt 6) = 0 then (if tis T tx (txt 23) = 0 then (if tis T tx (txt 7) = 0 then 0 else 7) else 23) else 6) else 22) else 5) else 21) = 7
                  rw [if_pos e21, if_pos e5, if_pos e22, if_pos e6, if_pos e23, if_neg e7]
                have hpx := ite_no hpx (show ¬ one T tx [21, 5, 22, 6, 23, 7] = 0 by rw [ho]; decide)
                rw [ho] at hpx
                refine mw_go mu_g497 (k := 4) (f1 := (141, [(2, .inl (1 : Int32)), (1, .inr (.inr (some qx))), (0, .inr (.inr (some 169)))], [.inl (1 : Int32)], H11)) (C := []) rfl trivial ?_
                refine mw_if (P := (1 : Int32) = 0) (a := 144) (b := 146) (fun _ => rfl) trivial (fun h9 => absurd (show (1 : Int32) = 0 from h9) (by decide)) (fun h9 => ?_)
                refine mw_sub (L' := [(1, .inr (.inr (some qx))), (0, .inr (.inr (some 169)))]) (by simp) ?_
                exact rp_rel_cmp hP6 hz g200 hot s11 n11 p11 (by omega) (j := 6) (by decide) e7 hpx
            · -- 134
              have ho : one T tx [21, 5, 22, 6, 23, 7] = 23 := by
                show (if tis T tx (txt 21) = 0 then (if tis T tx (txt 5) = 0 then (if tis T tx (txt 22) = 0 then (if tis T tx (txt 6) = 0 then (if tis T tx (txt 23) = 0 then (if tis T tx (txt 7) = 0 then 0 else 7) else 23) else 6) else 22) else 5) else 21) = 23
                rw [if_pos e21, if_pos e5, if_pos e22, if_pos e6, if_neg e23]
              have hpx := ite_no hpx (show ¬ one T tx [21, 5, 22, 6, 23, 7] = 0 by rw [ho]; decide)
              rw [ho] at hpx
              refine mw_go mu_g497 (k := 4) (f1 := (141, [(2, .inl (1 : Int32)), (1, .inr (.inr (some qx))), (0, .inr (.inr (some 169)))], [.inl (1 : Int32)], H11)) (C := []) rfl trivial ?_
              refine mw_if (P := (1 : Int32) = 0) (a := 144) (b := 146) (fun _ => rfl) trivial (fun h9 => absurd (show (1 : Int32) = 0 from h9) (by decide)) (fun h9 => ?_)
              refine mw_sub (L' := [(1, .inr (.inr (some qx))), (0, .inr (.inr (some 169)))]) (by simp) ?_
              exact rp_rel_cmp hP6 hz g200 hot s11 n11 p11 (by omega) (j := 22) (by decide) e23 hpx
          · -- 134
            have ho : one T tx [21, 5, 22, 6, 23, 7] = 6 := by
              show (if tis T tx (txt 21) = 0 then (if tis T tx (txt 5) = 0 then (if tis T tx (txt 22) = 0 then (if tis T tx (txt 6) = 0 then (if tis T tx (txt 23) = 0 then (if tis T tx (txt 7) = 0 then 0 else 7) else 23) else 6) else 22) else 5) else 21) = 6
              rw [if_pos e21, if_pos e5, if_pos e22, if_neg e6]
            have hpx := ite_no hpx (show ¬ one T tx [21, 5, 22, 6, 23, 7] = 0 by rw [ho]; decide)
            rw [ho] at hpx
            refine mw_go mu_g497 (k := 4) (f1 := (141, [(2, .inl (1 : Int32)), (1, .inr (.inr (some qx))), (0, .inr (.inr (some 169)))], [.inl (1 : Int32)], H11)) (C := []) rfl trivial ?_
            refine mw_if (P := (1 : Int32) = 0) (a := 144) (b := 146) (fun _ => rfl) trivial (fun h9 => absurd (show (1 : Int32) = 0 from h9) (by decide)) (fun h9 => ?_)
            refine mw_sub (L' := [(1, .inr (.inr (some qx))), (0, .inr (.inr (some 169)))]) (by simp) ?_
            exact rp_rel_cmp hP6 hz g200 hot s11 n11 p11 (by omega) (j := 5) (by decide) e6 hpx
        · -- 134
          have ho : one T tx [21, 5, 22, 6, 23, 7] = 22 := by
            show (if tis T tx (txt 21) = 0 then (if tis T tx (txt 5) = 0 then (if tis T tx (txt 22) = 0 then (if tis T tx (txt 6) = 0 then (if tis T tx (txt 23) = 0 then (if tis T tx (txt 7) = 0 then 0 else 7) else 23) else 6) else 22) else 5) else 21) = 22
            rw [if_pos e21, if_pos e5, if_neg e22]
          have hpx := ite_no hpx (show ¬ one T tx [21, 5, 22, 6, 23, 7] = 0 by rw [ho]; decide)
          rw [ho] at hpx
          refine mw_go mu_g497 (k := 4) (f1 := (141, [(2, .inl (1 : Int32)), (1, .inr (.inr (some qx))), (0, .inr (.inr (some 169)))], [.inl (1 : Int32)], H11)) (C := []) rfl trivial ?_
          refine mw_if (P := (1 : Int32) = 0) (a := 144) (b := 146) (fun _ => rfl) trivial (fun h9 => absurd (show (1 : Int32) = 0 from h9) (by decide)) (fun h9 => ?_)
          refine mw_sub (L' := [(1, .inr (.inr (some qx))), (0, .inr (.inr (some 169)))]) (by simp) ?_
          exact rp_rel_cmp hP6 hz g200 hot s11 n11 p11 (by omega) (j := 21) (by decide) e22 hpx
      · -- 134
        have ho : one T tx [21, 5, 22, 6, 23, 7] = 5 := by
          show (if tis T tx (txt 21) = 0 then (if tis T tx (txt 5) = 0 then (if tis T tx (txt 22) = 0 then (if tis T tx (txt 6) = 0 then (if tis T tx (txt 23) = 0 then (if tis T tx (txt 7) = 0 then 0 else 7) else 23) else 6) else 22) else 5) else 21) = 5
          rw [if_pos e21, if_neg e5]
        have hpx := ite_no hpx (show ¬ one T tx [21, 5, 22, 6, 23, 7] = 0 by rw [ho]; decide)
        rw [ho] at hpx
        refine mw_go mu_g497 (k := 4) (f1 := (141, [(2, .inl (1 : Int32)), (1, .inr (.inr (some qx))), (0, .inr (.inr (some 169)))], [.inl (1 : Int32)], H11)) (C := []) rfl trivial ?_
        refine mw_if (P := (1 : Int32) = 0) (a := 144) (b := 146) (fun _ => rfl) trivial (fun h9 => absurd (show (1 : Int32) = 0 from h9) (by decide)) (fun h9 => ?_)
        refine mw_sub (L' := [(1, .inr (.inr (some qx))), (0, .inr (.inr (some 169)))]) (by simp) ?_
        exact rp_rel_cmp hP6 hz g200 hot s11 n11 p11 (by omega) (j := 4) (by decide) e5 hpx
    · -- 134
      have ho : one T tx [21, 5, 22, 6, 23, 7] = 21 := by
        show (if tis T tx (txt 21) = 0 then (if tis T tx (txt 5) = 0 then (if tis T tx (txt 22) = 0 then (if tis T tx (txt 6) = 0 then (if tis T tx (txt 23) = 0 then (if tis T tx (txt 7) = 0 then 0 else 7) else 23) else 6) else 22) else 5) else 21) = 21
        rw [if_neg e21]
      have hpx := ite_no hpx (show ¬ one T tx [21, 5, 22, 6, 23, 7] = 0 by rw [ho]; decide)
      rw [ho] at hpx
      refine mw_go mu_g497 (k := 4) (f1 := (141, [(2, .inl (1 : Int32)), (1, .inr (.inr (some qx))), (0, .inr (.inr (some 169)))], [.inl (1 : Int32)], H11)) (C := []) rfl trivial ?_
      refine mw_if (P := (1 : Int32) = 0) (a := 144) (b := 146) (fun _ => rfl) trivial (fun h9 => absurd (show (1 : Int32) = 0 from h9) (by decide)) (fun h9 => ?_)
      refine mw_sub (L' := [(1, .inr (.inr (some qx))), (0, .inr (.inr (some 169)))]) (by simp) ?_
      exact rp_rel_cmp hP6 hz g200 hot s11 n11 p11 (by omega) (j := 20) (by decide) e21 hpx
  · -- 14
    have hpx := ite_no hpx h50
    refine mw_go mu_g497 (k := 1) (f1 := (15, [(1, .inr (.inr (some qx))), (0, .inr (.inr (some 169)))], [.inr (.inr (some 169))], H11)) (C := []) rfl trivial ?_
    have st12 : pot n (adv T n tx) + ((adv T n tx).2.2 - tx.2.2 + 4) + 15 ≤ pot n tx := pot_step (T := T) s11.tkf.2.2 (tis_ne h50)
    refine mw_cV (fun _ => rfl) (show mu_is H11 (some 169) 1 from s11.is) (rp_advance s11 (tis_ne h50) (by omega)) (fun H12 q12 => ?_)
    obtain ⟨F12, s12, f12⟩ := q12
    have f12 : pfr ((adv T n tx).2.2 - tx.2.2 + 4) F11 F12 H11 H12 := f12
    have n12_1 := n11.keep s11 f12
    have p12 := p11.tr f12
    have z12 := p12.z
    have s12 : pst T n (adv T n tx) dep F12 H12 := s12
    show mu_W _ mu_m497 (18, [(1, .inr (.inr (some qx))), (0, .inr (.inr (some 169)))], [], H12) _
    refine mw_newo rfl (by decide) (by omega) ?_
    show mu_W _ mu_m497 (21, [(1, .inr (.inr (some qx))), (0, .inr (.inr (some 169)))], [.inr (.inr (some (mu_z H12)))], (mu_nw H12 18 0 8)) _
    refine mw_go mu_g497 (k := 2) (f1 := (24, [(1, .inr (.inr (some qx))), (0, .inr (.inr (some 169)))], [.inr (.inr (some 1000050)), .inr (.inr (some (mu_z H12))), .inr (.inr (some (mu_z H12)))], (mu_nw H12 18 0 8))) (C := []) rfl trivial ?_
    refine mw_cV (fun _ => rfl) ⟨rfl, Nat.lt_succ_self _⟩ (nd_newL (j := 50) (H0 := H) (f := f) s12 (by omega) (by omega) (by decide)) (fun H13 q13 => ?_)
    obtain ⟨v13, s13, k13⟩ := q13
    have f13 : pfr (0 + 2) F12 F12 H12 H13 := pfr.rf.kp k13 (fun p z => z) (by omega) (by omega)
    have n13_1 := n12_1.keep s12 f13
    have p13 := p12.tr f13
    have z13 := p13.z
    show mu_W _ mu_m497 (27, [(1, .inr (.inr (some qx))), (0, .inr (.inr (some 169)))], [.inr (.inr (some (mu_z H12)))], H13) _
    refine mw_go mu_g497 (k := 1) (f1 := (28, [(1, .inr (.inr (some qx))), (0, .inr (.inr (some 169)))], [.inr (.inr (some qx)), .inr (.inr (some (mu_z H12)))], H13)) (C := []) rfl trivial ?_
    have cp14 := v13.cap
    refine mw_cA (fun _ => rfl) (show mu_is H13 (some (mu_z H12)) 18 from v13.is) (nd_addU v13 s13 g200 (n13_1.le (by omega)) (by omega) (by omega)) (fun r H14 q14 => ?_)
    obtain ⟨rfl, a14, c_14, v14, s14, hc14, k14⟩ := q14
    have cq14 := v14.cap
    simp only [List.length_append, List.length_cons, List.length_nil] at cp14 cq14
    have p14 := p13.kp k14 (fun p z => z) (by omega) (by omega)
    have z14 := p14.z
    show mu_W _ mu_m497 (31, [(1, .inr (.inr (some qx))), (0, .inr (.inr (some 169)))], [.inr (.inr (some (mu_z H12)))], H14) _
    refine mw_go mu_g497 (k := 1) (f1 := (32, [(2, .inr (.inr (some (mu_z H12)))), (1, .inr (.inr (some qx))), (0, .inr (.inr (some 169)))], [], H14)) (C := []) rfl trivial ?_
    refine mw_go mu_g497 (k := 2) (f1 := (35, [(2, .inr (.inr (some (mu_z H12)))), (1, .inr (.inr (some qx))), (0, .inr (.inr (some 169)))], [.inr (.inr (some 1000010)), .inr (.inr (some 169))], H14)) (C := []) rfl trivial ?_
    refine mw_cX (as := [.inr (.inr (some (1000000 + 10)))]) (o := some 169) (S1 := []) rfl rfl rfl rfl (Nat.le_of_ble_eq_true rfl) (by decide) s14.is rfl (rp_expect s14 (by omega) (j := 10) (by decide)) (fun H15 e => ?_) (fun v H15 e => ?_)
    · obtain ⟨e1, e2⟩ := e
      have hpx := exq_no hpx e1
      exact Or.inl ⟨_, rfl, _, hpx, (p14.bd e2).wk (by omega)⟩
    obtain ⟨rfl, e15, F15, s15, f15⟩ := e
    have hpx := exq_ye hpx e15
    have st15 : pot n (adv T n (adv T n tx)) + ((adv T n (adv T n tx)).2.2 - (adv T n tx).2.2 + 4) + 15 ≤ pot n (adv T n tx) := pot_step (T := T) s14.tkf.2.2 (tis_ne e15)
    have f15 : pfr ((adv T n (adv T n tx)).2.2 - (adv T n tx).2.2 + 4) F12 F15 H14 H15 := f15
    have u15 := v14.keep s14 g200 f15
    have p15 := p14.tr f15
    have z15 := p15.z
    have s15 : pst T n (adv T n (adv T n tx)) dep F15 H15 := s15
    show mu_W _ mu_m497 (38, [(2, .inr (.inr (some (mu_z H12)))), (1, .inr (.inr (some qx))), (0, .inr (.inr (some 169)))], [], H15) _
    refine mw_go mu_g497 (k := 2) (f1 := (40, [(2, .inr (.inr (some (mu_z H12)))), (1, .inr (.inr (some qx))), (0, .inr (.inr (some 169)))], [.inr (.inr (some 169)), .inr (.inr (some (mu_z H12)))], H15)) (C := []) rfl trivial ?_
    obtain ⟨r16, hr16⟩ := pbi_some hpx
    refine mw_cX (as := []) (o := some 169) (S1 := [.inr (.inr (some (mu_z H12)))]) rfl rfl rfl rfl (Nat.le_of_ble_eq_true rfl) (by decide) s15.is rfl (show mu_TX (mu_D (d + 6 * (150 - dep) + 14)) _ _ _ _ _ from by rw [show d + 6 * (150 - dep) + 14 = (d + 0) + 6 * (150 - dep) + 14 by omega]; exact hP0 f (Nat.le_refl _) (d + 0) dep _ F15 H15 r16 s15 (by omega) hr16) (fun H16 e => ?_) (fun v H16 e => ?_)
    · obtain ⟨e', e1, e2⟩ := e
      rw [hr16, e1] at hpx
      have hpx := pbi_inl hpx
      exact Or.inl ⟨_, rfl, _, hpx, (p15.bd e2).wk (by omega)⟩
    obtain ⟨cy, ty, qy, F16, rfl, e1, s16, n16, w16, f16⟩ := e
    rw [hr16, e1] at hpx
    have hpx := pbi_inr hpx
    have u16 := u15.keep s15 g200 f16
    have p16 := p15.tr f16
    have z16 := p16.z
    show mu_W _ mu_m497 (43, [(2, .inr (.inr (some (mu_z H12)))), (1, .inr (.inr (some qx))), (0, .inr (.inr (some 169)))], [.inr (.inr (some qy)), .inr (.inr (some (mu_z H12)))], H16) _
    have cp17 := u16.cap
    refine mw_cA (fun _ => rfl) (show mu_is H16 (some (mu_z H12)) 18 from u16.is) (nd_addU u16 s16 g200 (n16.le (by omega)) (by omega) (by omega)) (fun r H17 q17 => ?_)
    obtain ⟨rfl, a17, c_17, v17, s17, hc17, k17⟩ := q17
    have cq17 := v17.cap
    simp only [List.length_append, List.length_cons, List.length_nil] at cp17 cq17
    have p17 := p16.kp k17 (fun p z => z) (by omega) (by omega)
    have z17 := p17.z
    show mu_W _ mu_m497 (46, [(2, .inr (.inr (some (mu_z H12)))), (1, .inr (.inr (some qx))), (0, .inr (.inr (some 169)))], [.inr (.inr (some (mu_z H12)))], H17) _
    refine mw_go mu_g497 (k := 1) (f1 := (47, [(2, .inr (.inr (some (mu_z H12)))), (1, .inr (.inr (some qx))), (0, .inr (.inr (some 169)))], [], H17)) (C := []) rfl trivial ?_
    refine mw_sub (L' := [(2, .inr (.inr (some (mu_z H12)))), (0, .inr (.inr (some 169)))]) (by simp) ?_
    refine rp_rel_list hP0 hz g200 f (Nat.le_refl _) _ _ _ _ _ _ _ _ s17 v17 p17 ?_ hpx
    simp only [List.length_append, List.length_cons, List.length_nil]
    omega
