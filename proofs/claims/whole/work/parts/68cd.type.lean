/-! The reference: type (of a VAR) -/
/-- PathProverModel.type()LPathProverModel$Node; -/
abbrev mu_m506 : ev_M := (4, (some (.object "PathProverModel$Node")), [], ev_b506)
theorem mu_g506 : mu_good mu_m506 := mu_goodk ev_k506
/-- how many values a set has -/
def tsz (c : Tre) : Nat := match c [] with
  | some i => if i.1 = 69 then i.2.2.2 else 0
  | none => 0
/-- the values in { } -/
noncomputable def pxT1 (T : Nat → Int32) (n : Nat) : Nat → List Tre → Tok → PR
  | 0, _, _ => none
  | g + 1, cs, t => if tis T t (txt 14) = 0 then exq T n 11 t (fun t1 => pok (tmk 69 0 [] cs) t1) else pbi (pxv T n (adv T n t)) fun c t1 => pxT1 T n g (cs ++ [c]) t1
/-- what is given to an INSTANCE -/
noncomputable def pxT2 (T : Nat → Int32) (n f dep : Nat) (nm : List Int32) : Nat → List Tre → Tok → PR
  | 0, _, _ => none
  | g + 1, cs, t => if tis T t (txt 14) = 0 then exq T n 9 t (fun t1 => pok (tmk 72 0 [nm] cs) t1) else nst dep (adv T n t) fun dep1 => pbi (px T n f 0 dep1 [] (adv T n t)) fun c t1 => pxT2 T n f dep nm g (cs ++ [c]) t1
/-- a TYPE -/
noncomputable def pxT (T : Nat → Int32) (n f dep : Nat) (t : Tok) : PR :=
  if tis T t (txt 39) = 0 then
    (if tis T t (txt 10) = 0 then
      (if nmz T t = 0 then
        (if (whk T n t).1 = 3 then exq T n 4 (adv T n (whk T n t)) fun t2 => if (whk T n t2).1 = 3 then pok (tmk 71 0 [] [tmk 63 (whv T n t) [] [], tmk 63 (whv T n t2) [] []]) (adv T n (whk T n t2)) else per (whk T n t2) else per (whk T n t))
       else if tis T (adv T n t) (txt 8) = 0 then pok (tmk 72 0 [slc T t.2.1 t.2.2] []) (adv T n t) else nst dep (adv T n (adv T n t)) fun dep1 => pbi (px T n f 0 dep1 [] (adv T n (adv T n t))) fun c t1 => pxT2 T n f dep (slc T t.2.1 t.2.2) f [c] t1)
     else pbi (pxv T n (adv T n t)) fun c t1 => pxT1 T n f [c] t1)
  else pok (tmk 39 0 [] []) (adv T n t)
theorem rp_ty1 {T : Nat → Int32} {n f d dep q s : Nat} {t0 : Tok} {F0 : Nat → Prop} {H0 : mu_H} {res : Nat ⊕ (Tre × Tok)} (hz : mu_z H0 + pot n t0 + 60 ≤ 1000000) (g200 : 200 < mu_z H0) : ∀ g A F H t a c qs cs, pst T n t dep F H → nun H0 H F (f + 1) q a c s 69 0 [] qs cs → pfr A F0 F H0 H → A + 25 * qs.length + pot n t ≤ pot n t0 + c ∧ 1 ≤ qs.length → pxT1 T n g cs t = some res → mu_W (mu_D (d + 6 * (150 - dep) + 11)) mu_m506 (54, [(1, .inr (.inr (some q))), (0, .inr (.inr (some 169)))], [], H) (fun r => (∃ H1, r = (.inr 0, H1) ∧ ∃ e, res = .inl e ∧ pbd T n e (pot n t0 + 50) H0 H1) ∨ ∃ v H1, r = (.inl v, H1) ∧ ∃ c t1 q F1, v = some (.inr (.inr (some q))) ∧ res = .inr (c, t1) ∧ pst T n t1 dep F1 H1 ∧ nd H1 F1 (f + 2) q c ∧ pot n t1 + 12 + 9 * tsz c ≤ pot n t0 ∧ pfr (pot n t0 - pot n t1 - 12 - 9 * tsz c) F0 F1 H0 H1)
  | 0, _, _, _, _, _, _, _, _, _, _, _, _, hpx => by cases hpx
  | g + 1, A, F, H, t, a, c, qs, cs, hs, hu, hp, hA0, hpx => by
    rw [pxT1] at hpx
    have hcap := hu.cap
    have hA := hp.z
    refine mw_go mu_g506 (k := 2) (f1 := (57, [(1, .inr (.inr (some q))), (0, .inr (.inr (some 169)))], [.inr (.inr (some 1000014)), .inr (.inr (some 169))], H)) (C := []) rfl trivial ?_
    refine mw_cIe (fun _ => rfl) (show mu_is H (some 169) 1 from hs.is) (rp_isL (j := 14) hs (by decide)) ?_
    refine mw_if (P := (tis T t (txt 14)) = 0) (a := 79) (b := 63) (fun _ => rfl) trivial (fun h1 => ?_) (fun h1 => ?_)
    · -- 79
      have hpx := ite_ye hpx h1
      refine mw_go mu_g506 (k := 2) (f1 := (82, [(1, .inr (.inr (some q))), (0, .inr (.inr (some 169)))], [.inr (.inr (some 1000011)), .inr (.inr (some 169))], H)) (C := []) rfl trivial ?_
      refine mw_cX (as := [.inr (.inr (some (1000000 + 11)))]) (o := some 169) (S1 := []) rfl rfl rfl rfl (Nat.le_of_ble_eq_true rfl) (by decide) hs.is rfl (rp_expect hs (by omega) (j := 11) (by decide)) (fun H11 e => ?_) (fun v H11 e => ?_)
      · obtain ⟨e1, e2⟩ := e
        have hpx := exq_no hpx e1
        exact Or.inl ⟨_, rfl, _, hpx, (hp.bd e2).wk (by omega)⟩
      obtain ⟨rfl, e11, F11, s11, f11⟩ := e
      have hpx := exq_ye hpx e11
      have st11 : pot n (adv T n t) + ((adv T n t).2.2 - t.2.2 + 4) + 15 ≤ pot n t := pot_step (T := T) hs.tkf.2.2 (tis_ne e11)
      have f11 : pfr ((adv T n t).2.2 - t.2.2 + 4) F F11 H H11 := f11
      have zm11 := f11.z
      have u11_0 := hu.keep hs g200 f11
      have p11 := hp.tr f11
      have z11 := p11.z
      have s11 : pst T n (adv T n t) dep F11 H11 := s11
      show mu_W _ mu_m506 (85, [(1, .inr (.inr (some q))), (0, .inr (.inr (some 169)))], [], H11) _
      refine mw_go mu_g506 (k := 1) (f1 := (86, [(1, .inr (.inr (some q))), (0, .inr (.inr (some 169)))], [.inr (.inr (some q))], H11)) (C := []) rfl trivial ?_
      obtain ⟨F12, s12, n12, p12⟩ := u11_0.done s11 g200 p11
      have z12 := p12.z
      have hts : tsz (tmk 69 0 [] cs) = cs.length := rfl
      exact mw_of (fun _ => mu_ret rfl trivial (Or.inr ⟨_, _, rfl, _, _, q, F12, rfl, pok_eq hpx, s12, n12.le (by omega), by omega, p12.wk (by omega)⟩))
    · -- 63
      have hpx := ite_no hpx h1
      refine mw_go mu_g506 (k := 1) (f1 := (64, [(1, .inr (.inr (some q))), (0, .inr (.inr (some 169)))], [.inr (.inr (some 169))], H)) (C := []) rfl trivial ?_
      have st11 : pot n (adv T n t) + ((adv T n t).2.2 - t.2.2 + 4) + 15 ≤ pot n t := pot_step (T := T) hs.tkf.2.2 (tis_ne h1)
      refine mw_cV (fun _ => rfl) (show mu_is H (some 169) 1 from hs.is) (rp_advance hs (tis_ne h1) (by omega)) (fun H11 q11 => ?_)
      obtain ⟨F11, s11, f11⟩ := q11
      have f11 : pfr ((adv T n t).2.2 - t.2.2 + 4) F F11 H H11 := f11
      have zm11 := f11.z
      have u11_0 := hu.keep hs g200 f11
      have p11 := hp.tr f11
      have z11 := p11.z
      have s11 : pst T n (adv T n t) dep F11 H11 := s11
      show mu_W _ mu_m506 (67, [(1, .inr (.inr (some q))), (0, .inr (.inr (some 169)))], [], H11) _
      refine mw_go mu_g506 (k := 2) (f1 := (69, [(1, .inr (.inr (some q))), (0, .inr (.inr (some 169)))], [.inr (.inr (some 169)), .inr (.inr (some q))], H11)) (C := []) rfl trivial ?_
      obtain ⟨r12, hr12⟩ := pbi_some hpx
      refine mw_cX (as := []) (o := some 169) (S1 := [.inr (.inr (some q))]) rfl rfl rfl rfl (Nat.le_of_ble_eq_true rfl) (by decide) s11.is rfl (rp_value s11 (by omega) hr12) (fun H12 e => ?_) (fun v H12 e => ?_)
      · obtain ⟨e', e1, e2⟩ := e
        rw [hr12, e1] at hpx
        have hpx := pbi_inl hpx
        exact Or.inl ⟨_, rfl, _, hpx, (p11.bd e2).wk (by omega)⟩
      obtain ⟨cy, ty, qy, F12, rfl, e1, s12, n12, w12, f12⟩ := e
      rw [hr12, e1] at hpx
      have hpx := pbi_inr hpx
      have zm12 := f12.z
      have u12_0 := u11_0.keep s11 g200 f12
      have p12 := p11.tr f12
      have z12 := p12.z
      show mu_W _ mu_m506 (72, [(1, .inr (.inr (some q))), (0, .inr (.inr (some 169)))], [.inr (.inr (some qy)), .inr (.inr (some q))], H12) _
      have cp13 := u12_0.cap
      refine mw_cA (fun _ => rfl) (show mu_is H12 (some q) 18 from u12_0.is) (nd_addW u12_0 s12 g200 (n12.le (by omega)) (by omega) (by omega)) (fun r H13 q13 => ?_)
      obtain ⟨rfl, kn13, a13, c_13, v13, s13, hc13, k13, kx13, ax13⟩ := q13
      have cq13 := v13.cap
      simp only [List.length_append, List.length_cons, List.length_nil] at cp13 cq13
      have p13 := p12.kp k13 (fun p z => z) (by omega) (by omega)
      have z13 := p13.z
      show mu_W _ mu_m506 (75, [(1, .inr (.inr (some q))), (0, .inr (.inr (some 169)))], [.inr (.inr (some q))], H13) _
      refine mw_go mu_g506 (k := 2) (f1 := (54, [(1, .inr (.inr (some q))), (0, .inr (.inr (some 169)))], [], H13)) (C := []) rfl trivial ?_
      refine mw_sub (L' := [(1, .inr (.inr (some q))), (0, .inr (.inr (some 169)))]) (by simp) ?_
      refine rp_ty1 hz g200 g _ _ _ _ _ _ (qs ++ [qy]) (cs ++ [cy]) s13 v13 p13 ?_ hpx
      simp only [List.length_append, List.length_cons, List.length_nil]
      omega
theorem rp_ty2 {T : Nat → Int32} {n f d dep q s : Nat} {t0 : Tok} {nm : List Int32} {F0 : Nat → Prop} {H0 : mu_H} {res : Nat ⊕ (Tre × Tok)} (hP0 : ∀ g, g ≤ f → pct T n g 0 491 14) (hz : mu_z H0 + pot n t0 + 60 ≤ 1000000) (g200 : 200 < mu_z H0) : ∀ g A F H t a c qs cs, pst T n t dep F H → nun H0 H F (f + 1) q a c s 72 0 [nm] qs cs → pfr A F0 F H0 H → A + 27 * qs.length + pot n t ≤ pot n t0 + c ∧ 1 ≤ qs.length → pxT2 T n f dep nm g cs t = some res → mu_W (mu_D (d + 6 * (150 - dep) + 11)) mu_m506 (210, [(1, .inr (.inr (some q))), (0, .inr (.inr (some 169)))], [], H) (fun r => (∃ H1, r = (.inr 0, H1) ∧ ∃ e, res = .inl e ∧ pbd T n e (pot n t0 + 50) H0 H1) ∨ ∃ v H1, r = (.inl v, H1) ∧ ∃ c t1 q F1, v = some (.inr (.inr (some q))) ∧ res = .inr (c, t1) ∧ pst T n t1 dep F1 H1 ∧ nd H1 F1 (f + 2) q c ∧ pot n t1 + 12 + 9 * tsz c ≤ pot n t0 ∧ pfr (pot n t0 - pot n t1 - 12 - 9 * tsz c) F0 F1 H0 H1)
  | 0, _, _, _, _, _, _, _, _, _, _, _, _, hpx => by cases hpx
  | g + 1, A, F, H, t, a, c, qs, cs, hs, hu, hp, hA0, hpx => by
    rw [pxT2] at hpx
    have hcap := hu.cap
    have hA := hp.z
    have hd0 := hs.2.2.2.1.2
    refine mw_go mu_g506 (k := 2) (f1 := (213, [(1, .inr (.inr (some q))), (0, .inr (.inr (some 169)))], [.inr (.inr (some 1000014)), .inr (.inr (some 169))], H)) (C := []) rfl trivial ?_
    refine mw_cIe (fun _ => rfl) (show mu_is H (some 169) 1 from hs.is) (rp_isL (j := 14) hs (by decide)) ?_
    refine mw_if (P := (tis T t (txt 14)) = 0) (a := 249) (b := 219) (fun _ => rfl) trivial (fun h1 => ?_) (fun h1 => ?_)
    · -- 249
      have hpx := ite_ye hpx h1
      refine mw_go mu_g506 (k := 2) (f1 := (252, [(1, .inr (.inr (some q))), (0, .inr (.inr (some 169)))], [.inr (.inr (some 1000009)), .inr (.inr (some 169))], H)) (C := []) rfl trivial ?_
      refine mw_cX (as := [.inr (.inr (some (1000000 + 9)))]) (o := some 169) (S1 := []) rfl rfl rfl rfl (Nat.le_of_ble_eq_true rfl) (by decide) hs.is rfl (rp_expect hs (by omega) (j := 9) (by decide)) (fun H11 e => ?_) (fun v H11 e => ?_)
      · obtain ⟨e1, e2⟩ := e
        have hpx := exq_no hpx e1
        exact Or.inl ⟨_, rfl, _, hpx, (hp.bd e2).wk (by omega)⟩
      obtain ⟨rfl, e11, F11, s11, f11⟩ := e
      have hpx := exq_ye hpx e11
      have st11 : pot n (adv T n t) + ((adv T n t).2.2 - t.2.2 + 4) + 15 ≤ pot n t := pot_step (T := T) hs.tkf.2.2 (tis_ne e11)
      have f11 : pfr ((adv T n t).2.2 - t.2.2 + 4) F F11 H H11 := f11
      have zm11 := f11.z
      have u11_0 := hu.keep hs g200 f11
      have p11 := hp.tr f11
      have z11 := p11.z
      have s11 : pst T n (adv T n t) dep F11 H11 := s11
      show mu_W _ mu_m506 (255, [(1, .inr (.inr (some q))), (0, .inr (.inr (some 169)))], [], H11) _
      refine mw_go mu_g506 (k := 1) (f1 := (256, [(1, .inr (.inr (some q))), (0, .inr (.inr (some 169)))], [.inr (.inr (some q))], H11)) (C := []) rfl trivial ?_
      obtain ⟨F12, s12, n12, p12⟩ := u11_0.done s11 g200 p11
      have z12 := p12.z
      have hts : tsz (tmk 72 0 [nm] cs) = 0 := rfl
      exact mw_of (fun _ => mu_ret rfl trivial (Or.inr ⟨_, _, rfl, _, _, q, F12, rfl, pok_eq hpx, s12, n12.le (by omega), by omega, p12.wk (by omega)⟩))
    · -- 219
      have hpx := ite_no hpx h1
      refine mw_go mu_g506 (k := 1) (f1 := (220, [(1, .inr (.inr (some q))), (0, .inr (.inr (some 169)))], [.inr (.inr (some 169))], H)) (C := []) rfl trivial ?_
      have st11 : pot n (adv T n t) + ((adv T n t).2.2 - t.2.2 + 4) + 15 ≤ pot n t := pot_step (T := T) hs.tkf.2.2 (tis_ne h1)
      refine mw_cV (fun _ => rfl) (show mu_is H (some 169) 1 from hs.is) (rp_advance hs (tis_ne h1) (by omega)) (fun H11 q11 => ?_)
      obtain ⟨F11, s11, f11⟩ := q11
      have f11 : pfr ((adv T n t).2.2 - t.2.2 + 4) F F11 H H11 := f11
      have zm11 := f11.z
      have u11_0 := hu.keep hs g200 f11
      have p11 := hp.tr f11
      have z11 := p11.z
      have s11 : pst T n (adv T n t) dep F11 H11 := s11
      show mu_W _ mu_m506 (223, [(1, .inr (.inr (some q))), (0, .inr (.inr (some 169)))], [], H11) _
      refine mw_go mu_g506 (k := 1) (f1 := (224, [(1, .inr (.inr (some q))), (0, .inr (.inr (some 169)))], [.inr (.inr (some 169))], H11)) (C := []) rfl trivial ?_
      refine mw_cX (as := []) (o := some 169) (S1 := []) rfl rfl rfl rfl (Nat.le_of_ble_eq_true rfl) (by decide) s11.is rfl (rp_nest s11) (fun H12 e => ?_) (fun v H12 e => ?_)
      · obtain ⟨e1, e2⟩ := e
        have hpx := nst_hi hpx e1
        exact Or.inl ⟨_, rfl, _, hpx, (p11.bd e2).wk (by omega)⟩
      obtain ⟨rfl, d12, e12⟩ := e
      have hpx := nst_lo hpx d12
      obtain ⟨s12, f12⟩ := s11.dp (dep' := dep + 1) (by omega)
      rw [← e12] at s12 f12
      have zm12 := f12.z
      have u12_0 := u11_0.keep s11 g200 f12
      have p12 := p11.tr f12
      have z12 := p12.z
      have s12 : pst T n (adv T n t) (dep + 1) F11 H12 := s12
      show mu_W _ mu_m506 (227, [(1, .inr (.inr (some q))), (0, .inr (.inr (some 169)))], [], H12) _
      refine mw_go mu_g506 (k := 2) (f1 := (229, [(1, .inr (.inr (some q))), (0, .inr (.inr (some 169)))], [.inr (.inr (some 169)), .inr (.inr (some q))], H12)) (C := []) rfl trivial ?_
      obtain ⟨r13, hr13⟩ := pbi_some hpx
      refine mw_cX (as := []) (o := some 169) (S1 := [.inr (.inr (some q))]) rfl rfl rfl rfl (Nat.le_of_ble_eq_true rfl) (by decide) s12.is rfl (show mu_TX (mu_D (d + 6 * (150 - dep) + 11)) _ _ _ _ _ from by rw [show d + 6 * (150 - dep) + 11 = (d + 3) + 6 * (150 - (dep + 1)) + 14 by omega]; exact hP0 f (Nat.le_refl _) (d + 3) (dep + 1) _ F11 H12 r13 s12 (by omega) hr13) (fun H13 e => ?_) (fun v H13 e => ?_)
      · obtain ⟨e', e1, e2⟩ := e
        rw [hr13, e1] at hpx
        have hpx := pbi_inl hpx
        exact Or.inl ⟨_, rfl, _, hpx, (p12.bd e2).wk (by omega)⟩
      obtain ⟨cy, ty, qy, F13, rfl, e1, s13, n13, w13, f13⟩ := e
      rw [hr13, e1] at hpx
      have hpx := pbi_inr hpx
      have zm13 := f13.z
      have u13_0 := u12_0.keep s12 g200 f13
      have p13 := p12.tr f13
      have z13 := p13.z
      show mu_W _ mu_m506 (232, [(1, .inr (.inr (some q))), (0, .inr (.inr (some 169)))], [.inr (.inr (some qy)), .inr (.inr (some q))], H13) _
      have cp14 := u13_0.cap
      refine mw_cA (fun _ => rfl) (show mu_is H13 (some q) 18 from u13_0.is) (nd_addW u13_0 s13 g200 (n13.le (by omega)) (by omega) (by omega)) (fun r H14 q14 => ?_)
      obtain ⟨rfl, kn14, a14, c_14, v14, s14, hc14, k14, kx14, ax14⟩ := q14
      have cq14 := v14.cap
      simp only [List.length_append, List.length_cons, List.length_nil] at cp14 cq14
      have p14 := p13.kp k14 (fun p z => z) (by omega) (by omega)
      have z14 := p14.z
      show mu_W _ mu_m506 (235, [(1, .inr (.inr (some q))), (0, .inr (.inr (some 169)))], [.inr (.inr (some q))], H14) _
      refine mw_go mu_g506 (k := 1) (f1 := (236, [(1, .inr (.inr (some q))), (0, .inr (.inr (some 169)))], [], H14)) (C := []) rfl trivial ?_
      have x15 : mu_i H14 169 12 - (1 : Int32) = nI dep := by rw [s14.f12]; exact nI_pred _
      refine mw_go mu_g506 (k := 5) (f1 := (243, [(1, .inr (.inr (some q))), (0, .inr (.inr (some 169)))], [.inl ((mu_i H14 169 12) - (1 : Int32)), .inr (.inr (some 169))], H14)) (C := [mu_is H14 (some 169) 1]) rfl (show mu_is H14 (some 169) 1 from s14.is) ?_
      refine mw_fr (f' := (243, [(1, .inr (.inr (some q))), (0, .inr (.inr (some 169)))], [.inl (nI dep), .inr (.inr (some 169))], H14)) (by first | (rw [x15]; done) | (rw [x15]; rfl)) ?_
      refine mw_go mu_g506 (k := 1) (f1 := (246, [(1, .inr (.inr (some q))), (0, .inr (.inr (some 169)))], [], (mu_si H14 169 12 (nI dep)))) (C := [mu_is H14 (some 169) 1]) rfl (show mu_is H14 (some 169) 1 from s14.is) ?_
      obtain ⟨s15, f15⟩ := s14.dp (dep' := dep) (by omega)
      obtain ⟨H15, eH15⟩ : ∃ K, K = mu_si H14 169 12 (nI dep) := ⟨_, rfl⟩
      rw [← eH15] at s15 f15 ⊢
      have zm15 := f15.z
      have u15_0 := v14.keep s14 g200 f15
      have p15 := p14.tr f15
      have z15 := p15.z
      show mu_W _ mu_m506 (246, [(1, .inr (.inr (some q))), (0, .inr (.inr (some 169)))], [], H15) _
      refine mw_go mu_g506 (k := 1) (f1 := (210, [(1, .inr (.inr (some q))), (0, .inr (.inr (some 169)))], [], H15)) (C := []) rfl trivial ?_
      refine mw_sub (L' := [(1, .inr (.inr (some q))), (0, .inr (.inr (some 169)))]) (by simp) ?_
      refine rp_ty2 hP0 hz g200 g _ _ _ _ _ _ (qs ++ [qy]) (cs ++ [cy]) s15 u15_0 p15 ?_ hpx
      simp only [List.length_append, List.length_cons, List.length_nil]
      omega
theorem nun.lo {H0 H1 H : mu_H} {F : Nat → Prop} {f q a c s k : Nat} {x : Int32} {ns : List (List Int32)} {qs : List Nat} {cs : List Tre} (h : nun H1 H F f q a c s k x ns qs cs) (hz : mu_z H0 ≤ mu_z H1) : nun H0 H F f q a c s k x ns qs cs := ⟨h.1, h.2.1, h.2.2.1, h.2.2.2.1, h.2.2.2.2.1, ⟨Nat.le_trans hz h.2.2.2.2.2.1.1, Nat.le_trans hz h.2.2.2.2.2.1.2⟩, h.2.2.2.2.2.2⟩
theorem rp_type {T : Nat → Int32} {n f d dep : Nat} {t : Tok} {F : Nat → Prop} {H : mu_H} {res : Nat ⊕ (Tre × Tok)} (hs : pst T n t dep F H) (hz : mu_z H + pot n t + 60 ≤ 1000000) (hpx : pxT T n f dep t = some res) : mu_TX (mu_D (d + 6 * (150 - dep) + 12)) 506 [.inr (.inr (some 169))] H (fun H1 => ∃ e, res = .inl e ∧ pbd T n e (pot n t + 50) H H1) (fun v H1 => ∃ c t1 q F1, v = some (.inr (.inr (some q))) ∧ res = .inr (c, t1) ∧ pst T n t1 dep F1 H1 ∧ nd H1 F1 (f + 2) q c ∧ pot n t1 + 12 + 9 * tsz c ≤ pot n t ∧ pfr (pot n t - pot n t1 - 12 - 9 * tsz c) F F1 H H1) := by
  unfold pxT at hpx
  have g200 := hs.1.1
  have hd0 := hs.2.2.2.1.2
  have hP0 : ∀ g, g ≤ f → pct T n g 0 491 14 := fun g _ => (px_ok g).1
  have p0 : pfr 0 F F H H := pfr.rf
  have z0 := p0.z
  refine mu_MT.ot fun hot => ?_
  have l0 : stf H F (1000000 + 72) (txt 72) := stf.lit hot (by decide)
  refine mu_meth (M := mu_m506) rfl rfl ?_
  refine mw_ht (mu_fn_of (show [0].Nodup by decide)) ?_
  refine mw_go mu_g506 (k := 2) (f1 := (3, [(0, .inr (.inr (some 169)))], [.inr (.inr (some 1000039)), .inr (.inr (some 169))], H)) (C := []) rfl trivial ?_
  refine mw_cIe (fun _ => rfl) (show mu_is H (some 169) 1 from hs.is) (rp_isL (j := 39) hs (by decide)) ?_
  refine mw_if (P := (tis T t (txt 39)) = 0) (a := 23) (b := 9) (fun _ => rfl) trivial (fun h39 => ?_) (fun h39 => ?_)
  · -- 23
    have hpx := ite_ye hpx h39
    refine mw_go mu_g506 (k := 2) (f1 := (26, [(0, .inr (.inr (some 169)))], [.inr (.inr (some 1000010)), .inr (.inr (some 169))], H)) (C := []) rfl trivial ?_
    refine mw_cIe (fun _ => rfl) (show mu_is H (some 169) 1 from hs.is) (rp_isL (j := 10) hs (by decide)) ?_
    refine mw_if (P := (tis T t (txt 10)) = 0) (a := 87) (b := 32) (fun _ => rfl) trivial (fun h10 => ?_) (fun h10 => ?_)
    · -- 87
      have hpx := ite_ye hpx h10
      refine mw_go mu_g506 (k := 1) (f1 := (88, [(0, .inr (.inr (some 169)))], [.inr (.inr (some 169))], H)) (C := []) rfl trivial ?_
      refine mw_cIe (fun _ => rfl) (show mu_is H (some 169) 1 from hs.is) (rp_atName hs) ?_
      refine mw_if (P := (nmz T t) = 0) (a := 94) (b := 159) (fun _ => rfl) trivial (fun hnm => ?_) (fun hnm => ?_)
      · -- 94
        have hpx := ite_ye hpx hnm
        refine mw_newo rfl (by decide) (by omega) ?_
        show mu_W _ mu_m506 (97, [(0, .inr (.inr (some 169)))], [.inr (.inr (some (mu_z H)))], (mu_nw H 18 0 8)) _
        refine mw_go mu_g506 (k := 2) (f1 := (101, [(0, .inr (.inr (some 169)))], [.inr (.inr (some 1000071)), .inr (.inr (some (mu_z H))), .inr (.inr (some (mu_z H)))], (mu_nw H 18 0 8))) (C := []) rfl trivial ?_
        refine mw_cV (fun _ => rfl) ⟨rfl, Nat.lt_succ_self _⟩ (nd_newL (j := 71) (H0 := H) (f := (f + 1)) hs (by omega) (by omega) (by decide)) (fun H11 q11 => ?_)
        obtain ⟨v11, s11, k11⟩ := q11
        have f11 : pfr (0 + 2) F F H H11 := pfr.rf.kp k11 (fun p z => z) (by omega) (by omega)
        have zm11 := f11.z
        have p11 := p0.tr f11
        have z11 := p11.z
        show mu_W _ mu_m506 (104, [(0, .inr (.inr (some 169)))], [.inr (.inr (some (mu_z H)))], H11) _
        have w11 := v11.nun
        have aw11 : (mu_z H) + 1 < mu_z H11 := w11.1.2.1.1.2.1
        refine mw_go mu_g506 (k := 1) (f1 := (105, [(1, .inr (.inr (some (mu_z H)))), (0, .inr (.inr (some 169)))], [], H11)) (C := []) rfl trivial ?_
        refine mw_newo rfl (by decide) (by omega) ?_
        show mu_W _ mu_m506 (108, [(1, .inr (.inr (some (mu_z H)))), (0, .inr (.inr (some 169)))], [.inr (.inr (some (mu_z H11)))], (mu_nw H11 18 0 8)) _
        refine mw_go mu_g506 (k := 2) (f1 := (112, [(1, .inr (.inr (some (mu_z H)))), (0, .inr (.inr (some 169)))], [.inr (.inr (some 1000063)), .inr (.inr (some (mu_z H11))), .inr (.inr (some (mu_z H11)))], (mu_nw H11 18 0 8))) (C := []) rfl trivial ?_
        refine mw_cV (fun _ => rfl) ⟨rfl, Nat.lt_succ_self _⟩ (nd_newL (j := 63) (H0 := H) (f := 0) s11 (by omega) (by omega) (by decide)) (fun H12 q12 => ?_)
        obtain ⟨v12, s12, k12⟩ := q12
        have f12 : pfr (0 + 2) F F H11 H12 := pfr.rf.kp k12 (fun p z => z) (by omega) (by omega)
        have zm12 := f12.z
        have u12_0 := w11.keep s11 g200 f12
        have p12 := p11.tr f12
        have z12 := p12.z
        show mu_W _ mu_m506 (115, [(1, .inr (.inr (some (mu_z H)))), (0, .inr (.inr (some 169)))], [.inr (.inr (some (mu_z H11)))], H12) _
        have w12 := v12.nun
        have aw12 : (mu_z H11) + 1 < mu_z H12 := w12.1.2.1.1.2.1
        refine mw_go mu_g506 (k := 3) (f1 := (118, [(2, .inr (.inr (some (mu_z H11)))), (1, .inr (.inr (some (mu_z H)))), (0, .inr (.inr (some 169)))], [.inr (.inr (some 169)), .inr (.inr (some (mu_z H11)))], H12)) (C := []) rfl trivial ?_
        refine mw_cX (as := []) (o := some 169) (S1 := [.inr (.inr (some (mu_z H11)))]) rfl rfl rfl rfl (Nat.le_of_ble_eq_true rfl) (by decide) s12.is rfl (rp_whole s12 (by omega)) (fun H13 e => ?_) (fun v H13 e => ?_)
        · obtain ⟨e1, e2⟩ := e
          have hpx := per_eq (ite_no hpx e1)
          exact Or.inl ⟨_, rfl, _, hpx, (p12.bd e2).wk (by omega)⟩
        obtain ⟨e13, rfl, F13, s13, w13, f13⟩ := e
        have hpx := ite_ye hpx e13
        have zm13 := f13.z
        have u13_0 := u12_0.keep s12 g200 f13
        have u13_1 := w12.keep s12 g200 f13
        have p13 := p12.tr f13
        have z13 := p13.z
        show mu_W _ mu_m506 (121, [(2, .inr (.inr (some (mu_z H11)))), (1, .inr (.inr (some (mu_z H)))), (0, .inr (.inr (some 169)))], [.inl (whv T n t), .inr (.inr (some (mu_z H11)))], H13) _
        refine mw_go mu_g506 (k := 1) (f1 := (124, [(2, .inr (.inr (some (mu_z H11)))), (1, .inr (.inr (some (mu_z H)))), (0, .inr (.inr (some 169)))], [], (mu_si H13 (mu_z H11) 3 (whv T n t)))) (C := [mu_is H13 (some (mu_z H11)) 18]) rfl (show mu_is H13 (some (mu_z H11)) 18 from u13_1.is) ?_
        obtain ⟨v14, s14, p14, ox14⟩ := nun.setx (y := (whv T n t)) u13_1 s13 g200 p13 (Nat.le_refl _) (by omega)
        obtain ⟨H14, eH14⟩ : ∃ K, K = mu_si H13 (mu_z H11) 3 (whv T n t) := ⟨_, rfl⟩
        have o14_0 := ox14 u13_0 (by omega) (by omega)
        clear ox14
        rw [← eH14] at v14 s14 p14 o14_0 ⊢
        have z14 := p14.z
        have ze14 : mu_z H14 = mu_z H13 := by rw [eH14]; rfl
        show mu_W _ mu_m506 (124, [(2, .inr (.inr (some (mu_z H11)))), (1, .inr (.inr (some (mu_z H)))), (0, .inr (.inr (some 169)))], [], H14) _
        refine mw_go mu_g506 (k := 2) (f1 := (127, [(2, .inr (.inr (some (mu_z H11)))), (1, .inr (.inr (some (mu_z H)))), (0, .inr (.inr (some 169)))], [.inr (.inr (some 1000004)), .inr (.inr (some 169))], H14)) (C := []) rfl trivial ?_
        refine mw_cX (as := [.inr (.inr (some (1000000 + 4)))]) (o := some 169) (S1 := []) rfl rfl rfl rfl (Nat.le_of_ble_eq_true rfl) (by decide) s14.is rfl (rp_expect s14 (by omega) (j := 4) (by decide)) (fun H15 e => ?_) (fun v H15 e => ?_)
        · obtain ⟨e1, e2⟩ := e
          have hpx := exq_no hpx e1
          exact Or.inl ⟨_, rfl, _, hpx, (p14.bd e2).wk (by omega)⟩
        obtain ⟨rfl, e15, F15, s15, f15⟩ := e
        have hpx := exq_ye hpx e15
        have st15 : pot n (adv T n (adv T n (whk T n t))) + ((adv T n (adv T n (whk T n t))).2.2 - (adv T n (whk T n t)).2.2 + 4) + 15 ≤ pot n (adv T n (whk T n t)) := pot_step (T := T) s14.tkf.2.2 (tis_ne e15)
        have f15 : pfr ((adv T n (adv T n (whk T n t))).2.2 - (adv T n (whk T n t)).2.2 + 4) F13 F15 H14 H15 := f15
        have zm15 := f15.z
        have u15_0 := o14_0.keep s14 g200 f15
        have u15_1 := v14.keep s14 g200 f15
        have p15 := p14.tr f15
        have z15 := p15.z
        have s15 : pst T n (adv T n (adv T n (whk T n t))) dep F15 H15 := s15
        show mu_W _ mu_m506 (130, [(2, .inr (.inr (some (mu_z H11)))), (1, .inr (.inr (some (mu_z H)))), (0, .inr (.inr (some 169)))], [], H15) _
        refine mw_newo rfl (by decide) (by omega) ?_
        show mu_W _ mu_m506 (133, [(2, .inr (.inr (some (mu_z H11)))), (1, .inr (.inr (some (mu_z H)))), (0, .inr (.inr (some 169)))], [.inr (.inr (some (mu_z H15)))], (mu_nw H15 18 0 8)) _
        refine mw_go mu_g506 (k := 2) (f1 := (137, [(2, .inr (.inr (some (mu_z H11)))), (1, .inr (.inr (some (mu_z H)))), (0, .inr (.inr (some 169)))], [.inr (.inr (some 1000063)), .inr (.inr (some (mu_z H15))), .inr (.inr (some (mu_z H15)))], (mu_nw H15 18 0 8))) (C := []) rfl trivial ?_
        refine mw_cV (fun _ => rfl) ⟨rfl, Nat.lt_succ_self _⟩ (nd_newL (j := 63) (H0 := H) (f := 0) s15 (by omega) (by omega) (by decide)) (fun H16 q16 => ?_)
        obtain ⟨v16, s16, k16⟩ := q16
        have f16 : pfr (0 + 2) F15 F15 H15 H16 := pfr.rf.kp k16 (fun p z => z) (by omega) (by omega)
        have zm16 := f16.z
        have u16_0 := u15_0.keep s15 g200 f16
        have u16_1 := u15_1.keep s15 g200 f16
        have p16 := p15.tr f16
        have z16 := p16.z
        show mu_W _ mu_m506 (140, [(2, .inr (.inr (some (mu_z H11)))), (1, .inr (.inr (some (mu_z H)))), (0, .inr (.inr (some 169)))], [.inr (.inr (some (mu_z H15)))], H16) _
        have w16 := v16.nun
        have aw16 : (mu_z H15) + 1 < mu_z H16 := w16.1.2.1.1.2.1
        refine mw_go mu_g506 (k := 3) (f1 := (143, [(3, .inr (.inr (some (mu_z H15)))), (2, .inr (.inr (some (mu_z H11)))), (1, .inr (.inr (some (mu_z H)))), (0, .inr (.inr (some 169)))], [.inr (.inr (some 169)), .inr (.inr (some (mu_z H15)))], H16)) (C := []) rfl trivial ?_
        refine mw_cX (as := []) (o := some 169) (S1 := [.inr (.inr (some (mu_z H15)))]) rfl rfl rfl rfl (Nat.le_of_ble_eq_true rfl) (by decide) s16.is rfl (rp_whole s16 (by omega)) (fun H17 e => ?_) (fun v H17 e => ?_)
        · obtain ⟨e1, e2⟩ := e
          have hpx := per_eq (ite_no hpx e1)
          exact Or.inl ⟨_, rfl, _, hpx, (p16.bd e2).wk (by omega)⟩
        obtain ⟨e17, rfl, F17, s17, w17, f17⟩ := e
        have hpx := ite_ye hpx e17
        have zm17 := f17.z
        have u17_0 := u16_0.keep s16 g200 f17
        have u17_1 := u16_1.keep s16 g200 f17
        have u17_2 := w16.keep s16 g200 f17
        have p17 := p16.tr f17
        have z17 := p17.z
        show mu_W _ mu_m506 (146, [(3, .inr (.inr (some (mu_z H15)))), (2, .inr (.inr (some (mu_z H11)))), (1, .inr (.inr (some (mu_z H)))), (0, .inr (.inr (some 169)))], [.inl (whv T n (adv T n (adv T n (whk T n t)))), .inr (.inr (some (mu_z H15)))], H17) _
        refine mw_go mu_g506 (k := 1) (f1 := (149, [(3, .inr (.inr (some (mu_z H15)))), (2, .inr (.inr (some (mu_z H11)))), (1, .inr (.inr (some (mu_z H)))), (0, .inr (.inr (some 169)))], [], (mu_si H17 (mu_z H15) 3 (whv T n (adv T n (adv T n (whk T n t))))))) (C := [mu_is H17 (some (mu_z H15)) 18]) rfl (show mu_is H17 (some (mu_z H15)) 18 from u17_2.is) ?_
        obtain ⟨v18, s18, p18, ox18⟩ := nun.setx (y := (whv T n (adv T n (adv T n (whk T n t))))) u17_2 s17 g200 p17 (Nat.le_refl _) (by omega)
        obtain ⟨H18, eH18⟩ : ∃ K, K = mu_si H17 (mu_z H15) 3 (whv T n (adv T n (adv T n (whk T n t)))) := ⟨_, rfl⟩
        have o18_0 := ox18 u17_0 (by omega) (by omega)
        have o18_1 := ox18 u17_1 (by omega) (by omega)
        clear ox18
        rw [← eH18] at v18 s18 p18 o18_0 o18_1 ⊢
        have z18 := p18.z
        have ze18 : mu_z H18 = mu_z H17 := by rw [eH18]; rfl
        show mu_W _ mu_m506 (149, [(3, .inr (.inr (some (mu_z H15)))), (2, .inr (.inr (some (mu_z H11)))), (1, .inr (.inr (some (mu_z H)))), (0, .inr (.inr (some 169)))], [], H18) _
        have x19_0 := o18_0.fzO (q2 := (mu_z H11)) (a2 := ((mu_z H11) + 1)) (by omega)
        have x19_1 := v18.fzO (q2 := (mu_z H11)) (a2 := ((mu_z H11) + 1)) (by omega)
        obtain ⟨s19, n19, p19⟩ := o18_1.doneX s18 g200 p18 (Nat.le_refl _)
        have z19 := p19.z
        have x20_0 := x19_0.fzO (q2 := (mu_z H15)) (a2 := ((mu_z H15) + 1)) (by omega)
        have y20_0 := n19.mono (F1 := (fz2 (fz2 F17 (mu_z H11) ((mu_z H11) + 1)) (mu_z H15) ((mu_z H15) + 1))) (fun p z => Or.inl z)
        obtain ⟨s20, n20, p20⟩ := x19_1.doneX s19 g200 p19 (Nat.le_refl _)
        have z20 := p20.z
        refine mw_go mu_g506 (k := 2) (f1 := (151, [(3, .inr (.inr (some (mu_z H15)))), (2, .inr (.inr (some (mu_z H11)))), (1, .inr (.inr (some (mu_z H)))), (0, .inr (.inr (some 169)))], [.inr (.inr (some (mu_z H11))), .inr (.inr (some (mu_z H)))], H18)) (C := []) rfl trivial ?_
        have cp21 := x20_0.cap
        refine mw_cA (fun _ => rfl) (show mu_is H18 (some (mu_z H)) 18 from x20_0.is) (nd_addW x20_0 s20 g200 (y20_0.le (by omega)) (by omega) (by omega)) (fun r H21 q21 => ?_)
        obtain ⟨rfl, kn21, a21, c_21, v21, s21, hc21, k21, kx21, ax21⟩ := q21
        have cq21 := v21.cap
        simp only [List.length_append, List.length_cons, List.length_nil] at cp21 cq21
        have p21 := p20.kp k21 (fun p z => z) (by omega) (by omega)
        have z21 := p21.z
        have m21_0 := kn21 _ _ _ n20
        show mu_W _ mu_m506 (154, [(3, .inr (.inr (some (mu_z H15)))), (2, .inr (.inr (some (mu_z H11)))), (1, .inr (.inr (some (mu_z H)))), (0, .inr (.inr (some 169)))], [.inr (.inr (some (mu_z H)))], H21) _
        refine mw_go mu_g506 (k := 1) (f1 := (155, [(3, .inr (.inr (some (mu_z H15)))), (2, .inr (.inr (some (mu_z H11)))), (1, .inr (.inr (some (mu_z H)))), (0, .inr (.inr (some 169)))], [.inr (.inr (some (mu_z H15))), .inr (.inr (some (mu_z H)))], H21)) (C := []) rfl trivial ?_
        have cp22 := v21.cap
        refine mw_cA (fun _ => rfl) (show mu_is H21 (some (mu_z H)) 18 from v21.is) (nd_addW v21 s21 g200 (m21_0.le (by omega)) (by omega) (by omega)) (fun r H22 q22 => ?_)
        obtain ⟨rfl, kn22, a22, c_22, v22, s22, hc22, k22, kx22, ax22⟩ := q22
        have cq22 := v22.cap
        simp only [List.length_append, List.length_cons, List.length_nil] at cp22 cq22
        have p22 := p21.kp k22 (fun p z => z) (by omega) (by omega)
        have z22 := p22.z
        show mu_W _ mu_m506 (158, [(3, .inr (.inr (some (mu_z H15)))), (2, .inr (.inr (some (mu_z H11)))), (1, .inr (.inr (some (mu_z H)))), (0, .inr (.inr (some 169)))], [.inr (.inr (some (mu_z H)))], H22) _
        obtain ⟨F23, s23, n23, p23⟩ := v22.done s22 g200 p22
        have z23 := p23.z
        have hts : tsz (tmk 71 0 [] [tmk 63 (whv T n t) [] [], tmk 63 (whv T n (adv T n (adv T n (whk T n t)))) [] []]) = 0 := rfl
        exact mw_of (fun _ => mu_ret rfl trivial (Or.inr ⟨_, _, rfl, _, _, (mu_z H), F23, rfl, pok_eq hpx, s23, n23.le (by omega), by omega, p23.wk (by omega)⟩))
      · -- 159
        have hpx := ite_no hpx hnm
        refine mw_go mu_g506 (k := 2) (f1 := (163, [(0, .inr (.inr (some 169)))], [.inr (.inr (some 1000072)), .inr (.inr (some 169))], H)) (C := []) rfl trivial ?_
        refine mw_go mu_g506 (k := 1) (f1 := (164, [(0, .inr (.inr (some 169)))], [.inr (.inr (some 169)), .inr (.inr (some 1000072)), .inr (.inr (some 169))], H)) (C := []) rfl trivial ?_
        have ht11 : (t).1 ≠ 0 ∧ (t).1 ≠ 1 := by rw [nmz_2 hnm]; decide
        have st11 : pot n (adv T n t) + ((adv T n t).2.2 - t.2.2 + 4) + 15 ≤ pot n t := pot_step (T := T) hs.tkf.2.2 ht11
        refine mw_cX (as := []) (o := some 169) (S1 := [.inr (.inr (some 1000072)), .inr (.inr (some 169))]) rfl rfl rfl rfl (Nat.le_of_ble_eq_true rfl) (by decide) hs.is rfl (rp_name hs (by omega)) (fun H11 e => absurd e.1 hnm) (fun v H11 e => ?_)
        obtain ⟨_, wm, F11, rfl, ws11, s11, f11⟩ := e
        have f11 : pfr ((adv T n t).2.2 - t.2.2 + 4) F F11 H H11 := f11
        have zm11 := f11.z
        have p11 := p0.tr f11
        have z11 := p11.z
        have s11 : pst T n (adv T n t) dep F11 H11 := s11
        show mu_W _ mu_m506 (167, [(0, .inr (.inr (some 169)))], [.inr (.inr (some wm)), .inr (.inr (some 1000072)), .inr (.inr (some 169))], H11) _
        have l1 := l0.keep hs f11
        refine mw_go mu_g506 (k := 1) (f1 := (168, [(0, .inr (.inr (some 169)))], [.inr (.inr none), .inr (.inr (some wm)), .inr (.inr (some 1000072)), .inr (.inr (some 169))], H11)) (C := []) rfl trivial ?_
        refine mw_cA (fun _ => rfl) (show mu_is H11 (some 169) 1 from s11.is) (rp_namedN (f := f + 1) s11 l1 (by decide) ws11 (by omega)) (fun v H30 q30 => ?_)
        obtain ⟨q, a30, F30, rfl, s30, u30, f30⟩ := q30
        have u30 := u30.lo (H0 := H) (by omega)
        have zm30 := f30.z
        have p30 := p11.tr f30
        have z30 := p30.z
        show mu_W _ mu_m506 (171, [(0, .inr (.inr (some 169)))], [.inr (.inr (some q))], H30) _
        refine mw_go mu_g506 (k := 1) (f1 := (172, [(1, .inr (.inr (some q))), (0, .inr (.inr (some 169)))], [], H30)) (C := []) rfl trivial ?_
        refine mw_go mu_g506 (k := 2) (f1 := (175, [(1, .inr (.inr (some q))), (0, .inr (.inr (some 169)))], [.inr (.inr (some 1000008)), .inr (.inr (some 169))], H30)) (C := []) rfl trivial ?_
        refine mw_cIe (fun _ => rfl) (show mu_is H30 (some 169) 1 from s30.is) (rp_isL (j := 8) s30 (by decide)) ?_
        refine mw_if (P := (tis T (adv T n t) (txt 8)) = 0) (a := 181) (b := 183) (fun _ => rfl) trivial (fun h8 => ?_) (fun h8 => ?_)
        · -- 181
          have hpx := ite_ye hpx h8
          refine mw_go mu_g506 (k := 1) (f1 := (182, [(1, .inr (.inr (some q))), (0, .inr (.inr (some 169)))], [.inr (.inr (some q))], H30)) (C := []) rfl trivial ?_
          obtain ⟨F31, s31, n31, p31⟩ := u30.done s30 g200 p30
          have z31 := p31.z
          have hts : tsz (tmk 72 0 [slc T t.2.1 t.2.2] []) = 0 := rfl
          exact mw_of (fun _ => mu_ret rfl trivial (Or.inr ⟨_, _, rfl, _, _, q, F31, rfl, pok_eq hpx, s31, n31.le (by omega), by omega, p31.wk (by omega)⟩))
        · -- 183
          have hpx := ite_no hpx h8
          refine mw_go mu_g506 (k := 1) (f1 := (184, [(1, .inr (.inr (some q))), (0, .inr (.inr (some 169)))], [.inr (.inr (some 169))], H30)) (C := []) rfl trivial ?_
          have st31 : pot n (adv T n (adv T n t)) + ((adv T n (adv T n t)).2.2 - (adv T n t).2.2 + 4) + 15 ≤ pot n (adv T n t) := pot_step (T := T) s30.tkf.2.2 (tis_ne h8)
          refine mw_cV (fun _ => rfl) (show mu_is H30 (some 169) 1 from s30.is) (rp_advance s30 (tis_ne h8) (by omega)) (fun H31 q31 => ?_)
          obtain ⟨F31, s31, f31⟩ := q31
          have f31 : pfr ((adv T n (adv T n t)).2.2 - (adv T n t).2.2 + 4) F30 F31 H30 H31 := f31
          have zm31 := f31.z
          have u31_0 := u30.keep s30 g200 f31
          have p31 := p30.tr f31
          have z31 := p31.z
          have s31 : pst T n (adv T n (adv T n t)) dep F31 H31 := s31
          show mu_W _ mu_m506 (187, [(1, .inr (.inr (some q))), (0, .inr (.inr (some 169)))], [], H31) _
          refine mw_go mu_g506 (k := 1) (f1 := (188, [(1, .inr (.inr (some q))), (0, .inr (.inr (some 169)))], [.inr (.inr (some 169))], H31)) (C := []) rfl trivial ?_
          refine mw_cX (as := []) (o := some 169) (S1 := []) rfl rfl rfl rfl (Nat.le_of_ble_eq_true rfl) (by decide) s31.is rfl (rp_nest s31) (fun H32 e => ?_) (fun v H32 e => ?_)
          · obtain ⟨e1, e2⟩ := e
            have hpx := nst_hi hpx e1
            exact Or.inl ⟨_, rfl, _, hpx, (p31.bd e2).wk (by omega)⟩
          obtain ⟨rfl, d32, e32⟩ := e
          have hpx := nst_lo hpx d32
          obtain ⟨s32, f32⟩ := s31.dp (dep' := dep + 1) (by omega)
          rw [← e32] at s32 f32
          have zm32 := f32.z
          have u32_0 := u31_0.keep s31 g200 f32
          have p32 := p31.tr f32
          have z32 := p32.z
          have s32 : pst T n (adv T n (adv T n t)) (dep + 1) F31 H32 := s32
          show mu_W _ mu_m506 (191, [(1, .inr (.inr (some q))), (0, .inr (.inr (some 169)))], [], H32) _
          refine mw_go mu_g506 (k := 2) (f1 := (193, [(1, .inr (.inr (some q))), (0, .inr (.inr (some 169)))], [.inr (.inr (some 169)), .inr (.inr (some q))], H32)) (C := []) rfl trivial ?_
          obtain ⟨r33, hr33⟩ := pbi_some hpx
          refine mw_cX (as := []) (o := some 169) (S1 := [.inr (.inr (some q))]) rfl rfl rfl rfl (Nat.le_of_ble_eq_true rfl) (by decide) s32.is rfl (show mu_TX (mu_D (d + 6 * (150 - dep) + 11)) _ _ _ _ _ from by rw [show d + 6 * (150 - dep) + 11 = (d + 3) + 6 * (150 - (dep + 1)) + 14 by omega]; exact hP0 f (Nat.le_refl _) (d + 3) (dep + 1) _ F31 H32 r33 s32 (by omega) hr33) (fun H33 e => ?_) (fun v H33 e => ?_)
          · obtain ⟨e', e1, e2⟩ := e
            rw [hr33, e1] at hpx
            have hpx := pbi_inl hpx
            exact Or.inl ⟨_, rfl, _, hpx, (p32.bd e2).wk (by omega)⟩
          obtain ⟨cy, ty, qy, F33, rfl, e1, s33, n33, w33, f33⟩ := e
          rw [hr33, e1] at hpx
          have hpx := pbi_inr hpx
          have zm33 := f33.z
          have u33_0 := u32_0.keep s32 g200 f33
          have p33 := p32.tr f33
          have z33 := p33.z
          show mu_W _ mu_m506 (196, [(1, .inr (.inr (some q))), (0, .inr (.inr (some 169)))], [.inr (.inr (some qy)), .inr (.inr (some q))], H33) _
          have cp34 := u33_0.cap
          refine mw_cA (fun _ => rfl) (show mu_is H33 (some q) 18 from u33_0.is) (nd_addW u33_0 s33 g200 (n33.le (by omega)) (by omega) (by omega)) (fun r H34 q34 => ?_)
          obtain ⟨rfl, kn34, a34, c_34, v34, s34, hc34, k34, kx34, ax34⟩ := q34
          have cq34 := v34.cap
          simp only [List.length_append, List.length_cons, List.length_nil] at cp34 cq34
          have p34 := p33.kp k34 (fun p z => z) (by omega) (by omega)
          have z34 := p34.z
          show mu_W _ mu_m506 (199, [(1, .inr (.inr (some q))), (0, .inr (.inr (some 169)))], [.inr (.inr (some q))], H34) _
          refine mw_go mu_g506 (k := 1) (f1 := (200, [(1, .inr (.inr (some q))), (0, .inr (.inr (some 169)))], [], H34)) (C := []) rfl trivial ?_
          have x35 : mu_i H34 169 12 - (1 : Int32) = nI dep := by rw [s34.f12]; exact nI_pred _
          refine mw_go mu_g506 (k := 5) (f1 := (207, [(1, .inr (.inr (some q))), (0, .inr (.inr (some 169)))], [.inl ((mu_i H34 169 12) - (1 : Int32)), .inr (.inr (some 169))], H34)) (C := [mu_is H34 (some 169) 1]) rfl (show mu_is H34 (some 169) 1 from s34.is) ?_
          refine mw_fr (f' := (207, [(1, .inr (.inr (some q))), (0, .inr (.inr (some 169)))], [.inl (nI dep), .inr (.inr (some 169))], H34)) (by first | (rw [x35]; done) | (rw [x35]; rfl)) ?_
          refine mw_go mu_g506 (k := 1) (f1 := (210, [(1, .inr (.inr (some q))), (0, .inr (.inr (some 169)))], [], (mu_si H34 169 12 (nI dep)))) (C := [mu_is H34 (some 169) 1]) rfl (show mu_is H34 (some 169) 1 from s34.is) ?_
          obtain ⟨s35, f35⟩ := s34.dp (dep' := dep) (by omega)
          obtain ⟨H35, eH35⟩ : ∃ K, K = mu_si H34 169 12 (nI dep) := ⟨_, rfl⟩
          rw [← eH35] at s35 f35 ⊢
          have zm35 := f35.z
          have u35_0 := v34.keep s34 g200 f35
          have p35 := p34.tr f35
          have z35 := p35.z
          show mu_W _ mu_m506 (210, [(1, .inr (.inr (some q))), (0, .inr (.inr (some 169)))], [], H35) _
          refine mw_sub (L' := [(1, .inr (.inr (some q))), (0, .inr (.inr (some 169)))]) (by simp) ?_
          refine rp_ty2 hP0 hz g200 f _ _ _ _ _ _ [qy] [cy] s35 u35_0 p35 ?_ hpx
          simp only [List.length_cons, List.length_nil]
          omega
    · -- 32
      have hpx := ite_no hpx h10
      refine mw_go mu_g506 (k := 1) (f1 := (33, [(0, .inr (.inr (some 169)))], [.inr (.inr (some 169))], H)) (C := []) rfl trivial ?_
      have st11 : pot n (adv T n t) + ((adv T n t).2.2 - t.2.2 + 4) + 15 ≤ pot n t := pot_step (T := T) hs.tkf.2.2 (tis_ne h10)
      refine mw_cV (fun _ => rfl) (show mu_is H (some 169) 1 from hs.is) (rp_advance hs (tis_ne h10) (by omega)) (fun H11 q11 => ?_)
      obtain ⟨F11, s11, f11⟩ := q11
      have f11 : pfr ((adv T n t).2.2 - t.2.2 + 4) F F11 H H11 := f11
      have zm11 := f11.z
      have p11 := p0.tr f11
      have z11 := p11.z
      have s11 : pst T n (adv T n t) dep F11 H11 := s11
      show mu_W _ mu_m506 (36, [(0, .inr (.inr (some 169)))], [], H11) _
      refine mw_newo rfl (by decide) (by omega) ?_
      show mu_W _ mu_m506 (39, [(0, .inr (.inr (some 169)))], [.inr (.inr (some (mu_z H11)))], (mu_nw H11 18 0 8)) _
      refine mw_go mu_g506 (k := 2) (f1 := (43, [(0, .inr (.inr (some 169)))], [.inr (.inr (some 1000069)), .inr (.inr (some (mu_z H11))), .inr (.inr (some (mu_z H11)))], (mu_nw H11 18 0 8))) (C := []) rfl trivial ?_
      refine mw_cV (fun _ => rfl) ⟨rfl, Nat.lt_succ_self _⟩ (nd_newL (j := 69) (H0 := H) (f := (f + 1)) s11 (by omega) (by omega) (by decide)) (fun H12 q12 => ?_)
      obtain ⟨v12, s12, k12⟩ := q12
      have f12 : pfr (0 + 2) F11 F11 H11 H12 := pfr.rf.kp k12 (fun p z => z) (by omega) (by omega)
      have zm12 := f12.z
      have p12 := p11.tr f12
      have z12 := p12.z
      show mu_W _ mu_m506 (46, [(0, .inr (.inr (some 169)))], [.inr (.inr (some (mu_z H11)))], H12) _
      have w12 := v12.nun
      have aw12 : (mu_z H11) + 1 < mu_z H12 := w12.1.2.1.1.2.1
      refine mw_go mu_g506 (k := 1) (f1 := (47, [(0, .inr (.inr (some 169)))], [.inr (.inr (some 169)), .inr (.inr (some (mu_z H11)))], H12)) (C := []) rfl trivial ?_
      obtain ⟨r13, hr13⟩ := pbi_some hpx
      refine mw_cX (as := []) (o := some 169) (S1 := [.inr (.inr (some (mu_z H11)))]) rfl rfl rfl rfl (Nat.le_of_ble_eq_true rfl) (by decide) s12.is rfl (rp_value s12 (by omega) hr13) (fun H13 e => ?_) (fun v H13 e => ?_)
      · obtain ⟨e', e1, e2⟩ := e
        rw [hr13, e1] at hpx
        have hpx := pbi_inl hpx
        exact Or.inl ⟨_, rfl, _, hpx, (p12.bd e2).wk (by omega)⟩
      obtain ⟨cy, ty, qy, F13, rfl, e1, s13, n13, w13, f13⟩ := e
      rw [hr13, e1] at hpx
      have hpx := pbi_inr hpx
      have zm13 := f13.z
      have u13_0 := w12.keep s12 g200 f13
      have p13 := p12.tr f13
      have z13 := p13.z
      show mu_W _ mu_m506 (50, [(0, .inr (.inr (some 169)))], [.inr (.inr (some qy)), .inr (.inr (some (mu_z H11)))], H13) _
      have cp14 := u13_0.cap
      refine mw_cA (fun _ => rfl) (show mu_is H13 (some (mu_z H11)) 18 from u13_0.is) (nd_addW u13_0 s13 g200 (n13.le (by omega)) (by omega) (by omega)) (fun r H14 q14 => ?_)
      obtain ⟨rfl, kn14, a14, c_14, v14, s14, hc14, k14, kx14, ax14⟩ := q14
      have cq14 := v14.cap
      simp only [List.length_append, List.length_cons, List.length_nil] at cp14 cq14
      have p14 := p13.kp k14 (fun p z => z) (by omega) (by omega)
      have z14 := p14.z
      show mu_W _ mu_m506 (53, [(0, .inr (.inr (some 169)))], [.inr (.inr (some (mu_z H11)))], H14) _
      refine mw_go mu_g506 (k := 1) (f1 := (54, [(1, .inr (.inr (some (mu_z H11)))), (0, .inr (.inr (some 169)))], [], H14)) (C := []) rfl trivial ?_
      refine mw_sub (L' := [(1, .inr (.inr (some (mu_z H11)))), (0, .inr (.inr (some 169)))]) (by simp) ?_
      refine rp_ty1 hz g200 f _ _ _ _ _ _ [qy] [cy] s14 v14 p14 ?_ hpx
      simp only [List.length_cons, List.length_nil]
      omega
  · -- 9
    have hpx := ite_no hpx h39
    refine mw_go mu_g506 (k := 1) (f1 := (10, [(0, .inr (.inr (some 169)))], [.inr (.inr (some 169))], H)) (C := []) rfl trivial ?_
    have st11 : pot n (adv T n t) + ((adv T n t).2.2 - t.2.2 + 4) + 15 ≤ pot n t := pot_step (T := T) hs.tkf.2.2 (tis_ne h39)
    refine mw_cV (fun _ => rfl) (show mu_is H (some 169) 1 from hs.is) (rp_advance hs (tis_ne h39) (by omega)) (fun H11 q11 => ?_)
    obtain ⟨F11, s11, f11⟩ := q11
    have f11 : pfr ((adv T n t).2.2 - t.2.2 + 4) F F11 H H11 := f11
    have zm11 := f11.z
    have p11 := p0.tr f11
    have z11 := p11.z
    have s11 : pst T n (adv T n t) dep F11 H11 := s11
    show mu_W _ mu_m506 (13, [(0, .inr (.inr (some 169)))], [], H11) _
    refine mw_newo rfl (by decide) (by omega) ?_
    show mu_W _ mu_m506 (16, [(0, .inr (.inr (some 169)))], [.inr (.inr (some (mu_z H11)))], (mu_nw H11 18 0 8)) _
    refine mw_go mu_g506 (k := 2) (f1 := (19, [(0, .inr (.inr (some 169)))], [.inr (.inr (some 1000039)), .inr (.inr (some (mu_z H11))), .inr (.inr (some (mu_z H11)))], (mu_nw H11 18 0 8))) (C := []) rfl trivial ?_
    refine mw_cV (fun _ => rfl) ⟨rfl, Nat.lt_succ_self _⟩ (nd_newL (j := 39) (H0 := H) (f := f) s11 (by omega) (by omega) (by decide)) (fun H12 q12 => ?_)
    obtain ⟨v12, s12, k12⟩ := q12
    have f12 : pfr (0 + 2) F11 F11 H11 H12 := pfr.rf.kp k12 (fun p z => z) (by omega) (by omega)
    have zm12 := f12.z
    have p12 := p11.tr f12
    have z12 := p12.z
    show mu_W _ mu_m506 (22, [(0, .inr (.inr (some 169)))], [.inr (.inr (some (mu_z H11)))], H12) _
    have w12 := v12.nun
    have aw12 : (mu_z H11) + 1 < mu_z H12 := w12.1.2.1.1.2.1
    obtain ⟨F13, s13, n13, p13⟩ := w12.done s12 g200 p12
    have z13 := p13.z
    have hts : tsz (tmk 39 0 [] []) = 0 := rfl
    exact mw_of (fun _ => mu_ret rfl trivial (Or.inr ⟨_, _, rfl, _, _, (mu_z H11), F13, rfl, pok_eq hpx, s13, n13.le (by omega), by omega, p13.wk (by omega)⟩))
