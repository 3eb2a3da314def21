/-! The reference: value (of a TYPE) -/
/-- PathProverModel.value()LPathProverModel$Node; -/
abbrev mu_m508 : ev_M := (2, (some (.object "PathProverModel$Node")), [], ev_b508)
theorem mu_g508 : mu_good mu_m508 := mu_goodk ev_k508
/-- a value: a name or a number -/
noncomputable def pxv (T : Nat → Int32) (n : Nat) (t : Tok) : PR := if nmz T t = 0 then (if (whk T n t).1 = 3 then pok (tmk 63 (whv T n t) [] []) (adv T n (whk T n t)) else per (whk T n t)) else pok (tmk 70 0 [slc T t.2.1 t.2.2] []) (adv T n t)
theorem rp_value {T : Nat → Int32} {n d dep : Nat} {t : Tok} {F : Nat → Prop} {H : mu_H} {res : Nat ⊕ (Tre × Tok)} (hs : pst T n t dep F H) (hz : mu_z H + pot n t + 44 ≤ 1000000) (hpx : pxv T n t = some res) : mu_TX (mu_D (d + 10)) 508 [.inr (.inr (some 169))] H (fun H1 => ∃ e, res = .inl e ∧ pbd T n e (pot n t + 34) H H1) (fun v H1 => ∃ c t1 q F1, v = some (.inr (.inr (some q))) ∧ res = .inr (c, t1) ∧ pst T n t1 dep F1 H1 ∧ nd H1 F1 1 q c ∧ pot n t1 + 10 ≤ pot n t ∧ pfr (pot n t - pot n t1 - 10) F F1 H H1) := by
  unfold pxv at hpx
  have g200 := hs.1.1
  have p0 : pfr 0 F F H H := pfr.rf
  have z0 := p0.z
  refine mu_MT.ot fun hot => ?_
  have l0 : stf H F (1000000 + 70) (txt 70) := stf.lit hot (by decide)
  refine mu_meth (M := mu_m508) rfl rfl ?_
  refine mw_ht (mu_fn_of (show [0].Nodup by decide)) ?_
  refine mw_go mu_g508 (k := 1) (f1 := (1, [(0, .inr (.inr (some 169)))], [.inr (.inr (some 169))], H)) (C := []) rfl trivial ?_
  refine mw_cIe (fun _ => rfl) (show mu_is H (some 169) 1 from hs.is) (rp_atName hs) ?_
  refine mw_if (P := (nmz T t) = 0) (a := 20) (b := 7) (fun _ => rfl) trivial (fun h1 => ?_) (fun h1 => ?_)
  · -- 20
    have hpx := ite_ye hpx h1
    refine mw_newo rfl (by decide) (by omega) ?_
    show mu_W _ mu_m508 (23, [(0, .inr (.inr (some 169)))], [.inr (.inr (some (mu_z H)))], (mu_nw H 18 0 8)) _
    refine mw_go mu_g508 (k := 2) (f1 := (27, [(0, .inr (.inr (some 169)))], [.inr (.inr (some 1000063)), .inr (.inr (some (mu_z H))), .inr (.inr (some (mu_z H)))], (mu_nw H 18 0 8))) (C := []) rfl trivial ?_
    refine mw_cV (fun _ => rfl) ⟨rfl, Nat.lt_succ_self _⟩ (nd_newL (j := 63) (H0 := H) (f := 0) hs (by omega) (by omega) (by decide)) (fun H11 q11 => ?_)
    obtain ⟨v11, s11, k11⟩ := q11
    have f11 : pfr (0 + 2) F F H H11 := pfr.rf.kp k11 (fun p z => z) (by omega) (by omega)
    have p11 := p0.tr f11
    have z11 := p11.z
    show mu_W _ mu_m508 (30, [(0, .inr (.inr (some 169)))], [.inr (.inr (some (mu_z H)))], H11) _
    refine mw_go mu_g508 (k := 3) (f1 := (33, [(1, .inr (.inr (some (mu_z H)))), (0, .inr (.inr (some 169)))], [.inr (.inr (some 169)), .inr (.inr (some (mu_z H)))], H11)) (C := []) rfl trivial ?_
    refine mw_cX (as := []) (o := some 169) (S1 := [.inr (.inr (some (mu_z H)))]) rfl rfl rfl rfl (Nat.le_of_ble_eq_true rfl) (by decide) s11.is rfl (rp_whole (d := d + 1) s11 (by omega)) (fun H12 e => ?_) (fun v H12 e => ?_)
    · obtain ⟨e1, e2⟩ := e
      have hpx := per_eq (ite_no hpx e1)
      exact Or.inl ⟨_, rfl, _, hpx, (p11.bd e2).wk (by omega)⟩
    obtain ⟨e12, rfl, F12, s12, w12, f12⟩ := e
    have hpx := ite_ye hpx e12
    have u12 := v11.keep s11 g200 f12
    have p12 := p11.tr f12
    have z12 := p12.z
    show mu_W _ mu_m508 (36, [(1, .inr (.inr (some (mu_z H)))), (0, .inr (.inr (some 169)))], [.inl (whv T n t), .inr (.inr (some (mu_z H)))], H12) _
    refine mw_go mu_g508 (k := 1) (f1 := (39, [(1, .inr (.inr (some (mu_z H)))), (0, .inr (.inr (some 169)))], [], (mu_si H12 (mu_z H) 3 (whv T n t)))) (C := [mu_is H12 (some (mu_z H)) 18]) rfl (show mu_is H12 (some (mu_z H)) 18 from u12.is) ?_
    obtain ⟨v13, s13, p13⟩ := nu.setx (y := whv T n t) u12 s12 g200 p12
    obtain ⟨H13, eH13⟩ : ∃ K, K = mu_si H12 (mu_z H) 3 (whv T n t) := ⟨_, rfl⟩
    rw [← eH13] at v13 s13 p13 ⊢
    have z13 := p13.z
    show mu_W _ mu_m508 (39, [(1, .inr (.inr (some (mu_z H)))), (0, .inr (.inr (some 169)))], [], H13) _
    refine mw_go mu_g508 (k := 1) (f1 := (40, [(1, .inr (.inr (some (mu_z H)))), (0, .inr (.inr (some 169)))], [.inr (.inr (some (mu_z H)))], H13)) (C := []) rfl trivial ?_
    obtain ⟨F14, s14, n14, p14⟩ := v13.done s13 g200 p13
    have z14 := p14.z
    exact mw_of (fun _ => mu_ret rfl trivial (Or.inr ⟨_, _, rfl, _, _, (mu_z H), F14, rfl, pok_eq hpx, s14, n14, by omega, p14.wk (by omega)⟩))
  · -- 7
    have hpx := ite_no hpx h1
    have ht : t.1 ≠ 0 ∧ t.1 ≠ 1 := by rw [nmz_2 h1]; decide
    have st : pot n (adv T n t) + ((adv T n t).2.2 - t.2.2 + 4) + 15 ≤ pot n t := pot_step (T := T) hs.tkf.2.2 ht
    refine mw_go mu_g508 (k := 3) (f1 := (12, [(0, .inr (.inr (some 169)))], [.inr (.inr (some 169)), .inr (.inr (some 1000070)), .inr (.inr (some 169))], H)) (C := []) rfl trivial ?_
    refine mw_cX (as := []) (o := some 169) (S1 := [.inr (.inr (some (1000000 + 70))), .inr (.inr (some 169))]) rfl rfl rfl rfl (Nat.le_of_ble_eq_true rfl) (by decide) hs.is rfl (rp_name (d := d + 1) hs (by omega)) (fun H11 e => absurd e.1 h1) (fun v H11 e => ?_)
    obtain ⟨_, w, F11, rfl, ws11, s11, f11⟩ := e
    have l11 := l0.keep hs f11
    have f11 : pfr ((adv T n t).2.2 - t.2.2 + 4) F F11 H H11 := f11
    have p11 := p0.tr f11
    have z11 := p11.z
    show mu_W _ mu_m508 (15, [(0, .inr (.inr (some 169)))], [.inr (.inr (some w)), .inr (.inr (some (1000000 + 70))), .inr (.inr (some 169))], H11) _
    refine mw_go mu_g508 (k := 1) (f1 := (16, [(0, .inr (.inr (some 169)))], [.inr (.inr none), .inr (.inr (some w)), .inr (.inr (some (1000000 + 70))), .inr (.inr (some 169))], H11)) (C := []) rfl trivial ?_
    refine mw_cA (fun _ => rfl) (show mu_is H11 (some 169) 1 from s11.is) (rp_named0 (d := d + 4) (f := 0) s11 l11 (by decide) ws11 (by omega)) (fun v H20 q20 => ?_)
    obtain ⟨q, F20, rfl, s20, n20, f20⟩ := q20
    show mu_W _ mu_m508 (19, [(0, .inr (.inr (some 169)))], [.inr (.inr (some q))], H20) _
    exact mw_of (fun _ => mu_ret rfl trivial (Or.inr ⟨_, _, rfl, _, _, q, F20, rfl, pok_eq hpx, s20, n20, by show pot n (adv T n t) + 10 ≤ _; omega, (p11.tr f20).wk (by show _ ≤ pot n t - pot n (adv T n t) - 10; omega)⟩))
