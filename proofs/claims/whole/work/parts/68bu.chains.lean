/-! The reference: expression, implication, conjunction (parts with one sign between) -/
/-- PathProverModel.expression()LPathProverModel$Node; -/
abbrev mu_m491 : ev_M := (3, (some (.object "PathProverModel$Node")), [], ev_b491)
theorem mu_g491 : mu_good mu_m491 := mu_goodk ev_k491
/-- PathProverModel.implication()LPathProverModel$Node; -/
abbrev mu_m492 : ev_M := (3, (some (.object "PathProverModel$Node")), [], ev_b492)
theorem mu_g492 : mu_good mu_m492 := mu_goodk ev_k492
/-- PathProverModel.disjunction()LPathProverModel$Node; -/
abbrev mu_m493 : ev_M := (4, (some (.object "PathProverModel$Node")), [], ev_b493)
theorem mu_g493 : mu_good mu_m493 := mu_goodk ev_k493
/-- PathProverModel.conjunction()LPathProverModel$Node; -/
abbrev mu_m494 : ev_M := (3, (some (.object "PathProverModel$Node")), [], ev_b494)
theorem mu_g494 : mu_good mu_m494 := mu_goodk ev_k494
/-- PathProverModel.prefix()LPathProverModel$Node; -/
abbrev mu_m495 : ev_M := (2, (some (.object "PathProverModel$Node")), [], ev_b495)
theorem mu_g495 : mu_good mu_m495 := mu_goodk ev_k495
/-- PathProverModel.relation()LPathProverModel$Node; -/
abbrev mu_m497 : ev_M := (4, (some (.object "PathProverModel$Node")), [], ev_b497)
theorem mu_g497 : mu_good mu_m497 := mu_goodk ev_k497
/-- PathProverModel.sum()LPathProverModel$Node; -/
abbrev mu_m498 : ev_M := (4, (some (.object "PathProverModel$Node")), [], ev_b498)
theorem mu_g498 : mu_good mu_m498 := mu_goodk ev_k498
/-- PathProverModel.term()LPathProverModel$Node; -/
abbrev mu_m499 : ev_M := (4, (some (.object "PathProverModel$Node")), [], ev_b499)
theorem mu_g499 : mu_good mu_m499 := mu_goodk ev_k499
/-- PathProverModel.factor()LPathProverModel$Node; -/
abbrev mu_m500 : ev_M := (2, (some (.object "PathProverModel$Node")), [], ev_b500)
theorem mu_g500 : mu_good mu_m500 := mu_goodk ev_k500
/-- PathProverModel.cases(Z)LPathProverModel$Node; -/
abbrev mu_m502 : ev_M := (3, (some (.object "PathProverModel$Node")), [], ev_b502)
theorem mu_g502 : mu_good mu_m502 := mu_goodk ev_k502
/-- PathProverModel.choice()LPathProverModel$Node; -/
abbrev mu_m503 : ev_M := (2, (some (.object "PathProverModel$Node")), [], ev_b503)
theorem mu_g503 : mu_good mu_m503 := mu_goodk ev_k503
theorem rp_expr_loop {T : Nat → Int32} {n f d dep q s : Nat} {t0 : Tok} {F0 : Nat → Prop} {H0 : mu_H} {res : Nat ⊕ (Tre × Tok)} (hP : ∀ g, g ≤ f → pct T n g 1 492 13) (hz : mu_z H0 + pot n t0 + 40 ≤ 1000000) (h2 : 200 < mu_z H0) : ∀ g, g ≤ f → ∀ A F H t a c qs cs, pst T n t dep F H → nu H0 H F f q a c s 1 0 qs cs → pfr A F0 F H0 H → A + 27 * qs.length + pot n t ≤ pot n t0 + c + 15 → (0 < qs.length ∧ (qs.length = 1 → ¬ tis T t (txt 1) = 0)) → px T n g 20 dep cs t = some res → mu_W (mu_D (d + 6 * (150 - dep) + 13)) mu_m491 (30, [(2, .inr (.inr (some q))), (0, .inr (.inr (some 169)))], [], H) (fun r => (∃ H1, r = (.inr 0, H1) ∧ ∃ e, res = .inl e ∧ pbd T n e (pot n t0 + 30) H0 H1) ∨ ∃ v H1, r = (.inl v, H1) ∧ ∃ c t1 q F1, v = some (.inr (.inr (some q))) ∧ res = .inr (c, t1) ∧ pst T n t1 dep F1 H1 ∧ nd H1 F1 (f + 1) q c ∧ pot n t1 + 12 ≤ pot n t0 ∧ pfr (pot n t0 - pot n t1 - 12) F0 F1 H0 H1)
  | 0, _, _, _, _, _, _, _, _, _, _, _, _, _, _, hpx => by cases hpx
  | g + 1, hg, A, F, H, t, a, c, qs, cs, hs, hu, hp, hA0, hl, hpx => by
    have hpx : pxAl T n (px T n g) 1 1 20 dep cs t = some res := hpx
    unfold pxAl at hpx
    have hcap := hu.cap
    have hA := hp.z
    refine mw_go mu_g491 (k := 2) (f1 := (33, [(2, .inr (.inr (some q))), (0, .inr (.inr (some 169)))], [.inr (.inr (some 1000001)), .inr (.inr (some 169))], H)) (C := []) rfl trivial ?_
    refine mw_cIe (fun _ => rfl) (show mu_is H (some 169) 1 from hs.is) (rp_isL (j := 1) hs (by decide)) ?_
    refine mw_if (P := (tis T t (txt 1)) = 0) (a := 55) (b := 39) (fun _ => rfl) trivial (fun h1 => ?_) (fun h1 => ?_)
    · -- 55
      refine mw_go mu_g491 (k := 1) (f1 := (56, [(2, .inr (.inr (some q))), (0, .inr (.inr (some 169)))], [.inr (.inr (some q))], H)) (C := []) rfl trivial ?_
      have hpx := pok_eq (ite_ye hpx h1)
      have hl2 : qs.length ≠ 1 := fun e => hl.2 e h1
      have hl1 := hl.1
      obtain ⟨F1, d1, d2, d3⟩ := hu.done hs h2 hp
      exact mw_of (fun _ => mu_ret rfl trivial (Or.inr ⟨_, _, rfl, _, _, q, F1, rfl, hpx, d1, d2, by omega, d3.wk (by omega)⟩))
    · -- 39
      have hl1 := hl.1
      have hpx := ite_no hpx h1
      obtain ⟨res1, hr1⟩ := pbi_some hpx
      have hst := pot_step (T := T) hs.tkf.2.2 (tis_ne h1)
      refine mw_go mu_g491 (k := 1) (f1 := (40, [(2, .inr (.inr (some q))), (0, .inr (.inr (some 169)))], [.inr (.inr (some 169))], H)) (C := []) rfl trivial ?_
      refine mw_cV (fun _ => rfl) (show mu_is H (some 169) 1 from hs.is) (rp_advance hs (tis_ne h1) (by omega)) (fun H1 hq1 => ?_)
      show mu_W _ mu_m491 (43, [(2, .inr (.inr (some q))), (0, .inr (.inr (some 169)))], [], H1) _
      obtain ⟨F1, s1, f1⟩ := hq1
      have hu1 := hu.keep hs h2 f1
      have hp1 := hp.tr f1
      have hA1 := hp1.z
      refine mw_go mu_g491 (k := 2) (f1 := (45, [(2, .inr (.inr (some q))), (0, .inr (.inr (some 169)))], [.inr (.inr (some 169)), .inr (.inr (some q))], H1)) (C := []) rfl trivial ?_
      refine mw_cX (as := []) (o := some 169) (S1 := [.inr (.inr (some q))]) rfl rfl rfl rfl (Nat.le_of_ble_eq_true rfl) (by decide) s1.is rfl (hP g (by omega) d dep _ F1 H1 res1 s1 (by omega) hr1) (fun H2 e => ?_) (fun v H2 e => ?_)
      · obtain ⟨e', e1, e2⟩ := e
        rw [show px T n g 1 dep [] (adv T n t) = some res1 from hr1, e1] at hpx
        exact Or.inl ⟨H2, rfl, e', pbi_inl hpx, (hp1.bd e2).wk (by omega)⟩
      obtain ⟨c1, t1, q1, F2, rfl, e1, s2, n2, w2, f2⟩ := e
      rw [show px T n g 1 dep [] (adv T n t) = some res1 from hr1, e1] at hpx
      have hpx : px T n g 20 dep (cs ++ [c1]) t1 = some res := hpx
      have hu2 := hu1.keep s1 h2 f2
      have hp2 := hp1.tr f2
      have hA2 := hp2.z
      show mu_W _ mu_m491 (48, [(2, .inr (.inr (some q))), (0, .inr (.inr (some 169)))], [.inr (.inr (some q1)), .inr (.inr (some q))], H2) _
      refine mw_cA (fun _ => rfl) (show mu_is H2 (some q) 18 from hu2.is) (nd_addU hu2 s2 h2 (n2.le (by omega)) (by omega) (by omega)) (fun r H3 hq3 => ?_)
      obtain ⟨rfl, a3, c3, hu3, s3, hc3, k3⟩ := hq3
      show mu_W _ mu_m491 (51, [(2, .inr (.inr (some q))), (0, .inr (.inr (some 169)))], [.inr (.inr (some q))], H3) _
      refine mw_go mu_g491 (k := 2) (f1 := (30, [(2, .inr (.inr (some q))), (0, .inr (.inr (some 169)))], [], H3)) (C := []) rfl trivial ?_
      have hcap3 := hu3.cap
      rw [List.length_append] at hcap3
      have hcap3 : qs.length + 1 ≤ c3 ∧ 2 ≤ c3 ∧ c3 ≤ 2 * (qs.length + 1) + 2 ∧ _ := hcap3
      refine mw_sub (L' := [(2, .inr (.inr (some q))), (0, .inr (.inr (some 169)))]) (by simp) ?_
      refine rp_expr_loop hP hz h2 g (by omega) (_ + (c3 - c)) F2 H3 t1 a3 c3 (qs ++ [q1]) (cs ++ [c1]) s3 hu3 (hp2.kp k3 (fun p z => z) (by omega) (by omega)) ?_ (by rw [List.length_append]; exact ⟨Nat.succ_pos _, fun e => by have e : qs.length + 1 = 1 := e; omega⟩) hpx
      rw [List.length_append]
      show _ + 27 * (qs.length + 1) + pot n t1 ≤ pot n t0 + c3 + 15
      omega
theorem rp_expr {T : Nat → Int32} {n f : Nat} (hP : ∀ g, g ≤ f → pct T n g 1 492 13) : pct T n (f + 1) 0 491 14 := by
  intro d dep t F H res hs hz hpx
  have hpx : pxA T (px T n f) 1 1 20 dep t = some res := hpx
  unfold pxA at hpx
  have g200 := hs.1.1
  refine mu_meth (M := mu_m491) rfl rfl ?_
  refine mw_ht (mu_fn_of (show [0].Nodup by decide)) ?_
  obtain ⟨res1, hr1⟩ := pbi_some hpx
  refine mw_go mu_g491 (k := 1) (f1 := (1, [(0, .inr (.inr (some 169)))], [.inr (.inr (some 169))], H)) (C := []) rfl trivial ?_
  refine mw_cX (as := []) (o := some 169) (S1 := []) rfl rfl rfl rfl (by decide) (by decide) hs.is rfl (hP f (Nat.le_refl _) d dep _ F H res1 hs hz hr1) (fun H2 e => ?_) (fun v H2 e => ?_)
  · obtain ⟨e', e1, e2⟩ := e
    rw [hr1, e1] at hpx
    exact Or.inl ⟨H2, rfl, e', pbi_inl hpx, e2⟩
  obtain ⟨c1, t1, q1, F2, rfl, e1, s2, n2, w2, f2⟩ := e
  rw [hr1, e1] at hpx
  have hpx : (if tis T t1 (txt 1) = 0 then pok c1 t1 else px T n f 20 dep [c1] t1) = some res := hpx
  have hA2 := f2.z
  show mu_W _ mu_m491 (4, [(0, .inr (.inr (some 169)))], [.inr (.inr (some q1))], H2) _
  refine mw_go mu_g491 (k := 3) (f1 := (8, [(1, .inr (.inr (some q1))), (0, .inr (.inr (some 169)))], [.inr (.inr (some 1000001)), .inr (.inr (some 169))], H2)) (C := []) rfl trivial ?_
  refine mw_cIe (fun _ => rfl) (show mu_is H2 (some 169) 1 from s2.is) (rp_isL (j := 1) s2 (by decide)) ?_
  refine mw_if (P := (tis T t1 (txt 1)) = 0) (a := 14) (b := 16) (fun _ => rfl) trivial (fun h1 => ?_) (fun h1 => ?_)
  · -- 14
    refine mw_go mu_g491 (k := 1) (f1 := (15, [(1, .inr (.inr (some q1))), (0, .inr (.inr (some 169)))], [.inr (.inr (some q1))], H2)) (C := []) rfl trivial ?_
    have hpx := pok_eq (ite_ye hpx h1)
    exact mw_of (fun _ => mu_ret rfl trivial (Or.inr ⟨_, _, rfl, _, _, q1, F2, rfl, hpx, s2, n2.up, w2, f2⟩))
  · -- 16
    have hpx := ite_no hpx h1
    refine mw_newo rfl (by decide) (by omega) ?_
    show mu_W _ mu_m491 (19, [(1, .inr (.inr (some q1))), (0, .inr (.inr (some 169)))], [.inr (.inr (some (mu_z H2)))], (mu_nw H2 18 0 8)) _
    refine mw_go mu_g491 (k := 2) (f1 := (22, [(1, .inr (.inr (some q1))), (0, .inr (.inr (some 169)))], [.inr (.inr (some 1000001)), .inr (.inr (some (mu_z H2))), .inr (.inr (some (mu_z H2)))], (mu_nw H2 18 0 8))) (C := []) rfl trivial ?_
    refine mw_cV (fun _ => rfl) ⟨rfl, Nat.lt_succ_self _⟩ (nd_newL (j := 1) (H0 := H) (f := f) s2 (by omega) (by omega) (by decide)) (fun H3 hq3 => ?_)
    show mu_W _ mu_m491 (25, [(1, .inr (.inr (some q1))), (0, .inr (.inr (some 169)))], [.inr (.inr (some (mu_z H2)))], H3) _
    obtain ⟨hu3, s3, k3⟩ := hq3
    have n3 : nd H3 F2 f q1 c1 := n2.kp k3 (fun p z => ⟨fun y => by have := (s2.fz p y).2.1.1; omega, z.2⟩)
    have hA3 := k3.2.2.1.1
    refine mw_go mu_g491 (k := 1) (f1 := (26, [(1, .inr (.inr (some q1))), (0, .inr (.inr (some 169)))], [.inr (.inr (some q1)), .inr (.inr (some (mu_z H2)))], H3)) (C := []) rfl trivial ?_
    refine mw_cA (fun _ => rfl) (show mu_is H3 (some (mu_z H2)) 18 from hu3.is) (nd_addU hu3 s3 g200 n3 (by omega) (by omega)) (fun r H4 hq4 => ?_)
    obtain ⟨rfl, a4, c4, hu4, s4, hc4, k4⟩ := hq4
    show mu_W _ mu_m491 (29, [(1, .inr (.inr (some q1))), (0, .inr (.inr (some 169)))], [.inr (.inr (some (mu_z H2)))], H4) _
    refine mw_go mu_g491 (k := 1) (f1 := (30, [(2, .inr (.inr (some (mu_z H2)))), (1, .inr (.inr (some q1))), (0, .inr (.inr (some 169)))], [], H4)) (C := []) rfl trivial ?_
    have hcap := hu4.cap
    have hcap : 1 ≤ c4 ∧ 2 ≤ c4 ∧ c4 ≤ 2 * 1 + 2 ∧ _ := hcap
    refine mw_sub (L' := [(2, .inr (.inr (some (mu_z H2)))), (0, .inr (.inr (some 169)))]) (by simp) ?_
    refine rp_expr_loop hP hz g200 f (Nat.le_refl _) ((pot n t - pot n t1 - 12) + 2 + (c4 - 2)) F2 H4 t1 a4 c4 [q1] [c1] s4 hu4 ((f2.kp k3 (fun p z => ⟨by omega, z.2⟩) (by omega) (by omega)).kp k4 (fun p z => z) (by omega) (by omega)) ?_ ⟨Nat.succ_pos _, fun _ => h1⟩ hpx
    show _ + 27 * 1 + pot n t1 ≤ pot n t + c4 + 15
    omega
theorem rp_impl_loop {T : Nat → Int32} {n f d dep q s : Nat} {t0 : Tok} {F0 : Nat → Prop} {H0 : mu_H} {res : Nat ⊕ (Tre × Tok)} (hP : ∀ g, g ≤ f → pct T n g 2 493 12) (hz : mu_z H0 + pot n t0 + 40 ≤ 1000000) (h2 : 200 < mu_z H0) : ∀ g, g ≤ f → ∀ A F H t a c qs cs, pst T n t dep F H → nu H0 H F f q a c s 2 0 qs cs → pfr A F0 F H0 H → A + 27 * qs.length + pot n t ≤ pot n t0 + c + 15 → (0 < qs.length ∧ (qs.length = 1 → ¬ tis T t (txt 2) = 0)) → px T n g 21 dep cs t = some res → mu_W (mu_D (d + 6 * (150 - dep) + 12)) mu_m492 (30, [(2, .inr (.inr (some q))), (0, .inr (.inr (some 169)))], [], H) (fun r => (∃ H1, r = (.inr 0, H1) ∧ ∃ e, res = .inl e ∧ pbd T n e (pot n t0 + 30) H0 H1) ∨ ∃ v H1, r = (.inl v, H1) ∧ ∃ c t1 q F1, v = some (.inr (.inr (some q))) ∧ res = .inr (c, t1) ∧ pst T n t1 dep F1 H1 ∧ nd H1 F1 (f + 1) q c ∧ pot n t1 + 12 ≤ pot n t0 ∧ pfr (pot n t0 - pot n t1 - 12) F0 F1 H0 H1)
  | 0, _, _, _, _, _, _, _, _, _, _, _, _, _, _, hpx => by cases hpx
  | g + 1, hg, A, F, H, t, a, c, qs, cs, hs, hu, hp, hA0, hl, hpx => by
    have hpx : pxAl T n (px T n g) 2 2 21 dep cs t = some res := hpx
    unfold pxAl at hpx
    have hcap := hu.cap
    have hA := hp.z
    refine mw_go mu_g492 (k := 2) (f1 := (33, [(2, .inr (.inr (some q))), (0, .inr (.inr (some 169)))], [.inr (.inr (some 1000002)), .inr (.inr (some 169))], H)) (C := []) rfl trivial ?_
    refine mw_cIe (fun _ => rfl) (show mu_is H (some 169) 1 from hs.is) (rp_isL (j := 2) hs (by decide)) ?_
    refine mw_if (P := (tis T t (txt 2)) = 0) (a := 55) (b := 39) (fun _ => rfl) trivial (fun h1 => ?_) (fun h1 => ?_)
    · -- 55
      refine mw_go mu_g492 (k := 1) (f1 := (56, [(2, .inr (.inr (some q))), (0, .inr (.inr (some 169)))], [.inr (.inr (some q))], H)) (C := []) rfl trivial ?_
      have hpx := pok_eq (ite_ye hpx h1)
      have hl2 : qs.length ≠ 1 := fun e => hl.2 e h1
      have hl1 := hl.1
      obtain ⟨F1, d1, d2, d3⟩ := hu.done hs h2 hp
      exact mw_of (fun _ => mu_ret rfl trivial (Or.inr ⟨_, _, rfl, _, _, q, F1, rfl, hpx, d1, d2, by omega, d3.wk (by omega)⟩))
    · -- 39
      have hl1 := hl.1
      have hpx := ite_no hpx h1
      obtain ⟨res1, hr1⟩ := pbi_some hpx
      have hst := pot_step (T := T) hs.tkf.2.2 (tis_ne h1)
      refine mw_go mu_g492 (k := 1) (f1 := (40, [(2, .inr (.inr (some q))), (0, .inr (.inr (some 169)))], [.inr (.inr (some 169))], H)) (C := []) rfl trivial ?_
      refine mw_cV (fun _ => rfl) (show mu_is H (some 169) 1 from hs.is) (rp_advance hs (tis_ne h1) (by omega)) (fun H1 hq1 => ?_)
      show mu_W _ mu_m492 (43, [(2, .inr (.inr (some q))), (0, .inr (.inr (some 169)))], [], H1) _
      obtain ⟨F1, s1, f1⟩ := hq1
      have hu1 := hu.keep hs h2 f1
      have hp1 := hp.tr f1
      have hA1 := hp1.z
      refine mw_go mu_g492 (k := 2) (f1 := (45, [(2, .inr (.inr (some q))), (0, .inr (.inr (some 169)))], [.inr (.inr (some 169)), .inr (.inr (some q))], H1)) (C := []) rfl trivial ?_
      refine mw_cX (as := []) (o := some 169) (S1 := [.inr (.inr (some q))]) rfl rfl rfl rfl (Nat.le_of_ble_eq_true rfl) (by decide) s1.is rfl (hP g (by omega) d dep _ F1 H1 res1 s1 (by omega) hr1) (fun H2 e => ?_) (fun v H2 e => ?_)
      · obtain ⟨e', e1, e2⟩ := e
        rw [show px T n g 2 dep [] (adv T n t) = some res1 from hr1, e1] at hpx
        exact Or.inl ⟨H2, rfl, e', pbi_inl hpx, (hp1.bd e2).wk (by omega)⟩
      obtain ⟨c1, t1, q1, F2, rfl, e1, s2, n2, w2, f2⟩ := e
      rw [show px T n g 2 dep [] (adv T n t) = some res1 from hr1, e1] at hpx
      have hpx : px T n g 21 dep (cs ++ [c1]) t1 = some res := hpx
      have hu2 := hu1.keep s1 h2 f2
      have hp2 := hp1.tr f2
      have hA2 := hp2.z
      show mu_W _ mu_m492 (48, [(2, .inr (.inr (some q))), (0, .inr (.inr (some 169)))], [.inr (.inr (some q1)), .inr (.inr (some q))], H2) _
      refine mw_cA (fun _ => rfl) (show mu_is H2 (some q) 18 from hu2.is) (nd_addU hu2 s2 h2 (n2.le (by omega)) (by omega) (by omega)) (fun r H3 hq3 => ?_)
      obtain ⟨rfl, a3, c3, hu3, s3, hc3, k3⟩ := hq3
      show mu_W _ mu_m492 (51, [(2, .inr (.inr (some q))), (0, .inr (.inr (some 169)))], [.inr (.inr (some q))], H3) _
      refine mw_go mu_g492 (k := 2) (f1 := (30, [(2, .inr (.inr (some q))), (0, .inr (.inr (some 169)))], [], H3)) (C := []) rfl trivial ?_
      have hcap3 := hu3.cap
      rw [List.length_append] at hcap3
      have hcap3 : qs.length + 1 ≤ c3 ∧ 2 ≤ c3 ∧ c3 ≤ 2 * (qs.length + 1) + 2 ∧ _ := hcap3
      refine mw_sub (L' := [(2, .inr (.inr (some q))), (0, .inr (.inr (some 169)))]) (by simp) ?_
      refine rp_impl_loop hP hz h2 g (by omega) (_ + (c3 - c)) F2 H3 t1 a3 c3 (qs ++ [q1]) (cs ++ [c1]) s3 hu3 (hp2.kp k3 (fun p z => z) (by omega) (by omega)) ?_ (by rw [List.length_append]; exact ⟨Nat.succ_pos _, fun e => by have e : qs.length + 1 = 1 := e; omega⟩) hpx
      rw [List.length_append]
      show _ + 27 * (qs.length + 1) + pot n t1 ≤ pot n t0 + c3 + 15
      omega
theorem rp_impl {T : Nat → Int32} {n f : Nat} (hP : ∀ g, g ≤ f → pct T n g 2 493 12) : pct T n (f + 1) 1 492 13 := by
  intro d dep t F H res hs hz hpx
  have hpx : pxA T (px T n f) 2 2 21 dep t = some res := hpx
  unfold pxA at hpx
  have g200 := hs.1.1
  refine mu_meth (M := mu_m492) rfl rfl ?_
  refine mw_ht (mu_fn_of (show [0].Nodup by decide)) ?_
  obtain ⟨res1, hr1⟩ := pbi_some hpx
  refine mw_go mu_g492 (k := 1) (f1 := (1, [(0, .inr (.inr (some 169)))], [.inr (.inr (some 169))], H)) (C := []) rfl trivial ?_
  refine mw_cX (as := []) (o := some 169) (S1 := []) rfl rfl rfl rfl (by decide) (by decide) hs.is rfl (hP f (Nat.le_refl _) d dep _ F H res1 hs hz hr1) (fun H2 e => ?_) (fun v H2 e => ?_)
  · obtain ⟨e', e1, e2⟩ := e
    rw [hr1, e1] at hpx
    exact Or.inl ⟨H2, rfl, e', pbi_inl hpx, e2⟩
  obtain ⟨c1, t1, q1, F2, rfl, e1, s2, n2, w2, f2⟩ := e
  rw [hr1, e1] at hpx
  have hpx : (if tis T t1 (txt 2) = 0 then pok c1 t1 else px T n f 21 dep [c1] t1) = some res := hpx
  have hA2 := f2.z
  show mu_W _ mu_m492 (4, [(0, .inr (.inr (some 169)))], [.inr (.inr (some q1))], H2) _
  refine mw_go mu_g492 (k := 3) (f1 := (8, [(1, .inr (.inr (some q1))), (0, .inr (.inr (some 169)))], [.inr (.inr (some 1000002)), .inr (.inr (some 169))], H2)) (C := []) rfl trivial ?_
  refine mw_cIe (fun _ => rfl) (show mu_is H2 (some 169) 1 from s2.is) (rp_isL (j := 2) s2 (by decide)) ?_
  refine mw_if (P := (tis T t1 (txt 2)) = 0) (a := 14) (b := 16) (fun _ => rfl) trivial (fun h1 => ?_) (fun h1 => ?_)
  · -- 14
    refine mw_go mu_g492 (k := 1) (f1 := (15, [(1, .inr (.inr (some q1))), (0, .inr (.inr (some 169)))], [.inr (.inr (some q1))], H2)) (C := []) rfl trivial ?_
    have hpx := pok_eq (ite_ye hpx h1)
    exact mw_of (fun _ => mu_ret rfl trivial (Or.inr ⟨_, _, rfl, _, _, q1, F2, rfl, hpx, s2, n2.up, w2, f2⟩))
  · -- 16
    have hpx := ite_no hpx h1
    refine mw_newo rfl (by decide) (by omega) ?_
    show mu_W _ mu_m492 (19, [(1, .inr (.inr (some q1))), (0, .inr (.inr (some 169)))], [.inr (.inr (some (mu_z H2)))], (mu_nw H2 18 0 8)) _
    refine mw_go mu_g492 (k := 2) (f1 := (22, [(1, .inr (.inr (some q1))), (0, .inr (.inr (some 169)))], [.inr (.inr (some 1000002)), .inr (.inr (some (mu_z H2))), .inr (.inr (some (mu_z H2)))], (mu_nw H2 18 0 8))) (C := []) rfl trivial ?_
    refine mw_cV (fun _ => rfl) ⟨rfl, Nat.lt_succ_self _⟩ (nd_newL (j := 2) (H0 := H) (f := f) s2 (by omega) (by omega) (by decide)) (fun H3 hq3 => ?_)
    show mu_W _ mu_m492 (25, [(1, .inr (.inr (some q1))), (0, .inr (.inr (some 169)))], [.inr (.inr (some (mu_z H2)))], H3) _
    obtain ⟨hu3, s3, k3⟩ := hq3
    have n3 : nd H3 F2 f q1 c1 := n2.kp k3 (fun p z => ⟨fun y => by have := (s2.fz p y).2.1.1; omega, z.2⟩)
    have hA3 := k3.2.2.1.1
    refine mw_go mu_g492 (k := 1) (f1 := (26, [(1, .inr (.inr (some q1))), (0, .inr (.inr (some 169)))], [.inr (.inr (some q1)), .inr (.inr (some (mu_z H2)))], H3)) (C := []) rfl trivial ?_
    refine mw_cA (fun _ => rfl) (show mu_is H3 (some (mu_z H2)) 18 from hu3.is) (nd_addU hu3 s3 g200 n3 (by omega) (by omega)) (fun r H4 hq4 => ?_)
    obtain ⟨rfl, a4, c4, hu4, s4, hc4, k4⟩ := hq4
    show mu_W _ mu_m492 (29, [(1, .inr (.inr (some q1))), (0, .inr (.inr (some 169)))], [.inr (.inr (some (mu_z H2)))], H4) _
    refine mw_go mu_g492 (k := 1) (f1 := (30, [(2, .inr (.inr (some (mu_z H2)))), (1, .inr (.inr (some q1))), (0, .inr (.inr (some 169)))], [], H4)) (C := []) rfl trivial ?_
    have hcap := hu4.cap
    have hcap : 1 ≤ c4 ∧ 2 ≤ c4 ∧ c4 ≤ 2 * 1 + 2 ∧ _ := hcap
    refine mw_sub (L' := [(2, .inr (.inr (some (mu_z H2)))), (0, .inr (.inr (some 169)))]) (by simp) ?_
    refine rp_impl_loop hP hz g200 f (Nat.le_refl _) ((pot n t - pot n t1 - 12) + 2 + (c4 - 2)) F2 H4 t1 a4 c4 [q1] [c1] s4 hu4 ((f2.kp k3 (fun p z => ⟨by omega, z.2⟩) (by omega) (by omega)).kp k4 (fun p z => z) (by omega) (by omega)) ?_ ⟨Nat.succ_pos _, fun _ => h1⟩ hpx
    show _ + 27 * 1 + pot n t1 ≤ pot n t + c4 + 15
    omega
theorem rp_conj_loop {T : Nat → Int32} {n f d dep q s : Nat} {t0 : Tok} {F0 : Nat → Prop} {H0 : mu_H} {res : Nat ⊕ (Tre × Tok)} (hP : ∀ g, g ≤ f → pct T n g 4 495 10) (hz : mu_z H0 + pot n t0 + 40 ≤ 1000000) (h2 : 200 < mu_z H0) : ∀ g, g ≤ f → ∀ A F H t a c qs cs, pst T n t dep F H → nu H0 H F f q a c s 19 0 qs cs → pfr A F0 F H0 H → A + 27 * qs.length + pot n t ≤ pot n t0 + c + 15 → (0 < qs.length ∧ (qs.length = 1 → ¬ tis T t (txt 19) = 0)) → px T n g 23 dep cs t = some res → mu_W (mu_D (d + 6 * (150 - dep) + 10)) mu_m494 (30, [(2, .inr (.inr (some q))), (0, .inr (.inr (some 169)))], [], H) (fun r => (∃ H1, r = (.inr 0, H1) ∧ ∃ e, res = .inl e ∧ pbd T n e (pot n t0 + 30) H0 H1) ∨ ∃ v H1, r = (.inl v, H1) ∧ ∃ c t1 q F1, v = some (.inr (.inr (some q))) ∧ res = .inr (c, t1) ∧ pst T n t1 dep F1 H1 ∧ nd H1 F1 (f + 1) q c ∧ pot n t1 + 12 ≤ pot n t0 ∧ pfr (pot n t0 - pot n t1 - 12) F0 F1 H0 H1)
  | 0, _, _, _, _, _, _, _, _, _, _, _, _, _, _, hpx => by cases hpx
  | g + 1, hg, A, F, H, t, a, c, qs, cs, hs, hu, hp, hA0, hl, hpx => by
    have hpx : pxAl T n (px T n g) 19 4 23 dep cs t = some res := hpx
    unfold pxAl at hpx
    have hcap := hu.cap
    have hA := hp.z
    refine mw_go mu_g494 (k := 2) (f1 := (33, [(2, .inr (.inr (some q))), (0, .inr (.inr (some 169)))], [.inr (.inr (some 1000019)), .inr (.inr (some 169))], H)) (C := []) rfl trivial ?_
    refine mw_cIe (fun _ => rfl) (show mu_is H (some 169) 1 from hs.is) (rp_isL (j := 19) hs (by decide)) ?_
    refine mw_if (P := (tis T t (txt 19)) = 0) (a := 55) (b := 39) (fun _ => rfl) trivial (fun h1 => ?_) (fun h1 => ?_)
    · -- 55
      refine mw_go mu_g494 (k := 1) (f1 := (56, [(2, .inr (.inr (some q))), (0, .inr (.inr (some 169)))], [.inr (.inr (some q))], H)) (C := []) rfl trivial ?_
      have hpx := pok_eq (ite_ye hpx h1)
      have hl2 : qs.length ≠ 1 := fun e => hl.2 e h1
      have hl1 := hl.1
      obtain ⟨F1, d1, d2, d3⟩ := hu.done hs h2 hp
      exact mw_of (fun _ => mu_ret rfl trivial (Or.inr ⟨_, _, rfl, _, _, q, F1, rfl, hpx, d1, d2, by omega, d3.wk (by omega)⟩))
    · -- 39
      have hl1 := hl.1
      have hpx := ite_no hpx h1
      obtain ⟨res1, hr1⟩ := pbi_some hpx
      have hst := pot_step (T := T) hs.tkf.2.2 (tis_ne h1)
      refine mw_go mu_g494 (k := 1) (f1 := (40, [(2, .inr (.inr (some q))), (0, .inr (.inr (some 169)))], [.inr (.inr (some 169))], H)) (C := []) rfl trivial ?_
      refine mw_cV (fun _ => rfl) (show mu_is H (some 169) 1 from hs.is) (rp_advance hs (tis_ne h1) (by omega)) (fun H1 hq1 => ?_)
      show mu_W _ mu_m494 (43, [(2, .inr (.inr (some q))), (0, .inr (.inr (some 169)))], [], H1) _
      obtain ⟨F1, s1, f1⟩ := hq1
      have hu1 := hu.keep hs h2 f1
      have hp1 := hp.tr f1
      have hA1 := hp1.z
      refine mw_go mu_g494 (k := 2) (f1 := (45, [(2, .inr (.inr (some q))), (0, .inr (.inr (some 169)))], [.inr (.inr (some 169)), .inr (.inr (some q))], H1)) (C := []) rfl trivial ?_
      refine mw_cX (as := []) (o := some 169) (S1 := [.inr (.inr (some q))]) rfl rfl rfl rfl (Nat.le_of_ble_eq_true rfl) (by decide) s1.is rfl (hP g (by omega) d dep _ F1 H1 res1 s1 (by omega) hr1) (fun H2 e => ?_) (fun v H2 e => ?_)
      · obtain ⟨e', e1, e2⟩ := e
        rw [show px T n g 4 dep [] (adv T n t) = some res1 from hr1, e1] at hpx
        exact Or.inl ⟨H2, rfl, e', pbi_inl hpx, (hp1.bd e2).wk (by omega)⟩
      obtain ⟨c1, t1, q1, F2, rfl, e1, s2, n2, w2, f2⟩ := e
      rw [show px T n g 4 dep [] (adv T n t) = some res1 from hr1, e1] at hpx
      have hpx : px T n g 23 dep (cs ++ [c1]) t1 = some res := hpx
      have hu2 := hu1.keep s1 h2 f2
      have hp2 := hp1.tr f2
      have hA2 := hp2.z
      show mu_W _ mu_m494 (48, [(2, .inr (.inr (some q))), (0, .inr (.inr (some 169)))], [.inr (.inr (some q1)), .inr (.inr (some q))], H2) _
      refine mw_cA (fun _ => rfl) (show mu_is H2 (some q) 18 from hu2.is) (nd_addU hu2 s2 h2 (n2.le (by omega)) (by omega) (by omega)) (fun r H3 hq3 => ?_)
      obtain ⟨rfl, a3, c3, hu3, s3, hc3, k3⟩ := hq3
      show mu_W _ mu_m494 (51, [(2, .inr (.inr (some q))), (0, .inr (.inr (some 169)))], [.inr (.inr (some q))], H3) _
      refine mw_go mu_g494 (k := 2) (f1 := (30, [(2, .inr (.inr (some q))), (0, .inr (.inr (some 169)))], [], H3)) (C := []) rfl trivial ?_
      have hcap3 := hu3.cap
      rw [List.length_append] at hcap3
      have hcap3 : qs.length + 1 ≤ c3 ∧ 2 ≤ c3 ∧ c3 ≤ 2 * (qs.length + 1) + 2 ∧ _ := hcap3
      refine mw_sub (L' := [(2, .inr (.inr (some q))), (0, .inr (.inr (some 169)))]) (by simp) ?_
      refine rp_conj_loop hP hz h2 g (by omega) (_ + (c3 - c)) F2 H3 t1 a3 c3 (qs ++ [q1]) (cs ++ [c1]) s3 hu3 (hp2.kp k3 (fun p z => z) (by omega) (by omega)) ?_ (by rw [List.length_append]; exact ⟨Nat.succ_pos _, fun e => by have e : qs.length + 1 = 1 := e; omega⟩) hpx
      rw [List.length_append]
      show _ + 27 * (qs.length + 1) + pot n t1 ≤ pot n t0 + c3 + 15
      omega
theorem rp_conj {T : Nat → Int32} {n f : Nat} (hP : ∀ g, g ≤ f → pct T n g 4 495 10) : pct T n (f + 1) 3 494 11 := by
  intro d dep t F H res hs hz hpx
  have hpx : pxA T (px T n f) 19 4 23 dep t = some res := hpx
  unfold pxA at hpx
  have g200 := hs.1.1
  refine mu_meth (M := mu_m494) rfl rfl ?_
  refine mw_ht (mu_fn_of (show [0].Nodup by decide)) ?_
  obtain ⟨res1, hr1⟩ := pbi_some hpx
  refine mw_go mu_g494 (k := 1) (f1 := (1, [(0, .inr (.inr (some 169)))], [.inr (.inr (some 169))], H)) (C := []) rfl trivial ?_
  refine mw_cX (as := []) (o := some 169) (S1 := []) rfl rfl rfl rfl (by decide) (by decide) hs.is rfl (hP f (Nat.le_refl _) d dep _ F H res1 hs hz hr1) (fun H2 e => ?_) (fun v H2 e => ?_)
  · obtain ⟨e', e1, e2⟩ := e
    rw [hr1, e1] at hpx
    exact Or.inl ⟨H2, rfl, e', pbi_inl hpx, e2⟩
  obtain ⟨c1, t1, q1, F2, rfl, e1, s2, n2, w2, f2⟩ := e
  rw [hr1, e1] at hpx
  have hpx : (if tis T t1 (txt 19) = 0 then pok c1 t1 else px T n f 23 dep [c1] t1) = some res := hpx
  have hA2 := f2.z
  show mu_W _ mu_m494 (4, [(0, .inr (.inr (some 169)))], [.inr (.inr (some q1))], H2) _
  refine mw_go mu_g494 (k := 3) (f1 := (8, [(1, .inr (.inr (some q1))), (0, .inr (.inr (some 169)))], [.inr (.inr (some 1000019)), .inr (.inr (some 169))], H2)) (C := []) rfl trivial ?_
  refine mw_cIe (fun _ => rfl) (show mu_is H2 (some 169) 1 from s2.is) (rp_isL (j := 19) s2 (by decide)) ?_
  refine mw_if (P := (tis T t1 (txt 19)) = 0) (a := 14) (b := 16) (fun _ => rfl) trivial (fun h1 => ?_) (fun h1 => ?_)
  · -- 14
    refine mw_go mu_g494 (k := 1) (f1 := (15, [(1, .inr (.inr (some q1))), (0, .inr (.inr (some 169)))], [.inr (.inr (some q1))], H2)) (C := []) rfl trivial ?_
    have hpx := pok_eq (ite_ye hpx h1)
    exact mw_of (fun _ => mu_ret rfl trivial (Or.inr ⟨_, _, rfl, _, _, q1, F2, rfl, hpx, s2, n2.up, w2, f2⟩))
  · -- 16
    have hpx := ite_no hpx h1
    refine mw_newo rfl (by decide) (by omega) ?_
    show mu_W _ mu_m494 (19, [(1, .inr (.inr (some q1))), (0, .inr (.inr (some 169)))], [.inr (.inr (some (mu_z H2)))], (mu_nw H2 18 0 8)) _
    refine mw_go mu_g494 (k := 2) (f1 := (22, [(1, .inr (.inr (some q1))), (0, .inr (.inr (some 169)))], [.inr (.inr (some 1000019)), .inr (.inr (some (mu_z H2))), .inr (.inr (some (mu_z H2)))], (mu_nw H2 18 0 8))) (C := []) rfl trivial ?_
    refine mw_cV (fun _ => rfl) ⟨rfl, Nat.lt_succ_self _⟩ (nd_newL (j := 19) (H0 := H) (f := f) s2 (by omega) (by omega) (by decide)) (fun H3 hq3 => ?_)
    show mu_W _ mu_m494 (25, [(1, .inr (.inr (some q1))), (0, .inr (.inr (some 169)))], [.inr (.inr (some (mu_z H2)))], H3) _
    obtain ⟨hu3, s3, k3⟩ := hq3
    have n3 : nd H3 F2 f q1 c1 := n2.kp k3 (fun p z => ⟨fun y => by have := (s2.fz p y).2.1.1; omega, z.2⟩)
    have hA3 := k3.2.2.1.1
    refine mw_go mu_g494 (k := 1) (f1 := (26, [(1, .inr (.inr (some q1))), (0, .inr (.inr (some 169)))], [.inr (.inr (some q1)), .inr (.inr (some (mu_z H2)))], H3)) (C := []) rfl trivial ?_
    refine mw_cA (fun _ => rfl) (show mu_is H3 (some (mu_z H2)) 18 from hu3.is) (nd_addU hu3 s3 g200 n3 (by omega) (by omega)) (fun r H4 hq4 => ?_)
    obtain ⟨rfl, a4, c4, hu4, s4, hc4, k4⟩ := hq4
    show mu_W _ mu_m494 (29, [(1, .inr (.inr (some q1))), (0, .inr (.inr (some 169)))], [.inr (.inr (some (mu_z H2)))], H4) _
    refine mw_go mu_g494 (k := 1) (f1 := (30, [(2, .inr (.inr (some (mu_z H2)))), (1, .inr (.inr (some q1))), (0, .inr (.inr (some 169)))], [], H4)) (C := []) rfl trivial ?_
    have hcap := hu4.cap
    have hcap : 1 ≤ c4 ∧ 2 ≤ c4 ∧ c4 ≤ 2 * 1 + 2 ∧ _ := hcap
    refine mw_sub (L' := [(2, .inr (.inr (some (mu_z H2)))), (0, .inr (.inr (some 169)))]) (by simp) ?_
    refine rp_conj_loop hP hz g200 f (Nat.le_refl _) ((pot n t - pot n t1 - 12) + 2 + (c4 - 2)) F2 H4 t1 a4 c4 [q1] [c1] s4 hu4 ((f2.kp k3 (fun p z => ⟨by omega, z.2⟩) (by omega) (by omega)).kp k4 (fun p z => z) (by omega) (by omega)) ?_ ⟨Nat.succ_pos _, fun _ => h1⟩ hpx
    show _ + 27 * 1 + pot n t1 ≤ pot n t + c4 + 15
    omega
