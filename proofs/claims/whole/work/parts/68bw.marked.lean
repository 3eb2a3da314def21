/-! The reference: disjunction, sum, term (parts with marks between) -/
theorem mod_ns : ∀ s, s < 27 → ¬ sgt s = txt 51 := by decide +kernel
/-- a sign is not the word mod -/
theorem tis_two {T : Nat → Int32} {n s : Nat} {t : Tok} (hf : tkf n t) (hw : tkw T t) (hs : s < 27) (h : ¬ tis T t (txt (1 + s)) = 0) : tis T t (txt 51) = 0 := by
  obtain ⟨e1, e2⟩ := tis_sg hf hw hs h
  unfold tis
  have e3 : ¬ t.1 = 2 := fun e => e1 (by rw [e]; decide)
  rw [if_neg e3, if_neg e1, e2]
  exact if_neg (mod_ns s hs)
theorem rp_disj_mark {T : Nat → Int32} {n f d dep q s : Nat} {t0 : Tok} {F0 : Nat → Prop} {H0 : mu_H} {res : Nat ⊕ (Tre × Tok)} (hP : ∀ g, g ≤ f → pct T n g 3 494 11) (hz : mu_z H0 + pot n t0 + 40 ≤ 1000000) (h2 : 200 < mu_z H0) {g j A a c : Nat} {F : Nat → Prop} {H : mu_H} {t : Tok} {qs : List Nat} {cs : List Tre} (hg : g + 1 ≤ f) (hs : pst T n t dep F H) (hu : nu H0 H F f q a c s 66 0 qs cs) (hp : pfr A F0 F H0 H) (hA0 : A + 23 * qs.length + pot n t ≤ pot n t0 + c + 11) (hl1 : 0 < qs.length) (hj : j < 79) (ht : t.1 ≠ 0 ∧ t.1 ≠ 1) (hpx : pbi (px T n g 3 dep [] (adv T n t)) (fun c t1 => px T n g 22 dep (cs ++ [tmk j 0 [] [c]]) t1) = some res) (hk : ∀ A F H t a c qs cs, pst T n t dep F H → nu H0 H F f q a c s 66 0 qs cs → pfr A F0 F H0 H → A + 23 * qs.length + pot n t ≤ pot n t0 + c + 11 → (0 < qs.length ∧ (qs.length = 1 → ¬ one T t [20, 40] = 0)) → px T n g 22 dep cs t = some res → mu_W (mu_D (d + 6 * (150 - dep) + 11)) mu_m493 (40, [(2, .inr (.inr (some q))), (0, .inr (.inr (some 169)))], [], H) (fun r => (∃ H1, r = (.inr 0, H1) ∧ ∃ e, res = .inl e ∧ pbd T n e (pot n t0 + 30) H0 H1) ∨ ∃ v H1, r = (.inl v, H1) ∧ ∃ c t1 q F1, v = some (.inr (.inr (some q))) ∧ res = .inr (c, t1) ∧ pst T n t1 dep F1 H1 ∧ nd H1 F1 (f + 1) q c ∧ pot n t1 + 12 ≤ pot n t0 ∧ pfr (pot n t0 - pot n t1 - 12) F0 F1 H0 H1)) : mu_W (mu_D (d + 6 * (150 - dep) + 11)) mu_m493 (78, [(2, .inr (.inr (some q))), (0, .inr (.inr (some 169)))], [.inr (.inr (some (1000000 + j))), .inr (.inr (some (mu_z H))), .inr (.inr (some (mu_z H)))], mu_nw H 18 0 8) (fun r => (∃ H1, r = (.inr 0, H1) ∧ ∃ e, res = .inl e ∧ pbd T n e (pot n t0 + 30) H0 H1) ∨ ∃ v H1, r = (.inl v, H1) ∧ ∃ c t1 q F1, v = some (.inr (.inr (some q))) ∧ res = .inr (c, t1) ∧ pst T n t1 dep F1 H1 ∧ nd H1 F1 (f + 1) q c ∧ pot n t1 + 12 ≤ pot n t0 ∧ pfr (pot n t0 - pot n t1 - 12) F0 F1 H0 H1) := by
  obtain ⟨res1, hr1⟩ := pbi_some hpx
  have hst := pot_step (T := T) hs.tkf.2.2 ht
  have hcap := hu.cap
  have hA := hp.z
  have hgz : 200 < mu_z H := by omega
  refine mw_cV (fun _ => rfl) ⟨rfl, Nat.lt_succ_self _⟩ (nd_newL (j := j) (H0 := H) (f := g) hs (by omega) (Nat.le_refl _) hj) (fun H1 hq1 => ?_)
  show mu_W _ mu_m493 (81, [(2, .inr (.inr (some q))), (0, .inr (.inr (some 169)))], [.inr (.inr (some (mu_z H)))], H1) _
  obtain ⟨hm1, s1, k1⟩ := hq1
  have r1 : pfr (0 + 2) F F H H1 := pfr.rf.kp k1 (fun p z => z) (by omega) (by omega)
  have hz1 := r1.z
  refine mw_go mu_g493 (k := 2) (f1 := (83, [(3, .inr (.inr (some (mu_z H)))), (2, .inr (.inr (some q))), (0, .inr (.inr (some 169)))], [.inr (.inr (some 169))], H1)) (C := []) rfl trivial ?_
  refine mw_cV (fun _ => rfl) (show mu_is H1 (some 169) 1 from s1.is) (rp_advance s1 ht (by omega)) (fun H2 hq2 => ?_)
  show mu_W _ mu_m493 (86, [(3, .inr (.inr (some (mu_z H)))), (2, .inr (.inr (some q))), (0, .inr (.inr (some 169)))], [], H2) _
  obtain ⟨F2, s2, f2⟩ := hq2
  have hm2 := hm1.keep s1 hgz f2
  have r2 := r1.tr f2
  have hz2 := r2.z
  refine mw_go mu_g493 (k := 3) (f1 := (89, [(3, .inr (.inr (some (mu_z H)))), (2, .inr (.inr (some q))), (0, .inr (.inr (some 169)))], [.inr (.inr (some 169)), .inr (.inr (some (mu_z H))), .inr (.inr (some q))], H2)) (C := []) rfl trivial ?_
  refine mw_cX (as := []) (o := some 169) (S1 := [.inr (.inr (some (mu_z H))), .inr (.inr (some q))]) rfl rfl rfl rfl (Nat.le_of_ble_eq_true rfl) (by decide) s2.is rfl (hP g (by omega) d dep _ F2 H2 res1 s2 (by omega) hr1) (fun H3 e => ?_) (fun v H3 e => ?_)
  · obtain ⟨e', e1, e2⟩ := e
    rw [show px T n g 3 dep [] (adv T n t) = some res1 from hr1, e1] at hpx
    exact Or.inl ⟨H3, rfl, e', pbi_inl hpx, ((hp.tr r2).bd e2).wk (by omega)⟩
  obtain ⟨c1, t1, q1, F3, rfl, e1, s3, n3, w3, f3⟩ := e
  rw [show px T n g 3 dep [] (adv T n t) = some res1 from hr1, e1] at hpx
  have hpx : px T n g 22 dep (cs ++ [tmk j 0 [] [c1]]) t1 = some res := hpx
  have hm3 := hm2.keep s2 hgz f3
  have r3 := r2.tr f3
  have hz3 := r3.z
  show mu_W _ mu_m493 (92, [(3, .inr (.inr (some (mu_z H)))), (2, .inr (.inr (some q))), (0, .inr (.inr (some 169)))], [.inr (.inr (some q1)), .inr (.inr (some (mu_z H))), .inr (.inr (some q))], H3) _
  refine mw_cA (fun _ => rfl) (show mu_is H3 (some (mu_z H)) 18 from hm3.is) (nd_addU hm3 s3 hgz n3 (by omega) (by omega)) (fun r H4 hq4 => ?_)
  obtain ⟨rfl, a4, c4, hm4, s4, hc4, k4⟩ := hq4
  have hcap4 : 1 ≤ c4 ∧ 2 ≤ c4 ∧ c4 ≤ 2 * 1 + 2 ∧ _ := hm4.cap
  have r4 := r3.kp k4 (fun p z => z) (by omega) (by omega)
  obtain ⟨F4, s5, n5, r5⟩ := hm4.done s4 hgz r4
  have hz5 := r5.z
  have hu5 := hu.keep hs h2 r5
  show mu_W _ mu_m493 (95, [(3, .inr (.inr (some (mu_z H)))), (2, .inr (.inr (some q))), (0, .inr (.inr (some 169)))], [.inr (.inr (some (mu_z H))), .inr (.inr (some q))], H4) _
  refine mw_cA (fun _ => rfl) (show mu_is H4 (some q) 18 from hu5.is) (nd_addU hu5 s5 h2 (n5.le (by omega)) (by omega) (by omega)) (fun r H6 hq6 => ?_)
  obtain ⟨rfl, a6, c6, hu6, s6, hc6, k6⟩ := hq6
  show mu_W _ mu_m493 (98, [(3, .inr (.inr (some (mu_z H)))), (2, .inr (.inr (some q))), (0, .inr (.inr (some 169)))], [.inr (.inr (some q))], H6) _
  refine mw_go mu_g493 (k := 2) (f1 := (40, [(3, .inr (.inr (some (mu_z H)))), (2, .inr (.inr (some q))), (0, .inr (.inr (some 169)))], [], H6)) (C := []) rfl trivial ?_
  have hcap6 := hu6.cap
  rw [List.length_append] at hcap6
  have hcap6 : qs.length + 1 ≤ c6 ∧ 2 ≤ c6 ∧ c6 ≤ 2 * (qs.length + 1) + 2 ∧ _ := hcap6
  refine mw_sub (L' := [(2, .inr (.inr (some q))), (0, .inr (.inr (some 169)))]) (by simp) ?_
  refine hk _ F4 H6 t1 a6 c6 (qs ++ [mu_z H]) (cs ++ [tmk j 0 [] [c1]]) s6 hu6 ((hp.tr r5).kp k6 (fun p z => z) (by omega) (by omega)) ?_ (by rw [List.length_append]; exact ⟨Nat.succ_pos _, fun e => by have e : qs.length + 1 = 1 := e; omega⟩) hpx
  rw [List.length_append]
  show _ + 23 * (qs.length + 1) + pot n t1 ≤ pot n t0 + c6 + 11
  omega
theorem rp_disj_loop {T : Nat → Int32} {n f d dep q s : Nat} {t0 : Tok} {F0 : Nat → Prop} {H0 : mu_H} {res : Nat ⊕ (Tre × Tok)} (hP : ∀ g, g ≤ f → pct T n g 3 494 11) (hz : mu_z H0 + pot n t0 + 40 ≤ 1000000) (h2 : 200 < mu_z H0) : ∀ g, g ≤ f → ∀ A F H t a c qs cs, pst T n t dep F H → nu H0 H F f q a c s 66 0 qs cs → pfr A F0 F H0 H → A + 23 * qs.length + pot n t ≤ pot n t0 + c + 11 → (0 < qs.length ∧ (qs.length = 1 → ¬ one T t [20, 40] = 0)) → px T n g 22 dep cs t = some res → mu_W (mu_D (d + 6 * (150 - dep) + 11)) mu_m493 (40, [(2, .inr (.inr (some q))), (0, .inr (.inr (some 169)))], [], H) (fun r => (∃ H1, r = (.inr 0, H1) ∧ ∃ e, res = .inl e ∧ pbd T n e (pot n t0 + 30) H0 H1) ∨ ∃ v H1, r = (.inl v, H1) ∧ ∃ c t1 q F1, v = some (.inr (.inr (some q))) ∧ res = .inr (c, t1) ∧ pst T n t1 dep F1 H1 ∧ nd H1 F1 (f + 1) q c ∧ pot n t1 + 12 ≤ pot n t0 ∧ pfr (pot n t0 - pot n t1 - 12) F0 F1 H0 H1)
  | 0, _, _, _, _, _, _, _, _, _, _, _, _, _, _, hpx => by cases hpx
  | g + 1, hg, A, F, H, t, a, c, qs, cs, hs, hu, hp, hA0, hl, hpx => by
    have hpx : pxBl T n (px T n g) [20, 40] 3 22 dep cs t = some res := hpx
    unfold pxBl at hpx
    have hcap := hu.cap
    have hA := hp.z
    have kn : kep (fun _ => False) (0 + 1) (0 + 8) H (mu_nw H 18 0 8) := kep.rf.nw (by omega)
    have sn : pst T n t dep F (mu_nw H 18 0 8) := hs.kp kn (fun _ z => z.elim)
    refine mw_go mu_g493 (k := 2) (f1 := (43, [(2, .inr (.inr (some q))), (0, .inr (.inr (some 169)))], [.inr (.inr (some 1000020)), .inr (.inr (some 169))], H)) (C := []) rfl trivial ?_
    refine mw_cIe (fun _ => rfl) (show mu_is H (some 169) 1 from hs.is) (rp_isL (j := 20) hs (by decide)) ?_
    refine mw_if (P := (tis T t (txt 20)) = 0) (a := 49) (b := 58) (fun _ => rfl) trivial (fun e0 => ?_) (fun e0 => ?_)
    · -- 49
      refine mw_go mu_g493 (k := 2) (f1 := (52, [(2, .inr (.inr (some q))), (0, .inr (.inr (some 169)))], [.inr (.inr (some 1000040)), .inr (.inr (some 169))], H)) (C := []) rfl trivial ?_
      refine mw_cIe (fun _ => rfl) (show mu_is H (some 169) 1 from hs.is) (rp_isL (j := 40) hs (by decide)) ?_
      refine mw_if (P := (tis T t (txt 40)) = 0) (a := 102) (b := 58) (fun _ => rfl) trivial (fun e1 => ?_) (fun e1 => ?_)
      · -- 102
        have ho : one T t [20, 40] = 0 := by
          show (if tis T t (txt 20) = 0 then if tis T t (txt 40) = 0 then 0 else 40 else 20) = 0
          rw [if_pos e0, if_pos e1]
        have hpx := pok_eq (ite_ye hpx ho)
        have hl2 : qs.length ≠ 1 := fun e => hl.2 e ho
        have hl1 := hl.1
        obtain ⟨F1, d1, d2, d3⟩ := hu.done hs h2 hp
        refine mw_go mu_g493 (k := 1) (f1 := (103, [(2, .inr (.inr (some q))), (0, .inr (.inr (some 169)))], [.inr (.inr (some q))], H)) (C := []) rfl trivial ?_
        exact mw_of (fun _ => mu_ret rfl trivial (Or.inr ⟨_, _, rfl, _, _, q, F1, rfl, hpx, d1, d2, by omega, d3.wk (by omega)⟩))
      · -- 58
        have ho : one T t [20, 40] = 40 := by
          show (if tis T t (txt 20) = 0 then if tis T t (txt 40) = 0 then 0 else 40 else 20) = 40
          rw [if_pos e0, if_neg e1]
        have hne : ¬ one T t [20, 40] = 0 := by rw [ho]; decide
        have hpx := ite_no hpx hne
        rw [ho] at hpx
        refine mw_newo rfl (by decide) (by omega) ?_
        show mu_W _ mu_m493 (61, [(2, .inr (.inr (some q))), (0, .inr (.inr (some 169)))], [.inr (.inr (some (mu_z H)))], (mu_nw H 18 0 8)) _
        refine mw_go mu_g493 (k := 3) (f1 := (65, [(2, .inr (.inr (some q))), (0, .inr (.inr (some 169)))], [.inr (.inr (some 1000020)), .inr (.inr (some 169)), .inr (.inr (some (mu_z H))), .inr (.inr (some (mu_z H)))], (mu_nw H 18 0 8))) (C := []) rfl trivial ?_
        refine mw_cIe (fun _ => rfl) (show mu_is (mu_nw H 18 0 8) (some 169) 1 from sn.is) (rp_isL (j := 20) sn (by decide)) ?_
        refine mw_if (P := (tis T t (txt 20)) = 0) (a := 76) (b := 71) (fun _ => rfl) trivial (fun h9 => ?_) (fun h9 => absurd e0 h9)
        refine mw_go mu_g493 (k := 1) (f1 := (78, [(2, .inr (.inr (some q))), (0, .inr (.inr (some 169)))], [.inr (.inr (some 1000040)), .inr (.inr (some (mu_z H))), .inr (.inr (some (mu_z H)))], (mu_nw H 18 0 8))) (C := []) rfl trivial ?_
        refine mw_sub (L' := [(2, .inr (.inr (some q))), (0, .inr (.inr (some 169)))]) (by simp) ?_
        exact rp_disj_mark (j := 40) hP hz h2 (by omega) hs hu hp hA0 hl.1 (by decide) (one_ne hne) hpx (fun A F H t a c qs cs => rp_disj_loop hP hz h2 g (by omega) A F H t a c qs cs)
    · -- 58
      have ho : one T t [20, 40] = 20 := by
        show (if tis T t (txt 20) = 0 then if tis T t (txt 40) = 0 then 0 else 40 else 20) = 20
        rw [if_neg e0]
      have hne : ¬ one T t [20, 40] = 0 := by rw [ho]; decide
      have hpx := ite_no hpx hne
      rw [ho] at hpx
      refine mw_newo rfl (by decide) (by omega) ?_
      show mu_W _ mu_m493 (61, [(2, .inr (.inr (some q))), (0, .inr (.inr (some 169)))], [.inr (.inr (some (mu_z H)))], (mu_nw H 18 0 8)) _
      refine mw_go mu_g493 (k := 3) (f1 := (65, [(2, .inr (.inr (some q))), (0, .inr (.inr (some 169)))], [.inr (.inr (some 1000020)), .inr (.inr (some 169)), .inr (.inr (some (mu_z H))), .inr (.inr (some (mu_z H)))], (mu_nw H 18 0 8))) (C := []) rfl trivial ?_
      refine mw_cIe (fun _ => rfl) (show mu_is (mu_nw H 18 0 8) (some 169) 1 from sn.is) (rp_isL (j := 20) sn (by decide)) ?_
      refine mw_if (P := (tis T t (txt 20)) = 0) (a := 76) (b := 71) (fun _ => rfl) trivial (fun h9 => absurd h9 e0) (fun h9 => ?_)
      refine mw_go mu_g493 (k := 2) (f1 := (78, [(2, .inr (.inr (some q))), (0, .inr (.inr (some 169)))], [.inr (.inr (some 1000020)), .inr (.inr (some (mu_z H))), .inr (.inr (some (mu_z H)))], (mu_nw H 18 0 8))) (C := []) rfl trivial ?_
      refine mw_sub (L' := [(2, .inr (.inr (some q))), (0, .inr (.inr (some 169)))]) (by simp) ?_
      exact rp_disj_mark (j := 20) hP hz h2 (by omega) hs hu hp hA0 hl.1 (by decide) (one_ne hne) hpx (fun A F H t a c qs cs => rp_disj_loop hP hz h2 g (by omega) A F H t a c qs cs)
theorem rp_disj {T : Nat → Int32} {n f : Nat} (hP : ∀ g, g ≤ f → pct T n g 3 494 11) : pct T n (f + 1) 2 493 12 := by
  intro d dep t F H res hs hz hpx
  have hpx : pxB T (px T n f) [20, 40] 3 22 dep t = some res := hpx
  unfold pxB at hpx
  have g200 := hs.1.1
  refine mu_meth (M := mu_m493) rfl rfl ?_
  refine mw_ht (mu_fn_of (show [0].Nodup by decide)) ?_
  obtain ⟨res1, hr1⟩ := pbi_some hpx
  refine mw_go mu_g493 (k := 1) (f1 := (1, [(0, .inr (.inr (some 169)))], [.inr (.inr (some 169))], H)) (C := []) rfl trivial ?_
  refine mw_cX (as := []) (o := some 169) (S1 := []) rfl rfl rfl rfl (by decide) (by decide) hs.is rfl (hP f (Nat.le_refl _) d dep _ F H res1 hs hz hr1) (fun H2 e => ?_) (fun v H2 e => ?_)
  · obtain ⟨e', e1, e2⟩ := e
    rw [hr1, e1] at hpx
    exact Or.inl ⟨H2, rfl, e', pbi_inl hpx, e2⟩
  obtain ⟨c1, t1, q1, F2, rfl, e1, s2, n2, w2, f2⟩ := e
  rw [hr1, e1] at hpx
  have hpx : (if one T t1 [20, 40] = 0 then pok c1 t1 else px T n f 22 dep [c1] t1) = some res := hpx
  have hA2 := f2.z
  show mu_W _ mu_m493 (4, [(0, .inr (.inr (some 169)))], [.inr (.inr (some q1))], H2) _
  refine mw_go mu_g493 (k := 3) (f1 := (8, [(1, .inr (.inr (some q1))), (0, .inr (.inr (some 169)))], [.inr (.inr (some 1000020)), .inr (.inr (some 169))], H2)) (C := []) rfl trivial ?_
  refine mw_cIe (fun _ => rfl) (show mu_is H2 (some 169) 1 from s2.is) (rp_isL (j := 20) s2 (by decide)) ?_
  refine mw_if (P := (tis T t1 (txt 20)) = 0) (a := 14) (b := 25) (fun _ => rfl) trivial (fun e0 => ?_) (fun e0 => ?_)
  · -- 14
    refine mw_go mu_g493 (k := 2) (f1 := (17, [(1, .inr (.inr (some q1))), (0, .inr (.inr (some 169)))], [.inr (.inr (some 1000040)), .inr (.inr (some 169))], H2)) (C := []) rfl trivial ?_
    refine mw_cIe (fun _ => rfl) (show mu_is H2 (some 169) 1 from s2.is) (rp_isL (j := 40) s2 (by decide)) ?_
    refine mw_if (P := (tis T t1 (txt 40)) = 0) (a := 23) (b := 25) (fun _ => rfl) trivial (fun e1 => ?_) (fun e1 => ?_)
    · -- 23
      have ho : one T t1 [20, 40] = 0 := by
        show (if tis T t1 (txt 20) = 0 then if tis T t1 (txt 40) = 0 then 0 else 40 else 20) = 0
        rw [if_pos e0, if_pos e1]
      have hpx := pok_eq (ite_ye hpx ho)
      refine mw_go mu_g493 (k := 1) (f1 := (24, [(1, .inr (.inr (some q1))), (0, .inr (.inr (some 169)))], [.inr (.inr (some q1))], H2)) (C := []) rfl trivial ?_
      exact mw_of (fun _ => mu_ret rfl trivial (Or.inr ⟨_, _, rfl, _, _, q1, F2, rfl, hpx, s2, n2.up, w2, f2⟩))
    · -- 25
      have hne : ¬ one T t1 [20, 40] = 0 := by
        show ¬ (if tis T t1 (txt 20) = 0 then if tis T t1 (txt 40) = 0 then 0 else 40 else 20) = 0
        rw [if_pos e0, if_neg e1]
        decide
      have hpx := ite_no hpx hne
      refine mw_newo rfl (by decide) (by omega) ?_
      show mu_W _ mu_m493 (28, [(1, .inr (.inr (some q1))), (0, .inr (.inr (some 169)))], [.inr (.inr (some (mu_z H2)))], (mu_nw H2 18 0 8)) _
      refine mw_go mu_g493 (k := 2) (f1 := (32, [(1, .inr (.inr (some q1))), (0, .inr (.inr (some 169)))], [.inr (.inr (some 1000066)), .inr (.inr (some (mu_z H2))), .inr (.inr (some (mu_z H2)))], (mu_nw H2 18 0 8))) (C := []) rfl trivial ?_
      refine mw_cV (fun _ => rfl) ⟨rfl, Nat.lt_succ_self _⟩ (nd_newL (j := 66) (H0 := H) (f := f) s2 (by omega) (by omega) (by decide)) (fun H3 hq3 => ?_)
      show mu_W _ mu_m493 (35, [(1, .inr (.inr (some q1))), (0, .inr (.inr (some 169)))], [.inr (.inr (some (mu_z H2)))], H3) _
      obtain ⟨hu3, s3, k3⟩ := hq3
      have n3 : nd H3 F2 f q1 c1 := n2.kp k3 (fun p z => ⟨fun y => by have := (s2.fz p y).2.1.1; omega, z.2⟩)
      have hA3 := k3.2.2.1.1
      refine mw_go mu_g493 (k := 1) (f1 := (36, [(1, .inr (.inr (some q1))), (0, .inr (.inr (some 169)))], [.inr (.inr (some q1)), .inr (.inr (some (mu_z H2)))], H3)) (C := []) rfl trivial ?_
      refine mw_cA (fun _ => rfl) (show mu_is H3 (some (mu_z H2)) 18 from hu3.is) (nd_addU hu3 s3 g200 n3 (by omega) (by omega)) (fun r H4 hq4 => ?_)
      obtain ⟨rfl, a4, c4, hu4, s4, hc4, k4⟩ := hq4
      show mu_W _ mu_m493 (39, [(1, .inr (.inr (some q1))), (0, .inr (.inr (some 169)))], [.inr (.inr (some (mu_z H2)))], H4) _
      refine mw_go mu_g493 (k := 1) (f1 := (40, [(2, .inr (.inr (some (mu_z H2)))), (1, .inr (.inr (some q1))), (0, .inr (.inr (some 169)))], [], H4)) (C := []) rfl trivial ?_
      have hcap : 1 ≤ c4 ∧ 2 ≤ c4 ∧ c4 ≤ 2 * 1 + 2 ∧ _ := hu4.cap
      refine mw_sub (L' := [(2, .inr (.inr (some (mu_z H2)))), (0, .inr (.inr (some 169)))]) (by simp) ?_
      refine rp_disj_loop hP hz g200 f (Nat.le_refl _) ((pot n t - pot n t1 - 12) + 2 + (c4 - 2)) F2 H4 t1 a4 c4 [q1] [c1] s4 hu4 ((f2.kp k3 (fun p z => ⟨by omega, z.2⟩) (by omega) (by omega)).kp k4 (fun p z => z) (by omega) (by omega)) ?_ ⟨Nat.succ_pos _, fun _ => hne⟩ hpx
      show _ + 23 * 1 + pot n t1 ≤ pot n t + c4 + 11
      omega
  · -- 25
    have hne : ¬ one T t1 [20, 40] = 0 := by
      show ¬ (if tis T t1 (txt 20) = 0 then if tis T t1 (txt 40) = 0 then 0 else 40 else 20) = 0
      rw [if_neg e0]
      decide
    have hpx := ite_no hpx hne
    refine mw_newo rfl (by decide) (by omega) ?_
    show mu_W _ mu_m493 (28, [(1, .inr (.inr (some q1))), (0, .inr (.inr (some 169)))], [.inr (.inr (some (mu_z H2)))], (mu_nw H2 18 0 8)) _
    refine mw_go mu_g493 (k := 2) (f1 := (32, [(1, .inr (.inr (some q1))), (0, .inr (.inr (some 169)))], [.inr (.inr (some 1000066)), .inr (.inr (some (mu_z H2))), .inr (.inr (some (mu_z H2)))], (mu_nw H2 18 0 8))) (C := []) rfl trivial ?_
    refine mw_cV (fun _ => rfl) ⟨rfl, Nat.lt_succ_self _⟩ (nd_newL (j := 66) (H0 := H) (f := f) s2 (by omega) (by omega) (by decide)) (fun H3 hq3 => ?_)
    show mu_W _ mu_m493 (35, [(1, .inr (.inr (some q1))), (0, .inr (.inr (some 169)))], [.inr (.inr (some (mu_z H2)))], H3) _
    obtain ⟨hu3, s3, k3⟩ := hq3
    have n3 : nd H3 F2 f q1 c1 := n2.kp k3 (fun p z => ⟨fun y => by have := (s2.fz p y).2.1.1; omega, z.2⟩)
    have hA3 := k3.2.2.1.1
    refine mw_go mu_g493 (k := 1) (f1 := (36, [(1, .inr (.inr (some q1))), (0, .inr (.inr (some 169)))], [.inr (.inr (some q1)), .inr (.inr (some (mu_z H2)))], H3)) (C := []) rfl trivial ?_
    refine mw_cA (fun _ => rfl) (show mu_is H3 (some (mu_z H2)) 18 from hu3.is) (nd_addU hu3 s3 g200 n3 (by omega) (by omega)) (fun r H4 hq4 => ?_)
    obtain ⟨rfl, a4, c4, hu4, s4, hc4, k4⟩ := hq4
    show mu_W _ mu_m493 (39, [(1, .inr (.inr (some q1))), (0, .inr (.inr (some 169)))], [.inr (.inr (some (mu_z H2)))], H4) _
    refine mw_go mu_g493 (k := 1) (f1 := (40, [(2, .inr (.inr (some (mu_z H2)))), (1, .inr (.inr (some q1))), (0, .inr (.inr (some 169)))], [], H4)) (C := []) rfl trivial ?_
    have hcap : 1 ≤ c4 ∧ 2 ≤ c4 ∧ c4 ≤ 2 * 1 + 2 ∧ _ := hu4.cap
    refine mw_sub (L' := [(2, .inr (.inr (some (mu_z H2)))), (0, .inr (.inr (some 169)))]) (by simp) ?_
    refine rp_disj_loop hP hz g200 f (Nat.le_refl _) ((pot n t - pot n t1 - 12) + 2 + (c4 - 2)) F2 H4 t1 a4 c4 [q1] [c1] s4 hu4 ((f2.kp k3 (fun p z => ⟨by omega, z.2⟩) (by omega) (by omega)).kp k4 (fun p z => z) (by omega) (by omega)) ?_ ⟨Nat.succ_pos _, fun _ => hne⟩ hpx
    show _ + 23 * 1 + pot n t1 ≤ pot n t + c4 + 11
    omega
theorem rp_sum_mark {T : Nat → Int32} {n f d dep q s : Nat} {t0 : Tok} {F0 : Nat → Prop} {H0 : mu_H} {res : Nat ⊕ (Tre × Tok)} (hP : ∀ g, g ≤ f → pct T n g 7 499 13) (hz : mu_z H0 + pot n t0 + 40 ≤ 1000000) (h2 : 200 < mu_z H0) {g j A a c : Nat} {F : Nat → Prop} {H : mu_H} {t : Tok} {qs : List Nat} {cs : List Tre} (hg : g + 1 ≤ f) (hs : pst T n t dep F H) (hu : nu H0 H F f q a c s 66 0 qs cs) (hp : pfr A F0 F H0 H) (hA0 : A + 23 * qs.length + pot n t ≤ pot n t0 + c + 11) (hl1 : 0 < qs.length) (hj : j < 79) (ht : t.1 ≠ 0 ∧ t.1 ≠ 1) (hpx : pbi (px T n g 7 dep [] (adv T n t)) (fun c t1 => px T n g 26 dep (cs ++ [tmk j 0 [] [c]]) t1) = some res) (hk : ∀ A F H t a c qs cs, pst T n t dep F H → nu H0 H F f q a c s 66 0 qs cs → pfr A F0 F H0 H → A + 23 * qs.length + pot n t ≤ pot n t0 + c + 11 → (0 < qs.length ∧ (qs.length = 1 → ¬ one T t [24, 25] = 0)) → px T n g 26 dep cs t = some res → mu_W (mu_D (d + 6 * (150 - dep) + 13)) mu_m498 (40, [(2, .inr (.inr (some q))), (0, .inr (.inr (some 169)))], [], H) (fun r => (∃ H1, r = (.inr 0, H1) ∧ ∃ e, res = .inl e ∧ pbd T n e (pot n t0 + 30) H0 H1) ∨ ∃ v H1, r = (.inl v, H1) ∧ ∃ c t1 q F1, v = some (.inr (.inr (some q))) ∧ res = .inr (c, t1) ∧ pst T n t1 dep F1 H1 ∧ nd H1 F1 (f + 1) q c ∧ pot n t1 + 12 ≤ pot n t0 ∧ pfr (pot n t0 - pot n t1 - 12) F0 F1 H0 H1)) : mu_W (mu_D (d + 6 * (150 - dep) + 13)) mu_m498 (74, [(2, .inr (.inr (some q))), (0, .inr (.inr (some 169)))], [.inr (.inr (some (1000000 + j))), .inr (.inr (some (mu_z H))), .inr (.inr (some (mu_z H)))], mu_nw H 18 0 8) (fun r => (∃ H1, r = (.inr 0, H1) ∧ ∃ e, res = .inl e ∧ pbd T n e (pot n t0 + 30) H0 H1) ∨ ∃ v H1, r = (.inl v, H1) ∧ ∃ c t1 q F1, v = some (.inr (.inr (some q))) ∧ res = .inr (c, t1) ∧ pst T n t1 dep F1 H1 ∧ nd H1 F1 (f + 1) q c ∧ pot n t1 + 12 ≤ pot n t0 ∧ pfr (pot n t0 - pot n t1 - 12) F0 F1 H0 H1) := by
  obtain ⟨res1, hr1⟩ := pbi_some hpx
  have hst := pot_step (T := T) hs.tkf.2.2 ht
  have hcap := hu.cap
  have hA := hp.z
  have hgz : 200 < mu_z H := by omega
  refine mw_cV (fun _ => rfl) ⟨rfl, Nat.lt_succ_self _⟩ (nd_newL (j := j) (H0 := H) (f := g) hs (by omega) (Nat.le_refl _) hj) (fun H1 hq1 => ?_)
  show mu_W _ mu_m498 (77, [(2, .inr (.inr (some q))), (0, .inr (.inr (some 169)))], [.inr (.inr (some (mu_z H)))], H1) _
  obtain ⟨hm1, s1, k1⟩ := hq1
  have r1 : pfr (0 + 2) F F H H1 := pfr.rf.kp k1 (fun p z => z) (by omega) (by omega)
  have hz1 := r1.z
  refine mw_go mu_g498 (k := 2) (f1 := (79, [(3, .inr (.inr (some (mu_z H)))), (2, .inr (.inr (some q))), (0, .inr (.inr (some 169)))], [.inr (.inr (some 169))], H1)) (C := []) rfl trivial ?_
  refine mw_cV (fun _ => rfl) (show mu_is H1 (some 169) 1 from s1.is) (rp_advance s1 ht (by omega)) (fun H2 hq2 => ?_)
  show mu_W _ mu_m498 (82, [(3, .inr (.inr (some (mu_z H)))), (2, .inr (.inr (some q))), (0, .inr (.inr (some 169)))], [], H2) _
  obtain ⟨F2, s2, f2⟩ := hq2
  have hm2 := hm1.keep s1 hgz f2
  have r2 := r1.tr f2
  have hz2 := r2.z
  refine mw_go mu_g498 (k := 3) (f1 := (85, [(3, .inr (.inr (some (mu_z H)))), (2, .inr (.inr (some q))), (0, .inr (.inr (some 169)))], [.inr (.inr (some 169)), .inr (.inr (some (mu_z H))), .inr (.inr (some q))], H2)) (C := []) rfl trivial ?_
  refine mw_cX (as := []) (o := some 169) (S1 := [.inr (.inr (some (mu_z H))), .inr (.inr (some q))]) rfl rfl rfl rfl (Nat.le_of_ble_eq_true rfl) (by decide) s2.is rfl (hP g (by omega) d dep _ F2 H2 res1 s2 (by omega) hr1) (fun H3 e => ?_) (fun v H3 e => ?_)
  · obtain ⟨e', e1, e2⟩ := e
    rw [show px T n g 7 dep [] (adv T n t) = some res1 from hr1, e1] at hpx
    exact Or.inl ⟨H3, rfl, e', pbi_inl hpx, ((hp.tr r2).bd e2).wk (by omega)⟩
  obtain ⟨c1, t1, q1, F3, rfl, e1, s3, n3, w3, f3⟩ := e
  rw [show px T n g 7 dep [] (adv T n t) = some res1 from hr1, e1] at hpx
  have hpx : px T n g 26 dep (cs ++ [tmk j 0 [] [c1]]) t1 = some res := hpx
  have hm3 := hm2.keep s2 hgz f3
  have r3 := r2.tr f3
  have hz3 := r3.z
  show mu_W _ mu_m498 (88, [(3, .inr (.inr (some (mu_z H)))), (2, .inr (.inr (some q))), (0, .inr (.inr (some 169)))], [.inr (.inr (some q1)), .inr (.inr (some (mu_z H))), .inr (.inr (some q))], H3) _
  refine mw_cA (fun _ => rfl) (show mu_is H3 (some (mu_z H)) 18 from hm3.is) (nd_addU hm3 s3 hgz n3 (by omega) (by omega)) (fun r H4 hq4 => ?_)
  obtain ⟨rfl, a4, c4, hm4, s4, hc4, k4⟩ := hq4
  have hcap4 : 1 ≤ c4 ∧ 2 ≤ c4 ∧ c4 ≤ 2 * 1 + 2 ∧ _ := hm4.cap
  have r4 := r3.kp k4 (fun p z => z) (by omega) (by omega)
  obtain ⟨F4, s5, n5, r5⟩ := hm4.done s4 hgz r4
  have hz5 := r5.z
  have hu5 := hu.keep hs h2 r5
  show mu_W _ mu_m498 (91, [(3, .inr (.inr (some (mu_z H)))), (2, .inr (.inr (some q))), (0, .inr (.inr (some 169)))], [.inr (.inr (some (mu_z H))), .inr (.inr (some q))], H4) _
  refine mw_cA (fun _ => rfl) (show mu_is H4 (some q) 18 from hu5.is) (nd_addU hu5 s5 h2 (n5.le (by omega)) (by omega) (by omega)) (fun r H6 hq6 => ?_)
  obtain ⟨rfl, a6, c6, hu6, s6, hc6, k6⟩ := hq6
  show mu_W _ mu_m498 (94, [(3, .inr (.inr (some (mu_z H)))), (2, .inr (.inr (some q))), (0, .inr (.inr (some 169)))], [.inr (.inr (some q))], H6) _
  refine mw_go mu_g498 (k := 2) (f1 := (40, [(3, .inr (.inr (some (mu_z H)))), (2, .inr (.inr (some q))), (0, .inr (.inr (some 169)))], [], H6)) (C := []) rfl trivial ?_
  have hcap6 := hu6.cap
  rw [List.length_append] at hcap6
  have hcap6 : qs.length + 1 ≤ c6 ∧ 2 ≤ c6 ∧ c6 ≤ 2 * (qs.length + 1) + 2 ∧ _ := hcap6
  refine mw_sub (L' := [(2, .inr (.inr (some q))), (0, .inr (.inr (some 169)))]) (by simp) ?_
  refine hk _ F4 H6 t1 a6 c6 (qs ++ [mu_z H]) (cs ++ [tmk j 0 [] [c1]]) s6 hu6 ((hp.tr r5).kp k6 (fun p z => z) (by omega) (by omega)) ?_ (by rw [List.length_append]; exact ⟨Nat.succ_pos _, fun e => by have e : qs.length + 1 = 1 := e; omega⟩) hpx
  rw [List.length_append]
  show _ + 23 * (qs.length + 1) + pot n t1 ≤ pot n t0 + c6 + 11
  omega
theorem rp_sum_loop {T : Nat → Int32} {n f d dep q s : Nat} {t0 : Tok} {F0 : Nat → Prop} {H0 : mu_H} {res : Nat ⊕ (Tre × Tok)} (hP : ∀ g, g ≤ f → pct T n g 7 499 13) (hz : mu_z H0 + pot n t0 + 40 ≤ 1000000) (h2 : 200 < mu_z H0) : ∀ g, g ≤ f → ∀ A F H t a c qs cs, pst T n t dep F H → nu H0 H F f q a c s 66 0 qs cs → pfr A F0 F H0 H → A + 23 * qs.length + pot n t ≤ pot n t0 + c + 11 → (0 < qs.length ∧ (qs.length = 1 → ¬ one T t [24, 25] = 0)) → px T n g 26 dep cs t = some res → mu_W (mu_D (d + 6 * (150 - dep) + 13)) mu_m498 (40, [(2, .inr (.inr (some q))), (0, .inr (.inr (some 169)))], [], H) (fun r => (∃ H1, r = (.inr 0, H1) ∧ ∃ e, res = .inl e ∧ pbd T n e (pot n t0 + 30) H0 H1) ∨ ∃ v H1, r = (.inl v, H1) ∧ ∃ c t1 q F1, v = some (.inr (.inr (some q))) ∧ res = .inr (c, t1) ∧ pst T n t1 dep F1 H1 ∧ nd H1 F1 (f + 1) q c ∧ pot n t1 + 12 ≤ pot n t0 ∧ pfr (pot n t0 - pot n t1 - 12) F0 F1 H0 H1)
  | 0, _, _, _, _, _, _, _, _, _, _, _, _, _, _, hpx => by cases hpx
  | g + 1, hg, A, F, H, t, a, c, qs, cs, hs, hu, hp, hA0, hl, hpx => by
    have hpx : pxBl T n (px T n g) [24, 25] 7 26 dep cs t = some res := hpx
    unfold pxBl at hpx
    have hcap := hu.cap
    have hA := hp.z
    have kn : kep (fun _ => False) (0 + 1) (0 + 8) H (mu_nw H 18 0 8) := kep.rf.nw (by omega)
    have sn : pst T n t dep F (mu_nw H 18 0 8) := hs.kp kn (fun _ z => z.elim)
    refine mw_go mu_g498 (k := 2) (f1 := (43, [(2, .inr (.inr (some q))), (0, .inr (.inr (some 169)))], [.inr (.inr (some 1000024)), .inr (.inr (some 169))], H)) (C := []) rfl trivial ?_
    refine mw_cIe (fun _ => rfl) (show mu_is H (some 169) 1 from hs.is) (rp_isL (j := 24) hs (by decide)) ?_
    refine mw_if (P := (tis T t (txt 24)) = 0) (a := 49) (b := 58) (fun _ => rfl) trivial (fun e0 => ?_) (fun e0 => ?_)
    · -- 49
      refine mw_go mu_g498 (k := 2) (f1 := (52, [(2, .inr (.inr (some q))), (0, .inr (.inr (some 169)))], [.inr (.inr (some 1000025)), .inr (.inr (some 169))], H)) (C := []) rfl trivial ?_
      refine mw_cIe (fun _ => rfl) (show mu_is H (some 169) 1 from hs.is) (rp_isL (j := 25) hs (by decide)) ?_
      refine mw_if (P := (tis T t (txt 25)) = 0) (a := 98) (b := 58) (fun _ => rfl) trivial (fun e1 => ?_) (fun e1 => ?_)
      · -- 98
        have ho : one T t [24, 25] = 0 := by
          show (if tis T t (txt 24) = 0 then if tis T t (txt 25) = 0 then 0 else 25 else 24) = 0
          rw [if_pos e0, if_pos e1]
        have hpx := pok_eq (ite_ye hpx ho)
        have hl2 : qs.length ≠ 1 := fun e => hl.2 e ho
        have hl1 := hl.1
        obtain ⟨F1, d1, d2, d3⟩ := hu.done hs h2 hp
        refine mw_go mu_g498 (k := 1) (f1 := (99, [(2, .inr (.inr (some q))), (0, .inr (.inr (some 169)))], [.inr (.inr (some q))], H)) (C := []) rfl trivial ?_
        exact mw_of (fun _ => mu_ret rfl trivial (Or.inr ⟨_, _, rfl, _, _, q, F1, rfl, hpx, d1, d2, by omega, d3.wk (by omega)⟩))
      · -- 58
        have ho : one T t [24, 25] = 25 := by
          show (if tis T t (txt 24) = 0 then if tis T t (txt 25) = 0 then 0 else 25 else 24) = 25
          rw [if_pos e0, if_neg e1]
        have hne : ¬ one T t [24, 25] = 0 := by rw [ho]; decide
        have hpx := ite_no hpx hne
        rw [ho] at hpx
        refine mw_newo rfl (by decide) (by omega) ?_
        show mu_W _ mu_m498 (61, [(2, .inr (.inr (some q))), (0, .inr (.inr (some 169)))], [.inr (.inr (some (mu_z H)))], (mu_nw H 18 0 8)) _
        obtain ⟨g1, g2, g3, g4, g5⟩ := sn.sgr (s := 24) (by decide) e1
        refine mw_go mu_g498 (k := 7) (f1 := (73, [(2, .inr (.inr (some q))), (0, .inr (.inr (some 169)))], [.inl ((mu_i (mu_nw H 18 0 8) 169 7) - (10 : Int32)), .inr (.inr (mu_r (mu_nw H 18 0 8) 169 4)), .inr (.inr (some (mu_z H))), .inr (.inr (some (mu_z H)))], (mu_nw H 18 0 8))) (C := [mu_is (mu_nw H 18 0 8) (some 169) 1, mu_is (mu_nw H 18 0 8) (some 169) 1]) rfl (show (mu_is (mu_nw H 18 0 8) (some 169) 1) ∧ (mu_is (mu_nw H 18 0 8) (some 169) 1) from ⟨sn.is, sn.is⟩) ?_
        refine mw_fr (f' := (73, [(2, .inr (.inr (some q))), (0, .inr (.inr (some 169)))], [.inl (nI 24), .inr (.inr (some 171)), .inr (.inr (some (mu_z H))), .inr (.inr (some (mu_z H)))], (mu_nw H 18 0 8))) (by first | (rw [sn.1.2.2.2.1.1, g1]; done) | (rw [sn.1.2.2.2.1.1, g1]; rfl)) ?_
        refine mw_go mu_g498 (k := 1) (f1 := (74, [(2, .inr (.inr (some q))), (0, .inr (.inr (some 169)))], [.inr (.inr (mu_r (mu_nw H 18 0 8) 171 (nI 24).toNatClampNeg)), .inr (.inr (some (mu_z H))), .inr (.inr (some (mu_z H)))], (mu_nw H 18 0 8))) (C := [mu_is (mu_nw H 18 0 8) (some 171) (mu_k (mu_nw H 18 0 8) 171), 103 ≤ mu_k (mu_nw H 18 0 8) 171 ∧ mu_k (mu_nw H 18 0 8) 171 ≤ 110 ∧ mu_k (mu_nw H 18 0 8) 171 ≠ 108, vp_in (nI 24) (mu_n (mu_nw H 18 0 8) 171)]) rfl (show (mu_is (mu_nw H 18 0 8) (some 171) (mu_k (mu_nw H 18 0 8) 171)) ∧ (103 ≤ mu_k (mu_nw H 18 0 8) 171 ∧ mu_k (mu_nw H 18 0 8) 171 ≤ 110 ∧ mu_k (mu_nw H 18 0 8) 171 ≠ 108) ∧ (vp_in (nI 24) (mu_n (mu_nw H 18 0 8) 171)) from ⟨g2, g3, g4⟩) ?_
        refine mw_fr (f' := (74, [(2, .inr (.inr (some q))), (0, .inr (.inr (some 169)))], [.inr (.inr (some (1000000 + (1 + 24)))), .inr (.inr (some (mu_z H))), .inr (.inr (some (mu_z H)))], (mu_nw H 18 0 8))) (by first | (rw [g5]; done) | (rw [g5]; rfl)) ?_
        refine mw_sub (L' := [(2, .inr (.inr (some q))), (0, .inr (.inr (some 169)))]) (by simp) ?_
        exact rp_sum_mark (j := 25) hP hz h2 (by omega) hs hu hp hA0 hl.1 (by decide) (one_ne hne) hpx (fun A F H t a c qs cs => rp_sum_loop hP hz h2 g (by omega) A F H t a c qs cs)
    · -- 58
      have ho : one T t [24, 25] = 24 := by
        show (if tis T t (txt 24) = 0 then if tis T t (txt 25) = 0 then 0 else 25 else 24) = 24
        rw [if_neg e0]
      have hne : ¬ one T t [24, 25] = 0 := by rw [ho]; decide
      have hpx := ite_no hpx hne
      rw [ho] at hpx
      refine mw_newo rfl (by decide) (by omega) ?_
      show mu_W _ mu_m498 (61, [(2, .inr (.inr (some q))), (0, .inr (.inr (some 169)))], [.inr (.inr (some (mu_z H)))], (mu_nw H 18 0 8)) _
      obtain ⟨g1, g2, g3, g4, g5⟩ := sn.sgr (s := 23) (by decide) e0
      refine mw_go mu_g498 (k := 7) (f1 := (73, [(2, .inr (.inr (some q))), (0, .inr (.inr (some 169)))], [.inl ((mu_i (mu_nw H 18 0 8) 169 7) - (10 : Int32)), .inr (.inr (mu_r (mu_nw H 18 0 8) 169 4)), .inr (.inr (some (mu_z H))), .inr (.inr (some (mu_z H)))], (mu_nw H 18 0 8))) (C := [mu_is (mu_nw H 18 0 8) (some 169) 1, mu_is (mu_nw H 18 0 8) (some 169) 1]) rfl (show (mu_is (mu_nw H 18 0 8) (some 169) 1) ∧ (mu_is (mu_nw H 18 0 8) (some 169) 1) from ⟨sn.is, sn.is⟩) ?_
      refine mw_fr (f' := (73, [(2, .inr (.inr (some q))), (0, .inr (.inr (some 169)))], [.inl (nI 23), .inr (.inr (some 171)), .inr (.inr (some (mu_z H))), .inr (.inr (some (mu_z H)))], (mu_nw H 18 0 8))) (by first | (rw [sn.1.2.2.2.1.1, g1]; done) | (rw [sn.1.2.2.2.1.1, g1]; rfl)) ?_
      refine mw_go mu_g498 (k := 1) (f1 := (74, [(2, .inr (.inr (some q))), (0, .inr (.inr (some 169)))], [.inr (.inr (mu_r (mu_nw H 18 0 8) 171 (nI 23).toNatClampNeg)), .inr (.inr (some (mu_z H))), .inr (.inr (some (mu_z H)))], (mu_nw H 18 0 8))) (C := [mu_is (mu_nw H 18 0 8) (some 171) (mu_k (mu_nw H 18 0 8) 171), 103 ≤ mu_k (mu_nw H 18 0 8) 171 ∧ mu_k (mu_nw H 18 0 8) 171 ≤ 110 ∧ mu_k (mu_nw H 18 0 8) 171 ≠ 108, vp_in (nI 23) (mu_n (mu_nw H 18 0 8) 171)]) rfl (show (mu_is (mu_nw H 18 0 8) (some 171) (mu_k (mu_nw H 18 0 8) 171)) ∧ (103 ≤ mu_k (mu_nw H 18 0 8) 171 ∧ mu_k (mu_nw H 18 0 8) 171 ≤ 110 ∧ mu_k (mu_nw H 18 0 8) 171 ≠ 108) ∧ (vp_in (nI 23) (mu_n (mu_nw H 18 0 8) 171)) from ⟨g2, g3, g4⟩) ?_
      refine mw_fr (f' := (74, [(2, .inr (.inr (some q))), (0, .inr (.inr (some 169)))], [.inr (.inr (some (1000000 + (1 + 23)))), .inr (.inr (some (mu_z H))), .inr (.inr (some (mu_z H)))], (mu_nw H 18 0 8))) (by first | (rw [g5]; done) | (rw [g5]; rfl)) ?_
      refine mw_sub (L' := [(2, .inr (.inr (some q))), (0, .inr (.inr (some 169)))]) (by simp) ?_
      exact rp_sum_mark (j := 24) hP hz h2 (by omega) hs hu hp hA0 hl.1 (by decide) (one_ne hne) hpx (fun A F H t a c qs cs => rp_sum_loop hP hz h2 g (by omega) A F H t a c qs cs)
theorem rp_sum {T : Nat → Int32} {n f : Nat} (hP : ∀ g, g ≤ f → pct T n g 7 499 13) : pct T n (f + 1) 6 498 14 := by
  intro d dep t F H res hs hz hpx
  have hpx : pxB T (px T n f) [24, 25] 7 26 dep t = some res := hpx
  unfold pxB at hpx
  have g200 := hs.1.1
  refine mu_meth (M := mu_m498) rfl rfl ?_
  refine mw_ht (mu_fn_of (show [0].Nodup by decide)) ?_
  obtain ⟨res1, hr1⟩ := pbi_some hpx
  refine mw_go mu_g498 (k := 1) (f1 := (1, [(0, .inr (.inr (some 169)))], [.inr (.inr (some 169))], H)) (C := []) rfl trivial ?_
  refine mw_cX (as := []) (o := some 169) (S1 := []) rfl rfl rfl rfl (by decide) (by decide) hs.is rfl (hP f (Nat.le_refl _) d dep _ F H res1 hs hz hr1) (fun H2 e => ?_) (fun v H2 e => ?_)
  · obtain ⟨e', e1, e2⟩ := e
    rw [hr1, e1] at hpx
    exact Or.inl ⟨H2, rfl, e', pbi_inl hpx, e2⟩
  obtain ⟨c1, t1, q1, F2, rfl, e1, s2, n2, w2, f2⟩ := e
  rw [hr1, e1] at hpx
  have hpx : (if one T t1 [24, 25] = 0 then pok c1 t1 else px T n f 26 dep [c1] t1) = some res := hpx
  have hA2 := f2.z
  show mu_W _ mu_m498 (4, [(0, .inr (.inr (some 169)))], [.inr (.inr (some q1))], H2) _
  refine mw_go mu_g498 (k := 3) (f1 := (8, [(1, .inr (.inr (some q1))), (0, .inr (.inr (some 169)))], [.inr (.inr (some 1000024)), .inr (.inr (some 169))], H2)) (C := []) rfl trivial ?_
  refine mw_cIe (fun _ => rfl) (show mu_is H2 (some 169) 1 from s2.is) (rp_isL (j := 24) s2 (by decide)) ?_
  refine mw_if (P := (tis T t1 (txt 24)) = 0) (a := 14) (b := 25) (fun _ => rfl) trivial (fun e0 => ?_) (fun e0 => ?_)
  · -- 14
    refine mw_go mu_g498 (k := 2) (f1 := (17, [(1, .inr (.inr (some q1))), (0, .inr (.inr (some 169)))], [.inr (.inr (some 1000025)), .inr (.inr (some 169))], H2)) (C := []) rfl trivial ?_
    refine mw_cIe (fun _ => rfl) (show mu_is H2 (some 169) 1 from s2.is) (rp_isL (j := 25) s2 (by decide)) ?_
    refine mw_if (P := (tis T t1 (txt 25)) = 0) (a := 23) (b := 25) (fun _ => rfl) trivial (fun e1 => ?_) (fun e1 => ?_)
    · -- 23
      have ho : one T t1 [24, 25] = 0 := by
        show (if tis T t1 (txt 24) = 0 then if tis T t1 (txt 25) = 0 then 0 else 25 else 24) = 0
        rw [if_pos e0, if_pos e1]
      have hpx := pok_eq (ite_ye hpx ho)
      refine mw_go mu_g498 (k := 1) (f1 := (24, [(1, .inr (.inr (some q1))), (0, .inr (.inr (some 169)))], [.inr (.inr (some q1))], H2)) (C := []) rfl trivial ?_
      exact mw_of (fun _ => mu_ret rfl trivial (Or.inr ⟨_, _, rfl, _, _, q1, F2, rfl, hpx, s2, n2.up, w2, f2⟩))
    · -- 25
      have hne : ¬ one T t1 [24, 25] = 0 := by
        show ¬ (if tis T t1 (txt 24) = 0 then if tis T t1 (txt 25) = 0 then 0 else 25 else 24) = 0
        rw [if_pos e0, if_neg e1]
        decide
      have hpx := ite_no hpx hne
      refine mw_newo rfl (by decide) (by omega) ?_
      show mu_W _ mu_m498 (28, [(1, .inr (.inr (some q1))), (0, .inr (.inr (some 169)))], [.inr (.inr (some (mu_z H2)))], (mu_nw H2 18 0 8)) _
      refine mw_go mu_g498 (k := 2) (f1 := (32, [(1, .inr (.inr (some q1))), (0, .inr (.inr (some 169)))], [.inr (.inr (some 1000066)), .inr (.inr (some (mu_z H2))), .inr (.inr (some (mu_z H2)))], (mu_nw H2 18 0 8))) (C := []) rfl trivial ?_
      refine mw_cV (fun _ => rfl) ⟨rfl, Nat.lt_succ_self _⟩ (nd_newL (j := 66) (H0 := H) (f := f) s2 (by omega) (by omega) (by decide)) (fun H3 hq3 => ?_)
      show mu_W _ mu_m498 (35, [(1, .inr (.inr (some q1))), (0, .inr (.inr (some 169)))], [.inr (.inr (some (mu_z H2)))], H3) _
      obtain ⟨hu3, s3, k3⟩ := hq3
      have n3 : nd H3 F2 f q1 c1 := n2.kp k3 (fun p z => ⟨fun y => by have := (s2.fz p y).2.1.1; omega, z.2⟩)
      have hA3 := k3.2.2.1.1
      refine mw_go mu_g498 (k := 1) (f1 := (36, [(1, .inr (.inr (some q1))), (0, .inr (.inr (some 169)))], [.inr (.inr (some q1)), .inr (.inr (some (mu_z H2)))], H3)) (C := []) rfl trivial ?_
      refine mw_cA (fun _ => rfl) (show mu_is H3 (some (mu_z H2)) 18 from hu3.is) (nd_addU hu3 s3 g200 n3 (by omega) (by omega)) (fun r H4 hq4 => ?_)
      obtain ⟨rfl, a4, c4, hu4, s4, hc4, k4⟩ := hq4
      show mu_W _ mu_m498 (39, [(1, .inr (.inr (some q1))), (0, .inr (.inr (some 169)))], [.inr (.inr (some (mu_z H2)))], H4) _
      refine mw_go mu_g498 (k := 1) (f1 := (40, [(2, .inr (.inr (some (mu_z H2)))), (1, .inr (.inr (some q1))), (0, .inr (.inr (some 169)))], [], H4)) (C := []) rfl trivial ?_
      have hcap : 1 ≤ c4 ∧ 2 ≤ c4 ∧ c4 ≤ 2 * 1 + 2 ∧ _ := hu4.cap
      refine mw_sub (L' := [(2, .inr (.inr (some (mu_z H2)))), (0, .inr (.inr (some 169)))]) (by simp) ?_
      refine rp_sum_loop hP hz g200 f (Nat.le_refl _) ((pot n t - pot n t1 - 12) + 2 + (c4 - 2)) F2 H4 t1 a4 c4 [q1] [c1] s4 hu4 ((f2.kp k3 (fun p z => ⟨by omega, z.2⟩) (by omega) (by omega)).kp k4 (fun p z => z) (by omega) (by omega)) ?_ ⟨Nat.succ_pos _, fun _ => hne⟩ hpx
      show _ + 23 * 1 + pot n t1 ≤ pot n t + c4 + 11
      omega
  · -- 25
    have hne : ¬ one T t1 [24, 25] = 0 := by
      show ¬ (if tis T t1 (txt 24) = 0 then if tis T t1 (txt 25) = 0 then 0 else 25 else 24) = 0
      rw [if_neg e0]
      decide
    have hpx := ite_no hpx hne
    refine mw_newo rfl (by decide) (by omega) ?_
    show mu_W _ mu_m498 (28, [(1, .inr (.inr (some q1))), (0, .inr (.inr (some 169)))], [.inr (.inr (some (mu_z H2)))], (mu_nw H2 18 0 8)) _
    refine mw_go mu_g498 (k := 2) (f1 := (32, [(1, .inr (.inr (some q1))), (0, .inr (.inr (some 169)))], [.inr (.inr (some 1000066)), .inr (.inr (some (mu_z H2))), .inr (.inr (some (mu_z H2)))], (mu_nw H2 18 0 8))) (C := []) rfl trivial ?_
    refine mw_cV (fun _ => rfl) ⟨rfl, Nat.lt_succ_self _⟩ (nd_newL (j := 66) (H0 := H) (f := f) s2 (by omega) (by omega) (by decide)) (fun H3 hq3 => ?_)
    show mu_W _ mu_m498 (35, [(1, .inr (.inr (some q1))), (0, .inr (.inr (some 169)))], [.inr (.inr (some (mu_z H2)))], H3) _
    obtain ⟨hu3, s3, k3⟩ := hq3
    have n3 : nd H3 F2 f q1 c1 := n2.kp k3 (fun p z => ⟨fun y => by have := (s2.fz p y).2.1.1; omega, z.2⟩)
    have hA3 := k3.2.2.1.1
    refine mw_go mu_g498 (k := 1) (f1 := (36, [(1, .inr (.inr (some q1))), (0, .inr (.inr (some 169)))], [.inr (.inr (some q1)), .inr (.inr (some (mu_z H2)))], H3)) (C := []) rfl trivial ?_
    refine mw_cA (fun _ => rfl) (show mu_is H3 (some (mu_z H2)) 18 from hu3.is) (nd_addU hu3 s3 g200 n3 (by omega) (by omega)) (fun r H4 hq4 => ?_)
    obtain ⟨rfl, a4, c4, hu4, s4, hc4, k4⟩ := hq4
    show mu_W _ mu_m498 (39, [(1, .inr (.inr (some q1))), (0, .inr (.inr (some 169)))], [.inr (.inr (some (mu_z H2)))], H4) _
    refine mw_go mu_g498 (k := 1) (f1 := (40, [(2, .inr (.inr (some (mu_z H2)))), (1, .inr (.inr (some q1))), (0, .inr (.inr (some 169)))], [], H4)) (C := []) rfl trivial ?_
    have hcap : 1 ≤ c4 ∧ 2 ≤ c4 ∧ c4 ≤ 2 * 1 + 2 ∧ _ := hu4.cap
    refine mw_sub (L' := [(2, .inr (.inr (some (mu_z H2)))), (0, .inr (.inr (some 169)))]) (by simp) ?_
    refine rp_sum_loop hP hz g200 f (Nat.le_refl _) ((pot n t - pot n t1 - 12) + 2 + (c4 - 2)) F2 H4 t1 a4 c4 [q1] [c1] s4 hu4 ((f2.kp k3 (fun p z => ⟨by omega, z.2⟩) (by omega) (by omega)).kp k4 (fun p z => z) (by omega) (by omega)) ?_ ⟨Nat.succ_pos _, fun _ => hne⟩ hpx
    show _ + 23 * 1 + pot n t1 ≤ pot n t + c4 + 11
    omega
theorem rp_term_mark {T : Nat → Int32} {n f d dep q s : Nat} {t0 : Tok} {F0 : Nat → Prop} {H0 : mu_H} {res : Nat ⊕ (Tre × Tok)} (hP : ∀ g, g ≤ f → pct T n g 8 500 12) (hz : mu_z H0 + pot n t0 + 40 ≤ 1000000) (h2 : 200 < mu_z H0) {g j A a c : Nat} {F : Nat → Prop} {H : mu_H} {t : Tok} {qs : List Nat} {cs : List Tre} (hg : g + 1 ≤ f) (hs : pst T n t dep F H) (hu : nu H0 H F f q a c s 66 0 qs cs) (hp : pfr A F0 F H0 H) (hA0 : A + 23 * qs.length + pot n t ≤ pot n t0 + c + 11) (hl1 : 0 < qs.length) (hj : j < 79) (ht : t.1 ≠ 0 ∧ t.1 ≠ 1) (hpx : pbi (px T n g 8 dep [] (adv T n t)) (fun c t1 => px T n g 27 dep (cs ++ [tmk j 0 [] [c]]) t1) = some res) (hk : ∀ A F H t a c qs cs, pst T n t dep F H → nu H0 H F f q a c s 66 0 qs cs → pfr A F0 F H0 H → A + 23 * qs.length + pot n t ≤ pot n t0 + c + 11 → (0 < qs.length ∧ (qs.length = 1 → ¬ one T t [26, 27, 51] = 0)) → px T n g 27 dep cs t = some res → mu_W (mu_D (d + 6 * (150 - dep) + 12)) mu_m499 (49, [(2, .inr (.inr (some q))), (0, .inr (.inr (some 169)))], [], H) (fun r => (∃ H1, r = (.inr 0, H1) ∧ ∃ e, res = .inl e ∧ pbd T n e (pot n t0 + 30) H0 H1) ∨ ∃ v H1, r = (.inl v, H1) ∧ ∃ c t1 q F1, v = some (.inr (.inr (some q))) ∧ res = .inr (c, t1) ∧ pst T n t1 dep F1 H1 ∧ nd H1 F1 (f + 1) q c ∧ pot n t1 + 12 ≤ pot n t0 ∧ pfr (pot n t0 - pot n t1 - 12) F0 F1 H0 H1)) : mu_W (mu_D (d + 6 * (150 - dep) + 12)) mu_m499 (106, [(2, .inr (.inr (some q))), (0, .inr (.inr (some 169)))], [.inr (.inr (some (1000000 + j))), .inr (.inr (some (mu_z H))), .inr (.inr (some (mu_z H)))], mu_nw H 18 0 8) (fun r => (∃ H1, r = (.inr 0, H1) ∧ ∃ e, res = .inl e ∧ pbd T n e (pot n t0 + 30) H0 H1) ∨ ∃ v H1, r = (.inl v, H1) ∧ ∃ c t1 q F1, v = some (.inr (.inr (some q))) ∧ res = .inr (c, t1) ∧ pst T n t1 dep F1 H1 ∧ nd H1 F1 (f + 1) q c ∧ pot n t1 + 12 ≤ pot n t0 ∧ pfr (pot n t0 - pot n t1 - 12) F0 F1 H0 H1) := by
  obtain ⟨res1, hr1⟩ := pbi_some hpx
  have hst := pot_step (T := T) hs.tkf.2.2 ht
  have hcap := hu.cap
  have hA := hp.z
  have hgz : 200 < mu_z H := by omega
  refine mw_cV (fun _ => rfl) ⟨rfl, Nat.lt_succ_self _⟩ (nd_newL (j := j) (H0 := H) (f := g) hs (by omega) (Nat.le_refl _) hj) (fun H1 hq1 => ?_)
  show mu_W _ mu_m499 (109, [(2, .inr (.inr (some q))), (0, .inr (.inr (some 169)))], [.inr (.inr (some (mu_z H)))], H1) _
  obtain ⟨hm1, s1, k1⟩ := hq1
  have r1 : pfr (0 + 2) F F H H1 := pfr.rf.kp k1 (fun p z => z) (by omega) (by omega)
  have hz1 := r1.z
  refine mw_go mu_g499 (k := 2) (f1 := (111, [(3, .inr (.inr (some (mu_z H)))), (2, .inr (.inr (some q))), (0, .inr (.inr (some 169)))], [.inr (.inr (some 169))], H1)) (C := []) rfl trivial ?_
  refine mw_cV (fun _ => rfl) (show mu_is H1 (some 169) 1 from s1.is) (rp_advance s1 ht (by omega)) (fun H2 hq2 => ?_)
  show mu_W _ mu_m499 (114, [(3, .inr (.inr (some (mu_z H)))), (2, .inr (.inr (some q))), (0, .inr (.inr (some 169)))], [], H2) _
  obtain ⟨F2, s2, f2⟩ := hq2
  have hm2 := hm1.keep s1 hgz f2
  have r2 := r1.tr f2
  have hz2 := r2.z
  refine mw_go mu_g499 (k := 3) (f1 := (117, [(3, .inr (.inr (some (mu_z H)))), (2, .inr (.inr (some q))), (0, .inr (.inr (some 169)))], [.inr (.inr (some 169)), .inr (.inr (some (mu_z H))), .inr (.inr (some q))], H2)) (C := []) rfl trivial ?_
  refine mw_cX (as := []) (o := some 169) (S1 := [.inr (.inr (some (mu_z H))), .inr (.inr (some q))]) rfl rfl rfl rfl (Nat.le_of_ble_eq_true rfl) (by decide) s2.is rfl (hP g (by omega) d dep _ F2 H2 res1 s2 (by omega) hr1) (fun H3 e => ?_) (fun v H3 e => ?_)
  · obtain ⟨e', e1, e2⟩ := e
    rw [show px T n g 8 dep [] (adv T n t) = some res1 from hr1, e1] at hpx
    exact Or.inl ⟨H3, rfl, e', pbi_inl hpx, ((hp.tr r2).bd e2).wk (by omega)⟩
  obtain ⟨c1, t1, q1, F3, rfl, e1, s3, n3, w3, f3⟩ := e
  rw [show px T n g 8 dep [] (adv T n t) = some res1 from hr1, e1] at hpx
  have hpx : px T n g 27 dep (cs ++ [tmk j 0 [] [c1]]) t1 = some res := hpx
  have hm3 := hm2.keep s2 hgz f3
  have r3 := r2.tr f3
  have hz3 := r3.z
  show mu_W _ mu_m499 (120, [(3, .inr (.inr (some (mu_z H)))), (2, .inr (.inr (some q))), (0, .inr (.inr (some 169)))], [.inr (.inr (some q1)), .inr (.inr (some (mu_z H))), .inr (.inr (some q))], H3) _
  refine mw_cA (fun _ => rfl) (show mu_is H3 (some (mu_z H)) 18 from hm3.is) (nd_addU hm3 s3 hgz n3 (by omega) (by omega)) (fun r H4 hq4 => ?_)
  obtain ⟨rfl, a4, c4, hm4, s4, hc4, k4⟩ := hq4
  have hcap4 : 1 ≤ c4 ∧ 2 ≤ c4 ∧ c4 ≤ 2 * 1 + 2 ∧ _ := hm4.cap
  have r4 := r3.kp k4 (fun p z => z) (by omega) (by omega)
  obtain ⟨F4, s5, n5, r5⟩ := hm4.done s4 hgz r4
  have hz5 := r5.z
  have hu5 := hu.keep hs h2 r5
  show mu_W _ mu_m499 (123, [(3, .inr (.inr (some (mu_z H)))), (2, .inr (.inr (some q))), (0, .inr (.inr (some 169)))], [.inr (.inr (some (mu_z H))), .inr (.inr (some q))], H4) _
  refine mw_cA (fun _ => rfl) (show mu_is H4 (some q) 18 from hu5.is) (nd_addU hu5 s5 h2 (n5.le (by omega)) (by omega) (by omega)) (fun r H6 hq6 => ?_)
  obtain ⟨rfl, a6, c6, hu6, s6, hc6, k6⟩ := hq6
  show mu_W _ mu_m499 (126, [(3, .inr (.inr (some (mu_z H)))), (2, .inr (.inr (some q))), (0, .inr (.inr (some 169)))], [.inr (.inr (some q))], H6) _
  refine mw_go mu_g499 (k := 2) (f1 := (49, [(3, .inr (.inr (some (mu_z H)))), (2, .inr (.inr (some q))), (0, .inr (.inr (some 169)))], [], H6)) (C := []) rfl trivial ?_
  have hcap6 := hu6.cap
  rw [List.length_append] at hcap6
  have hcap6 : qs.length + 1 ≤ c6 ∧ 2 ≤ c6 ∧ c6 ≤ 2 * (qs.length + 1) + 2 ∧ _ := hcap6
  refine mw_sub (L' := [(2, .inr (.inr (some q))), (0, .inr (.inr (some 169)))]) (by simp) ?_
  refine hk _ F4 H6 t1 a6 c6 (qs ++ [mu_z H]) (cs ++ [tmk j 0 [] [c1]]) s6 hu6 ((hp.tr r5).kp k6 (fun p z => z) (by omega) (by omega)) ?_ (by rw [List.length_append]; exact ⟨Nat.succ_pos _, fun e => by have e : qs.length + 1 = 1 := e; omega⟩) hpx
  rw [List.length_append]
  show _ + 23 * (qs.length + 1) + pot n t1 ≤ pot n t0 + c6 + 11
  omega
theorem rp_term_loop {T : Nat → Int32} {n f d dep q s : Nat} {t0 : Tok} {F0 : Nat → Prop} {H0 : mu_H} {res : Nat ⊕ (Tre × Tok)} (hP : ∀ g, g ≤ f → pct T n g 8 500 12) (hz : mu_z H0 + pot n t0 + 40 ≤ 1000000) (h2 : 200 < mu_z H0) : ∀ g, g ≤ f → ∀ A F H t a c qs cs, pst T n t dep F H → nu H0 H F f q a c s 66 0 qs cs → pfr A F0 F H0 H → A + 23 * qs.length + pot n t ≤ pot n t0 + c + 11 → (0 < qs.length ∧ (qs.length = 1 → ¬ one T t [26, 27, 51] = 0)) → px T n g 27 dep cs t = some res → mu_W (mu_D (d + 6 * (150 - dep) + 12)) mu_m499 (49, [(2, .inr (.inr (some q))), (0, .inr (.inr (some 169)))], [], H) (fun r => (∃ H1, r = (.inr 0, H1) ∧ ∃ e, res = .inl e ∧ pbd T n e (pot n t0 + 30) H0 H1) ∨ ∃ v H1, r = (.inl v, H1) ∧ ∃ c t1 q F1, v = some (.inr (.inr (some q))) ∧ res = .inr (c, t1) ∧ pst T n t1 dep F1 H1 ∧ nd H1 F1 (f + 1) q c ∧ pot n t1 + 12 ≤ pot n t0 ∧ pfr (pot n t0 - pot n t1 - 12) F0 F1 H0 H1)
  | 0, _, _, _, _, _, _, _, _, _, _, _, _, _, _, hpx => by cases hpx
  | g + 1, hg, A, F, H, t, a, c, qs, cs, hs, hu, hp, hA0, hl, hpx => by
    have hpx : pxBl T n (px T n g) [26, 27, 51] 8 27 dep cs t = some res := hpx
    unfold pxBl at hpx
    have hcap := hu.cap
    have hA := hp.z
    have kn : kep (fun _ => False) (0 + 1) (0 + 8) H (mu_nw H 18 0 8) := kep.rf.nw (by omega)
    have sn : pst T n t dep F (mu_nw H 18 0 8) := hs.kp kn (fun _ z => z.elim)
    refine mw_go mu_g499 (k := 2) (f1 := (52, [(2, .inr (.inr (some q))), (0, .inr (.inr (some 169)))], [.inr (.inr (some 1000026)), .inr (.inr (some 169))], H)) (C := []) rfl trivial ?_
    refine mw_cIe (fun _ => rfl) (show mu_is H (some 169) 1 from hs.is) (rp_isL (j := 26) hs (by decide)) ?_
    refine mw_if (P := (tis T t (txt 26)) = 0) (a := 58) (b := 76) (fun _ => rfl) trivial (fun e0 => ?_) (fun e0 => ?_)
    · -- 58
      refine mw_go mu_g499 (k := 2) (f1 := (61, [(2, .inr (.inr (some q))), (0, .inr (.inr (some 169)))], [.inr (.inr (some 1000027)), .inr (.inr (some 169))], H)) (C := []) rfl trivial ?_
      refine mw_cIe (fun _ => rfl) (show mu_is H (some 169) 1 from hs.is) (rp_isL (j := 27) hs (by decide)) ?_
      refine mw_if (P := (tis T t (txt 27)) = 0) (a := 67) (b := 76) (fun _ => rfl) trivial (fun e1 => ?_) (fun e1 => ?_)
      · -- 67
        refine mw_go mu_g499 (k := 2) (f1 := (70, [(2, .inr (.inr (some q))), (0, .inr (.inr (some 169)))], [.inr (.inr (some 1000051)), .inr (.inr (some 169))], H)) (C := []) rfl trivial ?_
        refine mw_cIe (fun _ => rfl) (show mu_is H (some 169) 1 from hs.is) (rp_isL (j := 51) hs (by decide)) ?_
        refine mw_if (P := (tis T t (txt 51)) = 0) (a := 130) (b := 76) (fun _ => rfl) trivial (fun e2 => ?_) (fun e2 => ?_)
        · -- 130
          have ho : one T t [26, 27, 51] = 0 := by
            show (if tis T t (txt 26) = 0 then if tis T t (txt 27) = 0 then if tis T t (txt 51) = 0 then 0 else 51 else 27 else 26) = 0
            rw [if_pos e0, if_pos e1, if_pos e2]
          have hpx := pok_eq (ite_ye hpx ho)
          have hl2 : qs.length ≠ 1 := fun e => hl.2 e ho
          have hl1 := hl.1
          obtain ⟨F1, d1, d2, d3⟩ := hu.done hs h2 hp
          refine mw_go mu_g499 (k := 1) (f1 := (131, [(2, .inr (.inr (some q))), (0, .inr (.inr (some 169)))], [.inr (.inr (some q))], H)) (C := []) rfl trivial ?_
          exact mw_of (fun _ => mu_ret rfl trivial (Or.inr ⟨_, _, rfl, _, _, q, F1, rfl, hpx, d1, d2, by omega, d3.wk (by omega)⟩))
        · -- 76
          have ho : one T t [26, 27, 51] = 51 := by
            show (if tis T t (txt 26) = 0 then if tis T t (txt 27) = 0 then if tis T t (txt 51) = 0 then 0 else 51 else 27 else 26) = 51
            rw [if_pos e0, if_pos e1, if_neg e2]
          have hne : ¬ one T t [26, 27, 51] = 0 := by rw [ho]; decide
          have hpx := ite_no hpx hne
          rw [ho] at hpx
          refine mw_newo rfl (by decide) (by omega) ?_
          show mu_W _ mu_m499 (79, [(2, .inr (.inr (some q))), (0, .inr (.inr (some 169)))], [.inr (.inr (some (mu_z H)))], (mu_nw H 18 0 8)) _
          refine mw_go mu_g499 (k := 3) (f1 := (83, [(2, .inr (.inr (some q))), (0, .inr (.inr (some 169)))], [.inr (.inr (some 1000051)), .inr (.inr (some 169)), .inr (.inr (some (mu_z H))), .inr (.inr (some (mu_z H)))], (mu_nw H 18 0 8))) (C := []) rfl trivial ?_
          refine mw_cIe (fun _ => rfl) (show mu_is (mu_nw H 18 0 8) (some 169) 1 from sn.is) (rp_isL (j := 51) sn (by decide)) ?_
          refine mw_if (P := (tis T t (txt 51)) = 0) (a := 94) (b := 89) (fun _ => rfl) trivial (fun h9 => absurd h9 e2) (fun h9 => ?_)
          refine mw_go mu_g499 (k := 2) (f1 := (106, [(2, .inr (.inr (some q))), (0, .inr (.inr (some 169)))], [.inr (.inr (some 1000051)), .inr (.inr (some (mu_z H))), .inr (.inr (some (mu_z H)))], (mu_nw H 18 0 8))) (C := []) rfl trivial ?_
          refine mw_sub (L' := [(2, .inr (.inr (some q))), (0, .inr (.inr (some 169)))]) (by simp) ?_
          exact rp_term_mark (j := 51) hP hz h2 (by omega) hs hu hp hA0 hl.1 (by decide) (one_ne hne) hpx (fun A F H t a c qs cs => rp_term_loop hP hz h2 g (by omega) A F H t a c qs cs)
      · -- 76
        have ho : one T t [26, 27, 51] = 27 := by
          show (if tis T t (txt 26) = 0 then if tis T t (txt 27) = 0 then if tis T t (txt 51) = 0 then 0 else 51 else 27 else 26) = 27
          rw [if_pos e0, if_neg e1]
        have hne : ¬ one T t [26, 27, 51] = 0 := by rw [ho]; decide
        have hpx := ite_no hpx hne
        rw [ho] at hpx
        refine mw_newo rfl (by decide) (by omega) ?_
        show mu_W _ mu_m499 (79, [(2, .inr (.inr (some q))), (0, .inr (.inr (some 169)))], [.inr (.inr (some (mu_z H)))], (mu_nw H 18 0 8)) _
        refine mw_go mu_g499 (k := 3) (f1 := (83, [(2, .inr (.inr (some q))), (0, .inr (.inr (some 169)))], [.inr (.inr (some 1000051)), .inr (.inr (some 169)), .inr (.inr (some (mu_z H))), .inr (.inr (some (mu_z H)))], (mu_nw H 18 0 8))) (C := []) rfl trivial ?_
        refine mw_cIe (fun _ => rfl) (show mu_is (mu_nw H 18 0 8) (some 169) 1 from sn.is) (rp_isL (j := 51) sn (by decide)) ?_
        refine mw_if (P := (tis T t (txt 51)) = 0) (a := 94) (b := 89) (fun _ => rfl) trivial (fun h9 => ?_) (fun h9 => absurd (tis_two hs.tkf hs.tkw (s := 26) (by decide) e1) h9)
        obtain ⟨g1, g2, g3, g4, g5⟩ := sn.sgr (s := 26) (by decide) e1
        refine mw_go mu_g499 (k := 6) (f1 := (105, [(2, .inr (.inr (some q))), (0, .inr (.inr (some 169)))], [.inl ((mu_i (mu_nw H 18 0 8) 169 7) - (10 : Int32)), .inr (.inr (mu_r (mu_nw H 18 0 8) 169 4)), .inr (.inr (some (mu_z H))), .inr (.inr (some (mu_z H)))], (mu_nw H 18 0 8))) (C := [mu_is (mu_nw H 18 0 8) (some 169) 1, mu_is (mu_nw H 18 0 8) (some 169) 1]) rfl (show (mu_is (mu_nw H 18 0 8) (some 169) 1) ∧ (mu_is (mu_nw H 18 0 8) (some 169) 1) from ⟨sn.is, sn.is⟩) ?_
        refine mw_fr (f' := (105, [(2, .inr (.inr (some q))), (0, .inr (.inr (some 169)))], [.inl (nI 26), .inr (.inr (some 171)), .inr (.inr (some (mu_z H))), .inr (.inr (some (mu_z H)))], (mu_nw H 18 0 8))) (by first | (rw [sn.1.2.2.2.1.1, g1]; done) | (rw [sn.1.2.2.2.1.1, g1]; rfl)) ?_
        refine mw_go mu_g499 (k := 1) (f1 := (106, [(2, .inr (.inr (some q))), (0, .inr (.inr (some 169)))], [.inr (.inr (mu_r (mu_nw H 18 0 8) 171 (nI 26).toNatClampNeg)), .inr (.inr (some (mu_z H))), .inr (.inr (some (mu_z H)))], (mu_nw H 18 0 8))) (C := [mu_is (mu_nw H 18 0 8) (some 171) (mu_k (mu_nw H 18 0 8) 171), 103 ≤ mu_k (mu_nw H 18 0 8) 171 ∧ mu_k (mu_nw H 18 0 8) 171 ≤ 110 ∧ mu_k (mu_nw H 18 0 8) 171 ≠ 108, vp_in (nI 26) (mu_n (mu_nw H 18 0 8) 171)]) rfl (show (mu_is (mu_nw H 18 0 8) (some 171) (mu_k (mu_nw H 18 0 8) 171)) ∧ (103 ≤ mu_k (mu_nw H 18 0 8) 171 ∧ mu_k (mu_nw H 18 0 8) 171 ≤ 110 ∧ mu_k (mu_nw H 18 0 8) 171 ≠ 108) ∧ (vp_in (nI 26) (mu_n (mu_nw H 18 0 8) 171)) from ⟨g2, g3, g4⟩) ?_
        refine mw_fr (f' := (106, [(2, .inr (.inr (some q))), (0, .inr (.inr (some 169)))], [.inr (.inr (some (1000000 + (1 + 26)))), .inr (.inr (some (mu_z H))), .inr (.inr (some (mu_z H)))], (mu_nw H 18 0 8))) (by first | (rw [g5]; done) | (rw [g5]; rfl)) ?_
        refine mw_sub (L' := [(2, .inr (.inr (some q))), (0, .inr (.inr (some 169)))]) (by simp) ?_
        exact rp_term_mark (j := 27) hP hz h2 (by omega) hs hu hp hA0 hl.1 (by decide) (one_ne hne) hpx (fun A F H t a c qs cs => rp_term_loop hP hz h2 g (by omega) A F H t a c qs cs)
    · -- 76
      have ho : one T t [26, 27, 51] = 26 := by
        show (if tis T t (txt 26) = 0 then if tis T t (txt 27) = 0 then if tis T t (txt 51) = 0 then 0 else 51 else 27 else 26) = 26
        rw [if_neg e0]
      have hne : ¬ one T t [26, 27, 51] = 0 := by rw [ho]; decide
      have hpx := ite_no hpx hne
      rw [ho] at hpx
      refine mw_newo rfl (by decide) (by omega) ?_
      show mu_W _ mu_m499 (79, [(2, .inr (.inr (some q))), (0, .inr (.inr (some 169)))], [.inr (.inr (some (mu_z H)))], (mu_nw H 18 0 8)) _
      refine mw_go mu_g499 (k := 3) (f1 := (83, [(2, .inr (.inr (some q))), (0, .inr (.inr (some 169)))], [.inr (.inr (some 1000051)), .inr (.inr (some 169)), .inr (.inr (some (mu_z H))), .inr (.inr (some (mu_z H)))], (mu_nw H 18 0 8))) (C := []) rfl trivial ?_
      refine mw_cIe (fun _ => rfl) (show mu_is (mu_nw H 18 0 8) (some 169) 1 from sn.is) (rp_isL (j := 51) sn (by decide)) ?_
      refine mw_if (P := (tis T t (txt 51)) = 0) (a := 94) (b := 89) (fun _ => rfl) trivial (fun h9 => ?_) (fun h9 => absurd (tis_two hs.tkf hs.tkw (s := 25) (by decide) e0) h9)
      obtain ⟨g1, g2, g3, g4, g5⟩ := sn.sgr (s := 25) (by decide) e0
      refine mw_go mu_g499 (k := 6) (f1 := (105, [(2, .inr (.inr (some q))), (0, .inr (.inr (some 169)))], [.inl ((mu_i (mu_nw H 18 0 8) 169 7) - (10 : Int32)), .inr (.inr (mu_r (mu_nw H 18 0 8) 169 4)), .inr (.inr (some (mu_z H))), .inr (.inr (some (mu_z H)))], (mu_nw H 18 0 8))) (C := [mu_is (mu_nw H 18 0 8) (some 169) 1, mu_is (mu_nw H 18 0 8) (some 169) 1]) rfl (show (mu_is (mu_nw H 18 0 8) (some 169) 1) ∧ (mu_is (mu_nw H 18 0 8) (some 169) 1) from ⟨sn.is, sn.is⟩) ?_
      refine mw_fr (f' := (105, [(2, .inr (.inr (some q))), (0, .inr (.inr (some 169)))], [.inl (nI 25), .inr (.inr (some 171)), .inr (.inr (some (mu_z H))), .inr (.inr (some (mu_z H)))], (mu_nw H 18 0 8))) (by first | (rw [sn.1.2.2.2.1.1, g1]; done) | (rw [sn.1.2.2.2.1.1, g1]; rfl)) ?_
      refine mw_go mu_g499 (k := 1) (f1 := (106, [(2, .inr (.inr (some q))), (0, .inr (.inr (some 169)))], [.inr (.inr (mu_r (mu_nw H 18 0 8) 171 (nI 25).toNatClampNeg)), .inr (.inr (some (mu_z H))), .inr (.inr (some (mu_z H)))], (mu_nw H 18 0 8))) (C := [mu_is (mu_nw H 18 0 8) (some 171) (mu_k (mu_nw H 18 0 8) 171), 103 ≤ mu_k (mu_nw H 18 0 8) 171 ∧ mu_k (mu_nw H 18 0 8) 171 ≤ 110 ∧ mu_k (mu_nw H 18 0 8) 171 ≠ 108, vp_in (nI 25) (mu_n (mu_nw H 18 0 8) 171)]) rfl (show (mu_is (mu_nw H 18 0 8) (some 171) (mu_k (mu_nw H 18 0 8) 171)) ∧ (103 ≤ mu_k (mu_nw H 18 0 8) 171 ∧ mu_k (mu_nw H 18 0 8) 171 ≤ 110 ∧ mu_k (mu_nw H 18 0 8) 171 ≠ 108) ∧ (vp_in (nI 25) (mu_n (mu_nw H 18 0 8) 171)) from ⟨g2, g3, g4⟩) ?_
      refine mw_fr (f' := (106, [(2, .inr (.inr (some q))), (0, .inr (.inr (some 169)))], [.inr (.inr (some (1000000 + (1 + 25)))), .inr (.inr (some (mu_z H))), .inr (.inr (some (mu_z H)))], (mu_nw H 18 0 8))) (by first | (rw [g5]; done) | (rw [g5]; rfl)) ?_
      refine mw_sub (L' := [(2, .inr (.inr (some q))), (0, .inr (.inr (some 169)))]) (by simp) ?_
      exact rp_term_mark (j := 26) hP hz h2 (by omega) hs hu hp hA0 hl.1 (by decide) (one_ne hne) hpx (fun A F H t a c qs cs => rp_term_loop hP hz h2 g (by omega) A F H t a c qs cs)
theorem rp_term {T : Nat → Int32} {n f : Nat} (hP : ∀ g, g ≤ f → pct T n g 8 500 12) : pct T n (f + 1) 7 499 13 := by
  intro d dep t F H res hs hz hpx
  have hpx : pxB T (px T n f) [26, 27, 51] 8 27 dep t = some res := hpx
  unfold pxB at hpx
  have g200 := hs.1.1
  refine mu_meth (M := mu_m499) rfl rfl ?_
  refine mw_ht (mu_fn_of (show [0].Nodup by decide)) ?_
  obtain ⟨res1, hr1⟩ := pbi_some hpx
  refine mw_go mu_g499 (k := 1) (f1 := (1, [(0, .inr (.inr (some 169)))], [.inr (.inr (some 169))], H)) (C := []) rfl trivial ?_
  refine mw_cX (as := []) (o := some 169) (S1 := []) rfl rfl rfl rfl (by decide) (by decide) hs.is rfl (hP f (Nat.le_refl _) d dep _ F H res1 hs hz hr1) (fun H2 e => ?_) (fun v H2 e => ?_)
  · obtain ⟨e', e1, e2⟩ := e
    rw [hr1, e1] at hpx
    exact Or.inl ⟨H2, rfl, e', pbi_inl hpx, e2⟩
  obtain ⟨c1, t1, q1, F2, rfl, e1, s2, n2, w2, f2⟩ := e
  rw [hr1, e1] at hpx
  have hpx : (if one T t1 [26, 27, 51] = 0 then pok c1 t1 else px T n f 27 dep [c1] t1) = some res := hpx
  have hA2 := f2.z
  show mu_W _ mu_m499 (4, [(0, .inr (.inr (some 169)))], [.inr (.inr (some q1))], H2) _
  refine mw_go mu_g499 (k := 3) (f1 := (8, [(1, .inr (.inr (some q1))), (0, .inr (.inr (some 169)))], [.inr (.inr (some 1000026)), .inr (.inr (some 169))], H2)) (C := []) rfl trivial ?_
  refine mw_cIe (fun _ => rfl) (show mu_is H2 (some 169) 1 from s2.is) (rp_isL (j := 26) s2 (by decide)) ?_
  refine mw_if (P := (tis T t1 (txt 26)) = 0) (a := 14) (b := 34) (fun _ => rfl) trivial (fun e0 => ?_) (fun e0 => ?_)
  · -- 14
    refine mw_go mu_g499 (k := 2) (f1 := (17, [(1, .inr (.inr (some q1))), (0, .inr (.inr (some 169)))], [.inr (.inr (some 1000027)), .inr (.inr (some 169))], H2)) (C := []) rfl trivial ?_
    refine mw_cIe (fun _ => rfl) (show mu_is H2 (some 169) 1 from s2.is) (rp_isL (j := 27) s2 (by decide)) ?_
    refine mw_if (P := (tis T t1 (txt 27)) = 0) (a := 23) (b := 34) (fun _ => rfl) trivial (fun e1 => ?_) (fun e1 => ?_)
    · -- 23
      refine mw_go mu_g499 (k := 2) (f1 := (26, [(1, .inr (.inr (some q1))), (0, .inr (.inr (some 169)))], [.inr (.inr (some 1000051)), .inr (.inr (some 169))], H2)) (C := []) rfl trivial ?_
      refine mw_cIe (fun _ => rfl) (show mu_is H2 (some 169) 1 from s2.is) (rp_isL (j := 51) s2 (by decide)) ?_
      refine mw_if (P := (tis T t1 (txt 51)) = 0) (a := 32) (b := 34) (fun _ => rfl) trivial (fun e2 => ?_) (fun e2 => ?_)
      · -- 32
        have ho : one T t1 [26, 27, 51] = 0 := by
          show (if tis T t1 (txt 26) = 0 then if tis T t1 (txt 27) = 0 then if tis T t1 (txt 51) = 0 then 0 else 51 else 27 else 26) = 0
          rw [if_pos e0, if_pos e1, if_pos e2]
        have hpx := pok_eq (ite_ye hpx ho)
        refine mw_go mu_g499 (k := 1) (f1 := (33, [(1, .inr (.inr (some q1))), (0, .inr (.inr (some 169)))], [.inr (.inr (some q1))], H2)) (C := []) rfl trivial ?_
        exact mw_of (fun _ => mu_ret rfl trivial (Or.inr ⟨_, _, rfl, _, _, q1, F2, rfl, hpx, s2, n2.up, w2, f2⟩))
      · -- 34
        have hne : ¬ one T t1 [26, 27, 51] = 0 := by
          show ¬ (if tis T t1 (txt 26) = 0 then if tis T t1 (txt 27) = 0 then if tis T t1 (txt 51) = 0 then 0 else 51 else 27 else 26) = 0
          rw [if_pos e0, if_pos e1, if_neg e2]
          decide
        have hpx := ite_no hpx hne
        refine mw_newo rfl (by decide) (by omega) ?_
        show mu_W _ mu_m499 (37, [(1, .inr (.inr (some q1))), (0, .inr (.inr (some 169)))], [.inr (.inr (some (mu_z H2)))], (mu_nw H2 18 0 8)) _
        refine mw_go mu_g499 (k := 2) (f1 := (41, [(1, .inr (.inr (some q1))), (0, .inr (.inr (some 169)))], [.inr (.inr (some 1000066)), .inr (.inr (some (mu_z H2))), .inr (.inr (some (mu_z H2)))], (mu_nw H2 18 0 8))) (C := []) rfl trivial ?_
        refine mw_cV (fun _ => rfl) ⟨rfl, Nat.lt_succ_self _⟩ (nd_newL (j := 66) (H0 := H) (f := f) s2 (by omega) (by omega) (by decide)) (fun H3 hq3 => ?_)
        show mu_W _ mu_m499 (44, [(1, .inr (.inr (some q1))), (0, .inr (.inr (some 169)))], [.inr (.inr (some (mu_z H2)))], H3) _
        obtain ⟨hu3, s3, k3⟩ := hq3
        have n3 : nd H3 F2 f q1 c1 := n2.kp k3 (fun p z => ⟨fun y => by have := (s2.fz p y).2.1.1; omega, z.2⟩)
        have hA3 := k3.2.2.1.1
        refine mw_go mu_g499 (k := 1) (f1 := (45, [(1, .inr (.inr (some q1))), (0, .inr (.inr (some 169)))], [.inr (.inr (some q1)), .inr (.inr (some (mu_z H2)))], H3)) (C := []) rfl trivial ?_
        refine mw_cA (fun _ => rfl) (show mu_is H3 (some (mu_z H2)) 18 from hu3.is) (nd_addU hu3 s3 g200 n3 (by omega) (by omega)) (fun r H4 hq4 => ?_)
        obtain ⟨rfl, a4, c4, hu4, s4, hc4, k4⟩ := hq4
        show mu_W _ mu_m499 (48, [(1, .inr (.inr (some q1))), (0, .inr (.inr (some 169)))], [.inr (.inr (some (mu_z H2)))], H4) _
        refine mw_go mu_g499 (k := 1) (f1 := (49, [(2, .inr (.inr (some (mu_z H2)))), (1, .inr (.inr (some q1))), (0, .inr (.inr (some 169)))], [], H4)) (C := []) rfl trivial ?_
        have hcap : 1 ≤ c4 ∧ 2 ≤ c4 ∧ c4 ≤ 2 * 1 + 2 ∧ _ := hu4.cap
        refine mw_sub (L' := [(2, .inr (.inr (some (mu_z H2)))), (0, .inr (.inr (some 169)))]) (by simp) ?_
        refine rp_term_loop hP hz g200 f (Nat.le_refl _) ((pot n t - pot n t1 - 12) + 2 + (c4 - 2)) F2 H4 t1 a4 c4 [q1] [c1] s4 hu4 ((f2.kp k3 (fun p z => ⟨by omega, z.2⟩) (by omega) (by omega)).kp k4 (fun p z => z) (by omega) (by omega)) ?_ ⟨Nat.succ_pos _, fun _ => hne⟩ hpx
        show _ + 23 * 1 + pot n t1 ≤ pot n t + c4 + 11
        omega
    · -- 34
      have hne : ¬ one T t1 [26, 27, 51] = 0 := by
        show ¬ (if tis T t1 (txt 26) = 0 then if tis T t1 (txt 27) = 0 then if tis T t1 (txt 51) = 0 then 0 else 51 else 27 else 26) = 0
        rw [if_pos e0, if_neg e1]
        decide
      have hpx := ite_no hpx hne
      refine mw_newo rfl (by decide) (by omega) ?_
      show mu_W _ mu_m499 (37, [(1, .inr (.inr (some q1))), (0, .inr (.inr (some 169)))], [.inr (.inr (some (mu_z H2)))], (mu_nw H2 18 0 8)) _
      refine mw_go mu_g499 (k := 2) (f1 := (41, [(1, .inr (.inr (some q1))), (0, .inr (.inr (some 169)))], [.inr (.inr (some 1000066)), .inr (.inr (some (mu_z H2))), .inr (.inr (some (mu_z H2)))], (mu_nw H2 18 0 8))) (C := []) rfl trivial ?_
      refine mw_cV (fun _ => rfl) ⟨rfl, Nat.lt_succ_self _⟩ (nd_newL (j := 66) (H0 := H) (f := f) s2 (by omega) (by omega) (by decide)) (fun H3 hq3 => ?_)
      show mu_W _ mu_m499 (44, [(1, .inr (.inr (some q1))), (0, .inr (.inr (some 169)))], [.inr (.inr (some (mu_z H2)))], H3) _
      obtain ⟨hu3, s3, k3⟩ := hq3
      have n3 : nd H3 F2 f q1 c1 := n2.kp k3 (fun p z => ⟨fun y => by have := (s2.fz p y).2.1.1; omega, z.2⟩)
      have hA3 := k3.2.2.1.1
      refine mw_go mu_g499 (k := 1) (f1 := (45, [(1, .inr (.inr (some q1))), (0, .inr (.inr (some 169)))], [.inr (.inr (some q1)), .inr (.inr (some (mu_z H2)))], H3)) (C := []) rfl trivial ?_
      refine mw_cA (fun _ => rfl) (show mu_is H3 (some (mu_z H2)) 18 from hu3.is) (nd_addU hu3 s3 g200 n3 (by omega) (by omega)) (fun r H4 hq4 => ?_)
      obtain ⟨rfl, a4, c4, hu4, s4, hc4, k4⟩ := hq4
      show mu_W _ mu_m499 (48, [(1, .inr (.inr (some q1))), (0, .inr (.inr (some 169)))], [.inr (.inr (some (mu_z H2)))], H4) _
      refine mw_go mu_g499 (k := 1) (f1 := (49, [(2, .inr (.inr (some (mu_z H2)))), (1, .inr (.inr (some q1))), (0, .inr (.inr (some 169)))], [], H4)) (C := []) rfl trivial ?_
      have hcap : 1 ≤ c4 ∧ 2 ≤ c4 ∧ c4 ≤ 2 * 1 + 2 ∧ _ := hu4.cap
      refine mw_sub (L' := [(2, .inr (.inr (some (mu_z H2)))), (0, .inr (.inr (some 169)))]) (by simp) ?_
      refine rp_term_loop hP hz g200 f (Nat.le_refl _) ((pot n t - pot n t1 - 12) + 2 + (c4 - 2)) F2 H4 t1 a4 c4 [q1] [c1] s4 hu4 ((f2.kp k3 (fun p z => ⟨by omega, z.2⟩) (by omega) (by omega)).kp k4 (fun p z => z) (by omega) (by omega)) ?_ ⟨Nat.succ_pos _, fun _ => hne⟩ hpx
      show _ + 23 * 1 + pot n t1 ≤ pot n t + c4 + 11
      omega
  · -- 34
    have hne : ¬ one T t1 [26, 27, 51] = 0 := by
      show ¬ (if tis T t1 (txt 26) = 0 then if tis T t1 (txt 27) = 0 then if tis T t1 (txt 51) = 0 then 0 else 51 else 27 else 26) = 0
      rw [if_neg e0]
      decide
    have hpx := ite_no hpx hne
    refine mw_newo rfl (by decide) (by omega) ?_
    show mu_W _ mu_m499 (37, [(1, .inr (.inr (some q1))), (0, .inr (.inr (some 169)))], [.inr (.inr (some (mu_z H2)))], (mu_nw H2 18 0 8)) _
    refine mw_go mu_g499 (k := 2) (f1 := (41, [(1, .inr (.inr (some q1))), (0, .inr (.inr (some 169)))], [.inr (.inr (some 1000066)), .inr (.inr (some (mu_z H2))), .inr (.inr (some (mu_z H2)))], (mu_nw H2 18 0 8))) (C := []) rfl trivial ?_
    refine mw_cV (fun _ => rfl) ⟨rfl, Nat.lt_succ_self _⟩ (nd_newL (j := 66) (H0 := H) (f := f) s2 (by omega) (by omega) (by decide)) (fun H3 hq3 => ?_)
    show mu_W _ mu_m499 (44, [(1, .inr (.inr (some q1))), (0, .inr (.inr (some 169)))], [.inr (.inr (some (mu_z H2)))], H3) _
    obtain ⟨hu3, s3, k3⟩ := hq3
    have n3 : nd H3 F2 f q1 c1 := n2.kp k3 (fun p z => ⟨fun y => by have := (s2.fz p y).2.1.1; omega, z.2⟩)
    have hA3 := k3.2.2.1.1
    refine mw_go mu_g499 (k := 1) (f1 := (45, [(1, .inr (.inr (some q1))), (0, .inr (.inr (some 169)))], [.inr (.inr (some q1)), .inr (.inr (some (mu_z H2)))], H3)) (C := []) rfl trivial ?_
    refine mw_cA (fun _ => rfl) (show mu_is H3 (some (mu_z H2)) 18 from hu3.is) (nd_addU hu3 s3 g200 n3 (by omega) (by omega)) (fun r H4 hq4 => ?_)
    obtain ⟨rfl, a4, c4, hu4, s4, hc4, k4⟩ := hq4
    show mu_W _ mu_m499 (48, [(1, .inr (.inr (some q1))), (0, .inr (.inr (some 169)))], [.inr (.inr (some (mu_z H2)))], H4) _
    refine mw_go mu_g499 (k := 1) (f1 := (49, [(2, .inr (.inr (some (mu_z H2)))), (1, .inr (.inr (some q1))), (0, .inr (.inr (some 169)))], [], H4)) (C := []) rfl trivial ?_
    have hcap : 1 ≤ c4 ∧ 2 ≤ c4 ∧ c4 ≤ 2 * 1 + 2 ∧ _ := hu4.cap
    refine mw_sub (L' := [(2, .inr (.inr (some (mu_z H2)))), (0, .inr (.inr (some 169)))]) (by simp) ?_
    refine rp_term_loop hP hz g200 f (Nat.le_refl _) ((pot n t - pot n t1 - 12) + 2 + (c4 - 2)) F2 H4 t1 a4 c4 [q1] [c1] s4 hu4 ((f2.kp k3 (fun p z => ⟨by omega, z.2⟩) (by omega) (by omega)).kp k4 (fun p z => z) (by omega) (by omega)) ?_ ⟨Nat.succ_pos _, fun _ => hne⟩ hpx
    show _ + 23 * 1 + pot n t1 ≤ pot n t + c4 + 11
    omega
