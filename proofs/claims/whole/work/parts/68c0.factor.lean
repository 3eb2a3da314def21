/-! The reference: factor -/
/-- what path does -/
def pctp (T : Nat → Int32) (n : Nat) : Prop := ∀ (d dep k : Nat) (t : Tok) (F : Nat → Prop) (H : mu_H) (res : Nat ⊕ (Tre × Tok)), k < 79 → pst T n t dep F H → mu_z H + pot n t + 40 ≤ 1000000 → pxp T n k t = some res → mu_TX (mu_D (d + 9)) 501 [.inr (.inr (some 169)), .inr (.inr (some (1000000 + k)))] H (fun H1 => ∃ e, res = .inl e ∧ pbd T n e (pot n t + 30) H H1) (fun v H1 => ∃ c t1 q F1, v = some (.inr (.inr (some q))) ∧ res = .inr (c, t1) ∧ pst T n t1 dep F1 H1 ∧ nd H1 F1 1 q c ∧ pot n t1 + 12 ≤ pot n t ∧ pfr (pot n t - pot n t1 - 12) F F1 H H1)
/-- the number of a Node is written -/
theorem nu.setx {H0 H : mu_H} {F F0 : Nat → Prop} {f q a c s k n dep A : Nat} {x y : Int32} {qs : List Nat} {cs : List Tre} {T : Nat → Int32} {t : Tok} (h : nu H0 H F f q a c s k x qs cs) (hs : pst T n t dep F H) (h2 : 200 < mu_z H0) (hp : pfr A F0 F H0 H) : nu H0 (mu_si H q 3 y) F f q a c s k y qs cs ∧ pst T n t dep F (mu_si H q 3 y) ∧ pfr (A + 0) F0 F H0 (mu_si H q 3 y) := by
  have hk : kep (fun p => p = q) 0 0 H (mu_si H q 3 y) := kep.rf.si (Or.inl rfl)
  obtain ⟨g1, g3, g4, ⟨g5, g6, g7⟩, ⟨g8, g9⟩, ⟨g10, g11⟩, g12, g13⟩ := h
  have hq6 := g1.1.2
  have hW : ∀ p, p = q → ¬ F p ∧ 200 < p ∧ p < 1000000 ∧ mu_r H 169 13 ≠ some p := fun p e => by subst e; exact ⟨g8, by omega, hq6, g12⟩
  have hW2 : ∀ p, p = q → ¬ F p ∧ p < 1000000 := fun p z => ⟨(hW p z).1, (hW p z).2.2.1⟩
  have hne := g1.ne
  obtain ⟨a1, a2, a3, a4, a5, a6, a7, a8⟩ := g1
  refine ⟨⟨⟨a1, a2, a3, a4, ?_, ?_, a7, a8⟩, g3.kp hk hW2, g4.kp hk hW2, ⟨?_, g6, g7⟩, ⟨g8, g9⟩, ⟨g10, g11⟩, g12, g13⟩, hs.kp hk hW, hp.kp hk (fun p e => by subst e; exact ⟨g10, hq6⟩) (by omega) (by omega)⟩
  · rw [mu_i_si, if_neg (fun z => absurd z.2 (by decide))]; exact a5
  · rw [mu_i_si, if_neg (fun z => absurd z.2 (by decide))]; exact a6
  · rw [mu_i_si, if_pos ⟨rfl, rfl⟩]
theorem rp_fac_end {T : Nat → Int32} {n f d dep : Nat} {t : Tok} {F : Nat → Prop} {H : mu_H} {res : Nat ⊕ (Tre × Tok)} {t1 : Tok} {F1 : Nat → Prop} {H1 : mu_H} {q A : Nat} {c : Tre} (g200 : 200 < mu_z H) (hs : pst T n t1 (dep + 1) F1 H1) (hn : nd H1 F1 (f + 1) q c) (p0 : pfr A F F1 H H1) (hA : A + pot n t1 + 12 ≤ pot n t) (hpx : pok c t1 = some res) : mu_W (mu_D (d + 6 * (150 - dep) + 11)) mu_m500 (213, [(1, .inr (.inr (some q))), (0, .inr (.inr (some 169)))], [], H1) (fun r => (∃ H1, r = (.inr 0, H1) ∧ ∃ e, res = .inl e ∧ pbd T n e (pot n t + 30) H H1) ∨ ∃ v H1, r = (.inl v, H1) ∧ ∃ c t1 q F1, v = some (.inr (.inr (some q))) ∧ res = .inr (c, t1) ∧ pst T n t1 dep F1 H1 ∧ nd H1 F1 (f + 1) q c ∧ pot n t1 + 12 ≤ pot n t ∧ pfr (pot n t - pot n t1 - 12) F F1 H H1) := by
  have z0 := p0.z
  have hd : dep < 150 := by have := hs.2.2.2.1.2; omega
  have x11 : mu_i H1 169 12 - (1 : Int32) = nI dep := by rw [hs.f12]; exact nI_pred _
  refine mw_go mu_g500 (k := 5) (f1 := (220, [(1, .inr (.inr (some q))), (0, .inr (.inr (some 169)))], [.inl ((mu_i H1 169 12) - (1 : Int32)), .inr (.inr (some 169))], H1)) (C := [mu_is H1 (some 169) 1]) rfl (show mu_is H1 (some 169) 1 from hs.is) ?_
  refine mw_fr (f' := (220, [(1, .inr (.inr (some q))), (0, .inr (.inr (some 169)))], [.inl (nI dep), .inr (.inr (some 169))], H1)) (by first | (rw [x11]; done) | (rw [x11]; rfl)) ?_
  refine mw_go mu_g500 (k := 1) (f1 := (223, [(1, .inr (.inr (some q))), (0, .inr (.inr (some 169)))], [], (mu_si H1 169 12 (nI dep)))) (C := [mu_is H1 (some 169) 1]) rfl (show mu_is H1 (some 169) 1 from hs.is) ?_
  obtain ⟨s11, f11⟩ := hs.dp (dep' := dep) (by omega)
  obtain ⟨H11, eH11⟩ : ∃ K, K = mu_si H1 169 12 (nI dep) := ⟨_, rfl⟩
  rw [← eH11] at s11 f11 ⊢
  have n11_1 := hn.keep hs f11
  have p11 := p0.tr f11
  have z11 := p11.z
  show mu_W _ mu_m500 (223, [(1, .inr (.inr (some q))), (0, .inr (.inr (some 169)))], [], H11) _
  refine mw_go mu_g500 (k := 1) (f1 := (224, [(1, .inr (.inr (some q))), (0, .inr (.inr (some 169)))], [.inr (.inr (some q))], H11)) (C := []) rfl trivial ?_
  exact mw_of (fun _ => mu_ret rfl trivial (Or.inr ⟨_, _, rfl, _, _, q, F1, rfl, pok_eq hpx, s11, n11_1.le (Nat.le_refl _), by omega, p11.wk (by omega)⟩))
theorem rp_fac_tf {T : Nat → Int32} {n f d dep : Nat} {t : Tok} {F : Nat → Prop} {H : mu_H} {res : Nat ⊕ (Tre × Tok)} {H1 : mu_H} (g200 : 200 < mu_z H) (hs : pst T n t (dep + 1) F H1) (p0 : pfr 0 F F H H1) (hz : mu_z H + pot n t + 40 ≤ 1000000) {j : Nat} (hj : j ∈ [33, 41, 42, 43, 44, 45, 46, 47, 48, 54, 55]) (hj2 : ¬ tis T t (txt j) = 0) (hpx : pok (tmk j 0 [] []) (adv T n t) = some res) : mu_W (mu_D (d + 6 * (150 - dep) + 11)) mu_m500 (92, [(0, .inr (.inr (some 169)))], [], H1) (fun r => (∃ H1, r = (.inr 0, H1) ∧ ∃ e, res = .inl e ∧ pbd T n e (pot n t + 30) H H1) ∨ ∃ v H1, r = (.inl v, H1) ∧ ∃ c t1 q F1, v = some (.inr (.inr (some q))) ∧ res = .inr (c, t1) ∧ pst T n t1 dep F1 H1 ∧ nd H1 F1 (f + 1) q c ∧ pot n t1 + 12 ≤ pot n t ∧ pfr (pot n t - pot n t1 - 12) F F1 H H1) := by
  have z0 := p0.z
  have hd : dep < 150 := by have := hs.2.2.2.1.2; omega
  obtain ⟨sq, w1, w2⟩ := hs.wst hj hj2
  have hj79 : j < 79 := by simp only [List.mem_cons, List.not_mem_nil, or_false] at hj; omega
  refine mw_newo rfl (by decide) (by omega) ?_
  show mu_W _ mu_m500 (95, [(0, .inr (.inr (some 169)))], [.inr (.inr (some (mu_z H1)))], (mu_nw H1 18 0 8)) _
  have kn11 : kep (fun _ => False) (0 + 1) (0 + 8) H1 (mu_nw H1 18 0 8) := kep.rf.nw (by omega)
  have sn11 : pst T n t (dep + 1) F (mu_nw H1 18 0 8) := hs.kp kn11 (fun _ z => z.elim)
  have w3 : mu_r (mu_nw H1 18 0 8) 169 11 = some sq := (kn11.r (Or.inl (by have := hs.1.1; omega)) id 11).trans w1
  refine mw_go mu_g500 (k := 3) (f1 := (100, [(0, .inr (.inr (some 169)))], [.inr (.inr (mu_r (mu_nw H1 18 0 8) 169 11)), .inr (.inr (some (mu_z H1))), .inr (.inr (some (mu_z H1)))], (mu_nw H1 18 0 8))) (C := [mu_is (mu_nw H1 18 0 8) (some 169) 1]) rfl (show mu_is (mu_nw H1 18 0 8) (some 169) 1 from sn11.is) ?_
  refine mw_fr (f' := (100, [(0, .inr (.inr (some 169)))], [.inr (.inr (some sq)), .inr (.inr (some (mu_z H1))), .inr (.inr (some (mu_z H1)))], (mu_nw H1 18 0 8))) (by first | (rw [w3]; done) | (rw [w3]; rfl)) ?_
  refine mw_cV (fun _ => rfl) ⟨rfl, Nat.lt_succ_self _⟩ (nd_newS (H0 := H) (f := f) hs (by omega) (by omega) w2 hj79) (fun H11 q11 => ?_)
  obtain ⟨v11, s11, k11⟩ := q11
  have f11 : pfr (0 + 2) F F H1 H11 := pfr.rf.kp k11 (fun p z => z) (by omega) (by omega)
  have p11 := p0.tr f11
  have z11 := p11.z
  show mu_W _ mu_m500 (103, [(0, .inr (.inr (some 169)))], [.inr (.inr (some (mu_z H1)))], H11) _
  refine mw_go mu_g500 (k := 2) (f1 := (105, [(1, .inr (.inr (some (mu_z H1)))), (0, .inr (.inr (some 169)))], [.inr (.inr (some 169))], H11)) (C := []) rfl trivial ?_
  have st12 : pot n (adv T n t) + ((adv T n t).2.2 - t.2.2 + 4) + 15 ≤ pot n t := pot_step (T := T) s11.tkf.2.2 (tis_ne hj2)
  refine mw_cV (fun _ => rfl) (show mu_is H11 (some 169) 1 from s11.is) (rp_advance s11 (tis_ne hj2) (by omega)) (fun H12 q12 => ?_)
  obtain ⟨F12, s12, f12⟩ := q12
  have f12 : pfr ((adv T n t).2.2 - t.2.2 + 4) F F12 H11 H12 := f12
  have u12 := v11.keep s11 g200 f12
  have p12 := p11.tr f12
  have z12 := p12.z
  have s12 : pst T n (adv T n t) (dep + 1) F12 H12 := s12
  show mu_W _ mu_m500 (108, [(1, .inr (.inr (some (mu_z H1)))), (0, .inr (.inr (some 169)))], [], H12) _
  refine mw_go mu_g500 (k := 1) (f1 := (213, [(1, .inr (.inr (some (mu_z H1)))), (0, .inr (.inr (some 169)))], [], H12)) (C := []) rfl trivial ?_
  obtain ⟨F13, s13, n13, p13⟩ := u12.done s12 g200 p12
  have z13 := p13.z
  refine mw_sub (L' := [(1, .inr (.inr (some (mu_z H1)))), (0, .inr (.inr (some 169)))]) (by simp) ?_
  exact rp_fac_end g200 s13 (n13) p13 (by omega) hpx
/-- factor -/
theorem rp_factor {T : Nat → Int32} {n f : Nat} (hPp : pctp T n) (hP8 : ∀ g, g ≤ f → pct T n g 8 500 12) (hP0 : ∀ g, g ≤ f → pct T n g 0 491 14) (hP9 : ∀ g, g ≤ f → pctb T n g 9 502 12 0) : pct T n (f + 1) 8 500 12 := by
  intro d dep t F H res hs hz hpx
  have hpx : px8 T n (px T n f) dep t = some res := hpx
  unfold px8 at hpx
  have g200 := hs.1.1
  have hd0 := hs.2.2.2.1.2
  have p0 : pfr 0 F F H H := pfr.rf
  have z0 := p0.z
  refine mu_meth (M := mu_m500) rfl rfl ?_
  refine mw_ht (mu_fn_of (show [0].Nodup by decide)) ?_
  refine mw_go mu_g500 (k := 1) (f1 := (1, [(0, .inr (.inr (some 169)))], [.inr (.inr (some 169))], H)) (C := []) rfl trivial ?_
  refine mw_cX (as := []) (o := some 169) (S1 := []) rfl rfl rfl rfl (Nat.le_of_ble_eq_true rfl) (by decide) hs.is rfl (rp_nest hs) (fun H11 e => ?_) (fun v H11 e => ?_)
  · obtain ⟨e1, e2⟩ := e
    have hpx := nst_hi hpx e1
    exact Or.inl ⟨_, rfl, _, hpx, (p0.bd e2).wk (by omega)⟩
  obtain ⟨rfl, d11, e11⟩ := e
  have hpx := nst_lo hpx d11
  obtain ⟨s11, f11⟩ := hs.dp (dep' := dep + 1) (by omega)
  rw [← e11] at s11 f11
  have p11 := p0.tr f11
  have z11 := p11.z
  have s11 : pst T n t (dep + 1) F H11 := s11
  show mu_W _ mu_m500 (4, [(0, .inr (.inr (some 169)))], [], H11) _
  have pp := p11.wk (show 0 + 0 ≤ 0 by decide)
  refine mw_go mu_g500 (k := 2) (f1 := (6, [(1, .inr (.inr none)), (0, .inr (.inr (some 169)))], [], H11)) (C := []) rfl trivial ?_
  refine mw_go mu_g500 (k := 2) (f1 := (9, [(1, .inr (.inr none)), (0, .inr (.inr (some 169)))], [.inr (.inr (some 1000025)), .inr (.inr (some 169))], H11)) (C := []) rfl trivial ?_
  refine mw_cIe (fun _ => rfl) (show mu_is H11 (some 169) 1 from s11.is) (rp_isL (j := 25) s11 (by decide)) ?_
  refine mw_if (P := (tis T t (txt 25)) = 0) (a := 40) (b := 15) (fun _ => rfl) trivial (fun h25 => ?_) (fun h25 => ?_)
  · -- 40
    have hpx := ite_ye hpx h25
    refine mw_go mu_g500 (k := 3) (f1 := (45, [(1, .inr (.inr none)), (0, .inr (.inr (some 169)))], [.inl (3 : Int32), .inl (mu_i H11 169 7)], H11)) (C := [mu_is H11 (some 169) 1]) rfl (show mu_is H11 (some 169) 1 from s11.is) ?_
    refine mw_fr (f' := (45, [(1, .inr (.inr none)), (0, .inr (.inr (some 169)))], [.inl (3 : Int32), .inl t.1], H11)) (by first | (rw [s11.f7]; done) | (rw [s11.f7]; rfl)) ?_
    refine mw_if (P := t.1 = (3 : Int32)) (a := 48) (b := 74) (fun _ => rfl) trivial (fun h3 => ?_) (fun h3 => ?_)
    · -- 48
      have hpx := ite_ye hpx h3
      have ht : t.1 ≠ 0 ∧ t.1 ≠ 1 := by rw [h3]; decide
      refine mw_newo rfl (by decide) (by omega) ?_
      show mu_W _ mu_m500 (51, [(1, .inr (.inr none)), (0, .inr (.inr (some 169)))], [.inr (.inr (some (mu_z H11)))], (mu_nw H11 18 0 8)) _
      refine mw_go mu_g500 (k := 2) (f1 := (55, [(1, .inr (.inr none)), (0, .inr (.inr (some 169)))], [.inr (.inr (some 1000063)), .inr (.inr (some (mu_z H11))), .inr (.inr (some (mu_z H11)))], (mu_nw H11 18 0 8))) (C := []) rfl trivial ?_
      refine mw_cV (fun _ => rfl) ⟨rfl, Nat.lt_succ_self _⟩ (nd_newL (j := 63) (H0 := H) (f := f) s11 (by omega) (by omega) (by decide)) (fun H12 q12 => ?_)
      obtain ⟨v12, s12, k12⟩ := q12
      have f12 : pfr (0 + 2) F F H11 H12 := pfr.rf.kp k12 (fun p z => z) (by omega) (by omega)
      have p12 := p11.tr f12
      have z12 := p12.z
      show mu_W _ mu_m500 (58, [(1, .inr (.inr none)), (0, .inr (.inr (some 169)))], [.inr (.inr (some (mu_z H11)))], H12) _
      have hx : mu_i H12 169 10 = (nuz T n (n + 1) 0 t.2.1).1 := s12.2.2.1.2.1 h3
      refine mw_go mu_g500 (k := 4) (f1 := (64, [(1, .inr (.inr (some (mu_z H11)))), (0, .inr (.inr (some 169)))], [.inl (mu_i H12 169 10), .inr (.inr (some (mu_z H11)))], H12)) (C := [mu_is H12 (some 169) 1]) rfl (show mu_is H12 (some 169) 1 from s12.is) ?_
      refine mw_fr (f' := (64, [(1, .inr (.inr (some (mu_z H11)))), (0, .inr (.inr (some 169)))], [.inl (nuz T n (n + 1) 0 t.2.1).1, .inr (.inr (some (mu_z H11)))], H12)) (by first | (rw [hx]; done) | (rw [hx]; rfl)) ?_
      refine mw_go mu_g500 (k := 1) (f1 := (67, [(1, .inr (.inr (some (mu_z H11)))), (0, .inr (.inr (some 169)))], [], (mu_si H12 (mu_z H11) 3 ((nuz T n (n + 1) 0 t.2.1).1)))) (C := [mu_is H12 (some (mu_z H11)) 18]) rfl (show mu_is H12 (some (mu_z H11)) 18 from v12.is) ?_
      obtain ⟨v13, s13, p13⟩ := nu.setx (y := (nuz T n (n + 1) 0 t.2.1).1) v12 s12 g200 p12
      obtain ⟨H13, eH13⟩ : ∃ K, K = mu_si H12 (mu_z H11) 3 (nuz T n (n + 1) 0 t.2.1).1 := ⟨_, rfl⟩
      rw [← eH13] at v13 s13 p13 ⊢
      have z13 := p13.z
      show mu_W _ mu_m500 (67, [(1, .inr (.inr (some (mu_z H11)))), (0, .inr (.inr (some 169)))], [], H13) _
      refine mw_go mu_g500 (k := 1) (f1 := (68, [(1, .inr (.inr (some (mu_z H11)))), (0, .inr (.inr (some 169)))], [.inr (.inr (some 169))], H13)) (C := []) rfl trivial ?_
      have st14 : pot n (adv T n t) + ((adv T n t).2.2 - t.2.2 + 4) + 15 ≤ pot n t := pot_step (T := T) s13.tkf.2.2 ht
      refine mw_cV (fun _ => rfl) (show mu_is H13 (some 169) 1 from s13.is) (rp_advance s13 ht (by omega)) (fun H14 q14 => ?_)
      obtain ⟨F14, s14, f14⟩ := q14
      have f14 : pfr ((adv T n t).2.2 - t.2.2 + 4) F F14 H13 H14 := f14
      have u14 := v13.keep s13 g200 f14
      have p14 := p13.tr f14
      have z14 := p14.z
      have s14 : pst T n (adv T n t) (dep + 1) F14 H14 := s14
      show mu_W _ mu_m500 (71, [(1, .inr (.inr (some (mu_z H11)))), (0, .inr (.inr (some 169)))], [], H14) _
      refine mw_go mu_g500 (k := 1) (f1 := (213, [(1, .inr (.inr (some (mu_z H11)))), (0, .inr (.inr (some 169)))], [], H14)) (C := []) rfl trivial ?_
      obtain ⟨F15, s15, n15, p15⟩ := u14.done s14 g200 p14
      have z15 := p15.z
      refine mw_sub (L' := [(1, .inr (.inr (some (mu_z H11)))), (0, .inr (.inr (some 169)))]) (by simp) ?_
      exact rp_fac_end g200 s15 (n15) p15 (by omega) hpx
    · -- 74
      have hpx := ite_no hpx h3
      refine mw_go mu_g500 (k := 2) (f1 := (77, [(1, .inr (.inr none)), (0, .inr (.inr (some 169)))], [.inr (.inr (some 1000054)), .inr (.inr (some 169))], H11)) (C := []) rfl trivial ?_
      refine mw_cIe (fun _ => rfl) (show mu_is H11 (some 169) 1 from s11.is) (rp_isL (j := 54) s11 (by decide)) ?_
      refine mw_if (P := (tis T t (txt 54)) = 0) (a := 83) (b := 92) (fun _ => rfl) trivial (fun e54 => ?_) (fun e54 => ?_)
      · -- 83
        refine mw_go mu_g500 (k := 2) (f1 := (86, [(1, .inr (.inr none)), (0, .inr (.inr (some 169)))], [.inr (.inr (some 1000055)), .inr (.inr (some 169))], H11)) (C := []) rfl trivial ?_
        refine mw_cIe (fun _ => rfl) (show mu_is H11 (some 169) 1 from s11.is) (rp_isL (j := 55) s11 (by decide)) ?_
        refine mw_if (P := (tis T t (txt 55)) = 0) (a := 111) (b := 92) (fun _ => rfl) trivial (fun e55 => ?_) (fun e55 => ?_)
        · -- 111
          have ho : one T t [54, 55] = 0 := by
            show (if tis T t (txt 54) = 0 then (if tis T t (txt 55) = 0 then 0 else 55) else 54) = 0
            rw [if_pos e54, if_pos e55]
          have hpx := ite_ye hpx ho
          refine mw_go mu_g500 (k := 2) (f1 := (114, [(1, .inr (.inr none)), (0, .inr (.inr (some 169)))], [.inr (.inr (some 1000033)), .inr (.inr (some 169))], H11)) (C := []) rfl trivial ?_
          refine mw_cIe (fun _ => rfl) (show mu_is H11 (some 169) 1 from s11.is) (rp_isL (j := 33) s11 (by decide)) ?_
          refine mw_if (P := (tis T t (txt 33)) = 0) (a := 146) (b := 120) (fun _ => rfl) trivial (fun h33 => ?_) (fun h33 => ?_)
          · -- 146
            have hpx := ite_ye hpx h33
            refine mw_go mu_g500 (k := 2) (f1 := (149, [(1, .inr (.inr none)), (0, .inr (.inr (some 169)))], [.inr (.inr (some 1000008)), .inr (.inr (some 169))], H11)) (C := []) rfl trivial ?_
            refine mw_cIe (fun _ => rfl) (show mu_is H11 (some 169) 1 from s11.is) (rp_isL (j := 8) s11 (by decide)) ?_
            refine mw_if (P := (tis T t (txt 8)) = 0) (a := 187) (b := 155) (fun _ => rfl) trivial (fun h8 => ?_) (fun h8 => ?_)
            · -- 187
              have hpx := ite_ye hpx h8
              refine mw_go mu_g500 (k := 2) (f1 := (190, [(1, .inr (.inr none)), (0, .inr (.inr (some 169)))], [.inr (.inr (some 1000052)), .inr (.inr (some 169))], H11)) (C := []) rfl trivial ?_
              refine mw_cIe (fun _ => rfl) (show mu_is H11 (some 169) 1 from s11.is) (rp_isL (j := 52) s11 (by decide)) ?_
              refine mw_if (P := (tis T t (txt 52)) = 0) (a := 205) (b := 196) (fun _ => rfl) trivial (fun h52 => ?_) (fun h52 => ?_)
              · -- 205
                have hpx := pbi_id (ite_ye hpx h52)
                refine mw_go mu_g500 (k := 2) (f1 := (209, [(1, .inr (.inr none)), (0, .inr (.inr (some 169)))], [.inr (.inr (some 1000064)), .inr (.inr (some 169))], H11)) (C := []) rfl trivial ?_
                obtain ⟨r12, hr12⟩ := pbi_some hpx
                refine mw_cX (as := [.inr (.inr (some (1000000 + 64)))]) (o := some 169) (S1 := []) rfl rfl rfl rfl (Nat.le_of_ble_eq_true rfl) (by decide) s11.is rfl (hPp _ (dep + 1) 64 _ F H11 r12 (by decide) s11 (by omega) hr12) (fun H12 e => ?_) (fun v H12 e => ?_)
                · obtain ⟨e', e1, e2⟩ := e
                  rw [hr12, e1] at hpx
                  have hpx := pbi_inl hpx
                  exact Or.inl ⟨_, rfl, _, hpx, (p11.bd e2).wk (by omega)⟩
                obtain ⟨cy, ty, qy, F12, rfl, e1, s12, n12, w12, f12⟩ := e
                rw [hr12, e1] at hpx
                have hpx := pbi_inr hpx
                have p12 := p11.tr f12
                have z12 := p12.z
                show mu_W _ mu_m500 (212, [(1, .inr (.inr none)), (0, .inr (.inr (some 169)))], [.inr (.inr (some qy))], H12) _
                refine mw_go mu_g500 (k := 1) (f1 := (213, [(1, .inr (.inr (some qy))), (0, .inr (.inr (some 169)))], [], H12)) (C := []) rfl trivial ?_
                refine mw_sub (L' := [(1, .inr (.inr (some qy))), (0, .inr (.inr (some 169)))]) (by simp) ?_
                exact rp_fac_end g200 s12 (n12.le (by omega)) p12 (by omega) hpx
              · -- 196
                have hpx := pbi_id (ite_no hpx h52)
                refine mw_go mu_g500 (k := 2) (f1 := (198, [(1, .inr (.inr none)), (0, .inr (.inr (some 169)))], [.inl (0 : Int32), .inr (.inr (some 169))], H11)) (C := []) rfl trivial ?_
                obtain ⟨r12, hr12⟩ := pbi_some hpx
                refine mw_cX (as := [.inl (0 : Int32)]) (o := some 169) (S1 := []) rfl rfl rfl rfl (Nat.le_of_ble_eq_true rfl) (by decide) s11.is rfl (show mu_TX (mu_D (d + 6 * (150 - dep) + 11)) _ _ _ _ _ from by rw [show d + 6 * (150 - dep) + 11 = (d + 5) + 6 * (150 - (dep + 1)) + 12 by omega]; exact hP9 f (Nat.le_refl _) (d + 5) (dep + 1) _ F H11 r12 s11 (by omega) hr12) (fun H12 e => ?_) (fun v H12 e => ?_)
                · obtain ⟨e', e1, e2⟩ := e
                  rw [hr12, e1] at hpx
                  have hpx := pbi_inl hpx
                  exact Or.inl ⟨_, rfl, _, hpx, (p11.bd e2).wk (by omega)⟩
                obtain ⟨cy, ty, qy, F12, rfl, e1, s12, n12, w12, f12⟩ := e
                rw [hr12, e1] at hpx
                have hpx := pbi_inr hpx
                have p12 := p11.tr f12
                have z12 := p12.z
                show mu_W _ mu_m500 (201, [(1, .inr (.inr none)), (0, .inr (.inr (some 169)))], [.inr (.inr (some qy))], H12) _
                refine mw_go mu_g500 (k := 2) (f1 := (213, [(1, .inr (.inr (some qy))), (0, .inr (.inr (some 169)))], [], H12)) (C := []) rfl trivial ?_
                refine mw_sub (L' := [(1, .inr (.inr (some qy))), (0, .inr (.inr (some 169)))]) (by simp) ?_
                exact rp_fac_end g200 s12 (n12.up) p12 (by omega) hpx
            · -- 155
              have hpx := ite_no hpx h8
              refine mw_go mu_g500 (k := 1) (f1 := (156, [(1, .inr (.inr none)), (0, .inr (.inr (some 169)))], [.inr (.inr (some 169))], H11)) (C := []) rfl trivial ?_
              have st12 : pot n (adv T n t) + ((adv T n t).2.2 - t.2.2 + 4) + 15 ≤ pot n t := pot_step (T := T) s11.tkf.2.2 (tis_ne h8)
              refine mw_cV (fun _ => rfl) (show mu_is H11 (some 169) 1 from s11.is) (rp_advance s11 (tis_ne h8) (by omega)) (fun H12 q12 => ?_)
              obtain ⟨F12, s12, f12⟩ := q12
              have f12 : pfr ((adv T n t).2.2 - t.2.2 + 4) F F12 H11 H12 := f12
              have p12 := p11.tr f12
              have z12 := p12.z
              have s12 : pst T n (adv T n t) (dep + 1) F12 H12 := s12
              show mu_W _ mu_m500 (159, [(1, .inr (.inr none)), (0, .inr (.inr (some 169)))], [], H12) _
              refine mw_go mu_g500 (k := 1) (f1 := (160, [(1, .inr (.inr none)), (0, .inr (.inr (some 169)))], [.inr (.inr (some 169))], H12)) (C := []) rfl trivial ?_
              refine mw_cX (as := []) (o := some 169) (S1 := []) rfl rfl rfl rfl (Nat.le_of_ble_eq_true rfl) (by decide) s12.is rfl (rp_nest s12) (fun H13 e => ?_) (fun v H13 e => ?_)
              · obtain ⟨e1, e2⟩ := e
                have hpx := nst_hi hpx e1
                exact Or.inl ⟨_, rfl, _, hpx, (p12.bd e2).wk (by omega)⟩
              obtain ⟨rfl, d13, e13⟩ := e
              have hpx := nst_lo hpx d13
              obtain ⟨s13, f13⟩ := s12.dp (dep' := (dep + 1) + 1) (by omega)
              rw [← e13] at s13 f13
              have p13 := p12.tr f13
              have z13 := p13.z
              have s13 : pst T n (adv T n t) (dep + 2) F12 H13 := s13
              show mu_W _ mu_m500 (163, [(1, .inr (.inr none)), (0, .inr (.inr (some 169)))], [], H13) _
              refine mw_go mu_g500 (k := 1) (f1 := (164, [(1, .inr (.inr none)), (0, .inr (.inr (some 169)))], [.inr (.inr (some 169))], H13)) (C := []) rfl trivial ?_
              obtain ⟨r14, hr14⟩ := pbi_some hpx
              refine mw_cX (as := []) (o := some 169) (S1 := []) rfl rfl rfl rfl (Nat.le_of_ble_eq_true rfl) (by decide) s13.is rfl (show mu_TX (mu_D (d + 6 * (150 - dep) + 11)) _ _ _ _ _ from by rw [show d + 6 * (150 - dep) + 11 = (d + 9) + 6 * (150 - (dep + 2)) + 14 by omega]; exact hP0 f (Nat.le_refl _) (d + 9) (dep + 2) _ F12 H13 r14 s13 (by omega) hr14) (fun H14 e => ?_) (fun v H14 e => ?_)
              · obtain ⟨e', e1, e2⟩ := e
                rw [hr14, e1] at hpx
                have hpx := pbi_inl hpx
                exact Or.inl ⟨_, rfl, _, hpx, (p13.bd e2).wk (by omega)⟩
              obtain ⟨cy, ty, qy, F14, rfl, e1, s14, n14, w14, f14⟩ := e
              rw [hr14, e1] at hpx
              have hpx := pbi_inr hpx
              have p14 := p13.tr f14
              have z14 := p14.z
              show mu_W _ mu_m500 (167, [(1, .inr (.inr none)), (0, .inr (.inr (some 169)))], [.inr (.inr (some qy))], H14) _
              refine mw_go mu_g500 (k := 1) (f1 := (168, [(1, .inr (.inr (some qy))), (0, .inr (.inr (some 169)))], [], H14)) (C := []) rfl trivial ?_
              have x15 : mu_i H14 169 12 - (1 : Int32) = nI (dep + 1) := by rw [s14.f12]; exact nI_pred _
              refine mw_go mu_g500 (k := 5) (f1 := (175, [(1, .inr (.inr (some qy))), (0, .inr (.inr (some 169)))], [.inl ((mu_i H14 169 12) - (1 : Int32)), .inr (.inr (some 169))], H14)) (C := [mu_is H14 (some 169) 1]) rfl (show mu_is H14 (some 169) 1 from s14.is) ?_
              refine mw_fr (f' := (175, [(1, .inr (.inr (some qy))), (0, .inr (.inr (some 169)))], [.inl (nI (dep + 1)), .inr (.inr (some 169))], H14)) (by first | (rw [x15]; done) | (rw [x15]; rfl)) ?_
              refine mw_go mu_g500 (k := 1) (f1 := (178, [(1, .inr (.inr (some qy))), (0, .inr (.inr (some 169)))], [], (mu_si H14 169 12 (nI (dep + 1))))) (C := [mu_is H14 (some 169) 1]) rfl (show mu_is H14 (some 169) 1 from s14.is) ?_
              obtain ⟨s15, f15⟩ := s14.dp (dep' := (dep + 1)) (by omega)
              obtain ⟨H15, eH15⟩ : ∃ K, K = mu_si H14 169 12 (nI (dep + 1)) := ⟨_, rfl⟩
              rw [← eH15] at s15 f15 ⊢
              have n15_1 := n14.keep s14 f15
              have p15 := p14.tr f15
              have z15 := p15.z
              show mu_W _ mu_m500 (178, [(1, .inr (.inr (some qy))), (0, .inr (.inr (some 169)))], [], H15) _
              refine mw_go mu_g500 (k := 2) (f1 := (181, [(1, .inr (.inr (some qy))), (0, .inr (.inr (some 169)))], [.inr (.inr (some 1000009)), .inr (.inr (some 169))], H15)) (C := []) rfl trivial ?_
              refine mw_cX (as := [.inr (.inr (some (1000000 + 9)))]) (o := some 169) (S1 := []) rfl rfl rfl rfl (Nat.le_of_ble_eq_true rfl) (by decide) s15.is rfl (rp_expect s15 (by omega) (j := 9) (by decide)) (fun H16 e => ?_) (fun v H16 e => ?_)
              · obtain ⟨e1, e2⟩ := e
                have hpx := exq_no hpx e1
                exact Or.inl ⟨_, rfl, _, hpx, (p15.bd e2).wk (by omega)⟩
              obtain ⟨rfl, e16, F16, s16, f16⟩ := e
              have hpx := exq_ye hpx e16
              have st16 : pot n (adv T n ty) + ((adv T n ty).2.2 - ty.2.2 + 4) + 15 ≤ pot n ty := pot_step (T := T) s15.tkf.2.2 (tis_ne e16)
              have f16 : pfr ((adv T n ty).2.2 - ty.2.2 + 4) F14 F16 H15 H16 := f16
              have n16_1 := n15_1.keep s15 f16
              have p16 := p15.tr f16
              have z16 := p16.z
              have s16 : pst T n (adv T n ty) (dep + 1) F16 H16 := s16
              show mu_W _ mu_m500 (184, [(1, .inr (.inr (some qy))), (0, .inr (.inr (some 169)))], [], H16) _
              refine mw_go mu_g500 (k := 1) (f1 := (213, [(1, .inr (.inr (some qy))), (0, .inr (.inr (some 169)))], [], H16)) (C := []) rfl trivial ?_
              refine mw_sub (L' := [(1, .inr (.inr (some qy))), (0, .inr (.inr (some 169)))]) (by simp) ?_
              exact rp_fac_end g200 s16 (n16_1.up) p16 (by omega) hpx
          · -- 120
            have hpx := ite_no hpx h33
            refine mw_go mu_g500 (k := 1) (f1 := (121, [(1, .inr (.inr none)), (0, .inr (.inr (some 169)))], [.inr (.inr (some 169))], H11)) (C := []) rfl trivial ?_
            have st12 : pot n (adv T n t) + ((adv T n t).2.2 - t.2.2 + 4) + 15 ≤ pot n t := pot_step (T := T) s11.tkf.2.2 (tis_ne h33)
            refine mw_cV (fun _ => rfl) (show mu_is H11 (some 169) 1 from s11.is) (rp_advance s11 (tis_ne h33) (by omega)) (fun H12 q12 => ?_)
            obtain ⟨F12, s12, f12⟩ := q12
            have f12 : pfr ((adv T n t).2.2 - t.2.2 + 4) F F12 H11 H12 := f12
            have p12 := p11.tr f12
            have z12 := p12.z
            have s12 : pst T n (adv T n t) (dep + 1) F12 H12 := s12
            show mu_W _ mu_m500 (124, [(1, .inr (.inr none)), (0, .inr (.inr (some 169)))], [], H12) _
            refine mw_go mu_g500 (k := 2) (f1 := (127, [(1, .inr (.inr none)), (0, .inr (.inr (some 169)))], [.inr (.inr (some 1000008)), .inr (.inr (some 169))], H12)) (C := []) rfl trivial ?_
            refine mw_cX (as := [.inr (.inr (some (1000000 + 8)))]) (o := some 169) (S1 := []) rfl rfl rfl rfl (Nat.le_of_ble_eq_true rfl) (by decide) s12.is rfl (rp_expect s12 (by omega) (j := 8) (by decide)) (fun H13 e => ?_) (fun v H13 e => ?_)
            · obtain ⟨e1, e2⟩ := e
              have hpx := exq_no hpx e1
              exact Or.inl ⟨_, rfl, _, hpx, (p12.bd e2).wk (by omega)⟩
            obtain ⟨rfl, e13, F13, s13, f13⟩ := e
            have hpx := exq_ye hpx e13
            have st13 : pot n (adv T n (adv T n t)) + ((adv T n (adv T n t)).2.2 - (adv T n t).2.2 + 4) + 15 ≤ pot n (adv T n t) := pot_step (T := T) s12.tkf.2.2 (tis_ne e13)
            have f13 : pfr ((adv T n (adv T n t)).2.2 - (adv T n t).2.2 + 4) F12 F13 H12 H13 := f13
            have p13 := p12.tr f13
            have z13 := p13.z
            have s13 : pst T n (adv T n (adv T n t)) (dep + 1) F13 H13 := s13
            show mu_W _ mu_m500 (130, [(1, .inr (.inr none)), (0, .inr (.inr (some 169)))], [], H13) _
            refine mw_go mu_g500 (k := 2) (f1 := (133, [(1, .inr (.inr none)), (0, .inr (.inr (some 169)))], [.inr (.inr (some 1000033)), .inr (.inr (some 169))], H13)) (C := []) rfl trivial ?_
            obtain ⟨r14, hr14⟩ := pbi_some hpx
            refine mw_cX (as := [.inr (.inr (some (1000000 + 33)))]) (o := some 169) (S1 := []) rfl rfl rfl rfl (Nat.le_of_ble_eq_true rfl) (by decide) s13.is rfl (hPp _ (dep + 1) 33 _ F13 H13 r14 (by decide) s13 (by omega) hr14) (fun H14 e => ?_) (fun v H14 e => ?_)
            · obtain ⟨e', e1, e2⟩ := e
              rw [hr14, e1] at hpx
              have hpx := pbi_inl hpx
              exact Or.inl ⟨_, rfl, _, hpx, (p13.bd e2).wk (by omega)⟩
            obtain ⟨cy, ty, qy, F14, rfl, e1, s14, n14, w14, f14⟩ := e
            rw [hr14, e1] at hpx
            have hpx := pbi_inr hpx
            have p14 := p13.tr f14
            have z14 := p14.z
            show mu_W _ mu_m500 (136, [(1, .inr (.inr none)), (0, .inr (.inr (some 169)))], [.inr (.inr (some qy))], H14) _
            refine mw_go mu_g500 (k := 1) (f1 := (137, [(1, .inr (.inr (some qy))), (0, .inr (.inr (some 169)))], [], H14)) (C := []) rfl trivial ?_
            refine mw_go mu_g500 (k := 2) (f1 := (140, [(1, .inr (.inr (some qy))), (0, .inr (.inr (some 169)))], [.inr (.inr (some 1000009)), .inr (.inr (some 169))], H14)) (C := []) rfl trivial ?_
            refine mw_cX (as := [.inr (.inr (some (1000000 + 9)))]) (o := some 169) (S1 := []) rfl rfl rfl rfl (Nat.le_of_ble_eq_true rfl) (by decide) s14.is rfl (rp_expect s14 (by omega) (j := 9) (by decide)) (fun H15 e => ?_) (fun v H15 e => ?_)
            · obtain ⟨e1, e2⟩ := e
              have hpx := exq_no hpx e1
              exact Or.inl ⟨_, rfl, _, hpx, (p14.bd e2).wk (by omega)⟩
            obtain ⟨rfl, e15, F15, s15, f15⟩ := e
            have hpx := exq_ye hpx e15
            have st15 : pot n (adv T n ty) + ((adv T n ty).2.2 - ty.2.2 + 4) + 15 ≤ pot n ty := pot_step (T := T) s14.tkf.2.2 (tis_ne e15)
            have f15 : pfr ((adv T n ty).2.2 - ty.2.2 + 4) F14 F15 H14 H15 := f15
            have n15_1 := n14.keep s14 f15
            have p15 := p14.tr f15
            have z15 := p15.z
            have s15 : pst T n (adv T n ty) (dep + 1) F15 H15 := s15
            show mu_W _ mu_m500 (143, [(1, .inr (.inr (some qy))), (0, .inr (.inr (some 169)))], [], H15) _
            refine mw_go mu_g500 (k := 1) (f1 := (213, [(1, .inr (.inr (some qy))), (0, .inr (.inr (some 169)))], [], H15)) (C := []) rfl trivial ?_
            refine mw_sub (L' := [(1, .inr (.inr (some qy))), (0, .inr (.inr (some 169)))]) (by simp) ?_
            exact rp_fac_end g200 s15 (n15_1.le (by omega)) p15 (by omega) hpx
        · -- 92
          have ho : one T t [54, 55] = 55 := by
            show (if tis T t (txt 54) = 0 then (if tis T t (txt 55) = 0 then 0 else 55) else 54) = 55
            rw [if_pos e54, if_neg e55]
          have hpx := ite_no hpx (show ¬ one T t [54, 55] = 0 by rw [ho]; decide)
          rw [ho] at hpx
          refine mw_sub (L' := [(0, .inr (.inr (some 169)))]) (by simp) ?_
          exact rp_fac_tf g200 s11 pp hz (j := 55) (by decide) e55 hpx
      · -- 92
        have ho : one T t [54, 55] = 54 := by
          show (if tis T t (txt 54) = 0 then (if tis T t (txt 55) = 0 then 0 else 55) else 54) = 54
          rw [if_neg e54]
        have hpx := ite_no hpx (show ¬ one T t [54, 55] = 0 by rw [ho]; decide)
        rw [ho] at hpx
        refine mw_sub (L' := [(0, .inr (.inr (some 169)))]) (by simp) ?_
        exact rp_fac_tf g200 s11 pp hz (j := 54) (by decide) e54 hpx
  · -- 15
    have hpx := ite_no hpx h25
    refine mw_go mu_g500 (k := 1) (f1 := (16, [(1, .inr (.inr none)), (0, .inr (.inr (some 169)))], [.inr (.inr (some 169))], H11)) (C := []) rfl trivial ?_
    have st12 : pot n (adv T n t) + ((adv T n t).2.2 - t.2.2 + 4) + 15 ≤ pot n t := pot_step (T := T) s11.tkf.2.2 (tis_ne h25)
    refine mw_cV (fun _ => rfl) (show mu_is H11 (some 169) 1 from s11.is) (rp_advance s11 (tis_ne h25) (by omega)) (fun H12 q12 => ?_)
    obtain ⟨F12, s12, f12⟩ := q12
    have f12 : pfr ((adv T n t).2.2 - t.2.2 + 4) F F12 H11 H12 := f12
    have p12 := p11.tr f12
    have z12 := p12.z
    have s12 : pst T n (adv T n t) (dep + 1) F12 H12 := s12
    show mu_W _ mu_m500 (19, [(1, .inr (.inr none)), (0, .inr (.inr (some 169)))], [], H12) _
    refine mw_newo rfl (by decide) (by omega) ?_
    show mu_W _ mu_m500 (22, [(1, .inr (.inr none)), (0, .inr (.inr (some 169)))], [.inr (.inr (some (mu_z H12)))], (mu_nw H12 18 0 8)) _
    refine mw_go mu_g500 (k := 2) (f1 := (26, [(1, .inr (.inr none)), (0, .inr (.inr (some 169)))], [.inr (.inr (some 1000065)), .inr (.inr (some (mu_z H12))), .inr (.inr (some (mu_z H12)))], (mu_nw H12 18 0 8))) (C := []) rfl trivial ?_
    refine mw_cV (fun _ => rfl) ⟨rfl, Nat.lt_succ_self _⟩ (nd_newL (j := 65) (H0 := H) (f := f) s12 (by omega) (by omega) (by decide)) (fun H13 q13 => ?_)
    obtain ⟨v13, s13, k13⟩ := q13
    have f13 : pfr (0 + 2) F12 F12 H12 H13 := pfr.rf.kp k13 (fun p z => z) (by omega) (by omega)
    have p13 := p12.tr f13
    have z13 := p13.z
    show mu_W _ mu_m500 (29, [(1, .inr (.inr none)), (0, .inr (.inr (some 169)))], [.inr (.inr (some (mu_z H12)))], H13) _
    refine mw_go mu_g500 (k := 1) (f1 := (30, [(1, .inr (.inr none)), (0, .inr (.inr (some 169)))], [.inr (.inr (some 169)), .inr (.inr (some (mu_z H12)))], H13)) (C := []) rfl trivial ?_
    obtain ⟨r14, hr14⟩ := pbi_some hpx
    refine mw_cX (as := []) (o := some 169) (S1 := [.inr (.inr (some (mu_z H12)))]) rfl rfl rfl rfl (Nat.le_of_ble_eq_true rfl) (by decide) s13.is rfl (show mu_TX (mu_D (d + 6 * (150 - dep) + 11)) _ _ _ _ _ from by rw [show d + 6 * (150 - dep) + 11 = (d + 5) + 6 * (150 - (dep + 1)) + 12 by omega]; exact hP8 f (Nat.le_refl _) (d + 5) (dep + 1) _ F12 H13 r14 s13 (by omega) hr14) (fun H14 e => ?_) (fun v H14 e => ?_)
    · obtain ⟨e', e1, e2⟩ := e
      rw [hr14, e1] at hpx
      have hpx := pbi_inl hpx
      exact Or.inl ⟨_, rfl, _, hpx, (p13.bd e2).wk (by omega)⟩
    obtain ⟨cy, ty, qy, F14, rfl, e1, s14, n14, w14, f14⟩ := e
    rw [hr14, e1] at hpx
    have hpx := pbi_inr hpx
    have u14 := v13.keep s13 g200 f14
    have p14 := p13.tr f14
    have z14 := p14.z
    show mu_W _ mu_m500 (33, [(1, .inr (.inr none)), (0, .inr (.inr (some 169)))], [.inr (.inr (some qy)), .inr (.inr (some (mu_z H12)))], H14) _
    have cp15 := u14.cap
    refine mw_cA (fun _ => rfl) (show mu_is H14 (some (mu_z H12)) 18 from u14.is) (nd_addU u14 s14 g200 (n14.le (by omega)) (by omega) (by omega)) (fun r H15 q15 => ?_)
    obtain ⟨rfl, a15, c_15, v15, s15, hc15, k15⟩ := q15
    have cq15 := v15.cap
    simp only [List.length_append, List.length_cons, List.length_nil] at cp15 cq15
    have p15 := p14.kp k15 (fun p z => z) (by omega) (by omega)
    have z15 := p15.z
    show mu_W _ mu_m500 (36, [(1, .inr (.inr none)), (0, .inr (.inr (some 169)))], [.inr (.inr (some (mu_z H12)))], H15) _
    refine mw_go mu_g500 (k := 2) (f1 := (213, [(1, .inr (.inr (some (mu_z H12)))), (0, .inr (.inr (some 169)))], [], H15)) (C := []) rfl trivial ?_
    obtain ⟨F16, s16, n16, p16⟩ := v15.done s15 g200 p15
    have z16 := p16.z
    refine mw_sub (L' := [(1, .inr (.inr (some (mu_z H12)))), (0, .inr (.inr (some 169)))]) (by simp) ?_
    exact rp_fac_end g200 s16 (n16) p16 (by omega) hpx
