/-! The reference: prefix -/
theorem nst_hi {dep : Nat} {t : Tok} {k : Nat → PR} {res : Nat ⊕ (Tre × Tok)} (h : nst dep t k = some res) (hd : dep = 150) : res = .inl t.2.1 := by
  unfold nst at h
  rw [if_neg (by omega)] at h
  exact per_eq h
theorem nst_lo {dep : Nat} {t : Tok} {k : Nat → PR} {res : Nat ⊕ (Tre × Tok)} (h : nst dep t k = some res) (hd : dep < 150) : k (dep + 1) = some res := by
  unfold nst at h
  rw [if_pos hd] at h
  exact h
theorem exq_no {T : Nat → Int32} {n j : Nat} {t : Tok} {k : Tok → PR} {res : Nat ⊕ (Tre × Tok)} (h : exq T n j t k = some res) (h0 : tis T t (txt j) = 0) : res = .inl t.2.1 := by
  unfold exq at h
  rw [if_pos h0] at h
  exact per_eq h
theorem exq_ye {T : Nat → Int32} {n j : Nat} {t : Tok} {k : Tok → PR} {res : Nat ⊕ (Tre × Tok)} (h : exq T n j t k = some res) (h0 : ¬ tis T t (txt j) = 0) : k (adv T n t) = some res := by
  unfold exq at h
  rw [if_neg h0] at h
  exact h
theorem pbi_inr {k : Tre → Tok → PR} {res : Nat ⊕ (Tre × Tok)} {c : Tre} {t : Tok} (h : pbi (some (.inr (c, t))) k = some res) : k c t = some res := h
theorem pbi_id {r : PR} {res : Nat ⊕ (Tre × Tok)} (h : r = some res) : pbi r pok = some res := by
  rw [h]
  rcases res with e | ⟨c, t⟩
  · rfl
  · rfl
theorem wrd_ns : ∀ j, j ∈ [33, 41, 42, 43, 44, 45, 46, 47, 48, 54, 55] → ∀ s, s < 27 → ¬ sgt s = txt j := by decide +kernel
/-- a token that is a kept word is a word -/
theorem tis_wd {T : Nat → Int32} {n j : Nat} {t : Tok} (hf : tkf n t) (hj : j ∈ [33, 41, 42, 43, 44, 45, 46, 47, 48, 54, 55]) (h : ¬ tis T t (txt j) = 0) : t.1 = 2 ∧ slc T t.2.1 t.2.2 = txt j := by
  unfold tis at h
  by_cases e1 : t.1 = 2
  · rw [if_pos e1] at h
    exact ⟨e1, Decidable.byContradiction (fun c => h (if_neg c))⟩
  · rw [if_neg e1] at h
    by_cases e2 : t.1 < 10
    · rw [if_pos e2] at h; exact absurd rfl h
    · rw [if_neg e2, if_neg (wrd_ns j hj _ (hf.sg e2).1)] at h; exact absurd rfl h
/-- the word of a token, as a String that stays -/
theorem pst.wst {T : Nat → Int32} {n dep j : Nat} {t : Tok} {F : Nat → Prop} {H : mu_H} (h : pst T n t dep F H) (hj : j ∈ [33, 41, 42, 43, 44, 45, 46, 47, 48, 54, 55]) (h2 : ¬ tis T t (txt j) = 0) : ∃ q, mu_r H 169 11 = some q ∧ stf H F q (txt j) := by
  obtain ⟨e1, e2⟩ := tis_wd h.tkf hj h2
  obtain ⟨q, w, b1, b2, b3, b4, b5⟩ := h.wd e1
  rw [e2] at b5
  exact ⟨q, b1, b5, Or.inr ⟨b2, w, b3, b4⟩, by rw [← e2]; exact h.sl⟩
theorem rp_pre_end {T : Nat → Int32} {n f d dep : Nat} {t : Tok} {F : Nat → Prop} {H : mu_H} {res : Nat ⊕ (Tre × Tok)} {t1 : Tok} {F1 : Nat → Prop} {H1 : mu_H} {q A : Nat} {c : Tre} (g200 : 200 < mu_z H) (hs : pst T n t1 (dep + 1) F1 H1) (hn : nd H1 F1 (f + 1) q c) (p0 : pfr A F F1 H H1) (hA : A + pot n t1 + 12 ≤ pot n t) (hpx : pok c t1 = some res) : mu_W (mu_D (d + 6 * (150 - dep) + 9)) mu_m495 (225, [(1, .inr (.inr (some q))), (0, .inr (.inr (some 169)))], [], H1) (fun r => (∃ H1, r = (.inr 0, H1) ∧ ∃ e, res = .inl e ∧ pbd T n e (pot n t + 30) H H1) ∨ ∃ v H1, r = (.inl v, H1) ∧ ∃ c t1 q F1, v = some (.inr (.inr (some q))) ∧ res = .inr (c, t1) ∧ pst T n t1 dep F1 H1 ∧ nd H1 F1 (f + 1) q c ∧ pot n t1 + 12 ≤ pot n t ∧ pfr (pot n t - pot n t1 - 12) F F1 H H1) := by
  have z0 := p0.z
  have hd : dep < 150 := by have := hs.2.2.2.1.2; omega
  have x11 : mu_i H1 169 12 - (1 : Int32) = nI dep := by rw [hs.f12]; exact nI_pred _
  refine mw_go mu_g495 (k := 5) (f1 := (232, [(1, .inr (.inr (some q))), (0, .inr (.inr (some 169)))], [.inl ((mu_i H1 169 12) - (1 : Int32)), .inr (.inr (some 169))], H1)) (C := [mu_is H1 (some 169) 1]) rfl (show mu_is H1 (some 169) 1 from hs.is) ?_
  refine mw_fr (f' := (232, [(1, .inr (.inr (some q))), (0, .inr (.inr (some 169)))], [.inl (nI dep), .inr (.inr (some 169))], H1)) (by first | (rw [x11]; done) | (rw [x11]; rfl)) ?_
  refine mw_go mu_g495 (k := 1) (f1 := (235, [(1, .inr (.inr (some q))), (0, .inr (.inr (some 169)))], [], (mu_si H1 169 12 (nI dep)))) (C := [mu_is H1 (some 169) 1]) rfl (show mu_is H1 (some 169) 1 from hs.is) ?_
  obtain ⟨s11, f11⟩ := hs.dp (dep' := dep) (by omega)
  obtain ⟨H11, eH11⟩ : ∃ K, K = mu_si H1 169 12 (nI dep) := ⟨_, rfl⟩
  rw [← eH11] at s11 f11 ⊢
  have n11_1 := hn.keep hs f11
  have p11 := p0.tr f11
  have z11 := p11.z
  show mu_W _ mu_m495 (235, [(1, .inr (.inr (some q))), (0, .inr (.inr (some 169)))], [], H11) _
  refine mw_go mu_g495 (k := 1) (f1 := (236, [(1, .inr (.inr (some q))), (0, .inr (.inr (some 169)))], [.inr (.inr (some q))], H11)) (C := []) rfl trivial ?_
  exact mw_of (fun _ => mu_ret rfl trivial (Or.inr ⟨_, _, rfl, _, _, q, F1, rfl, pok_eq hpx, s11, n11_1.le (Nat.le_refl _), by omega, p11.wk (by omega)⟩))
theorem rp_pre_un {T : Nat → Int32} {n f d dep : Nat} {t : Tok} {F : Nat → Prop} {H : mu_H} {res : Nat ⊕ (Tre × Tok)} {H1 : mu_H} (hP : ∀ g, g ≤ f → pct T n g 4 495 10) (g200 : 200 < mu_z H) (hs : pst T n t (dep + 1) F H1) (p0 : pfr 0 F F H H1) (hz : mu_z H + pot n t + 40 ≤ 1000000) {j : Nat} (hj : j ∈ [33, 41, 42, 43, 44, 45, 46, 47, 48, 54, 55]) (hj2 : ¬ tis T t (txt j) = 0) (hpx : pbi (px T n f 4 (dep + 1) [] (adv T n t)) (fun c t1 => pok (tmk j 0 [] [c]) t1) = some res) : mu_W (mu_D (d + 6 * (150 - dep) + 9)) mu_m495 (91, [(0, .inr (.inr (some 169)))], [], H1) (fun r => (∃ H1, r = (.inr 0, H1) ∧ ∃ e, res = .inl e ∧ pbd T n e (pot n t + 30) H H1) ∨ ∃ v H1, r = (.inl v, H1) ∧ ∃ c t1 q F1, v = some (.inr (.inr (some q))) ∧ res = .inr (c, t1) ∧ pst T n t1 dep F1 H1 ∧ nd H1 F1 (f + 1) q c ∧ pot n t1 + 12 ≤ pot n t ∧ pfr (pot n t - pot n t1 - 12) F F1 H H1) := by
  have z0 := p0.z
  have hd : dep < 150 := by have := hs.2.2.2.1.2; omega
  obtain ⟨sq, w1, w2⟩ := hs.wst hj hj2
  have hj79 : j < 79 := by simp only [List.mem_cons, List.not_mem_nil, or_false] at hj; omega
  refine mw_newo rfl (by decide) (by omega) ?_
  show mu_W _ mu_m495 (94, [(0, .inr (.inr (some 169)))], [.inr (.inr (some (mu_z H1)))], (mu_nw H1 18 0 8)) _
  have kn11 : kep (fun _ => False) (0 + 1) (0 + 8) H1 (mu_nw H1 18 0 8) := kep.rf.nw (by omega)
  have sn11 : pst T n t (dep + 1) F (mu_nw H1 18 0 8) := hs.kp kn11 (fun _ z => z.elim)
  have w3 : mu_r (mu_nw H1 18 0 8) 169 11 = some sq := (kn11.r (Or.inl (by have := hs.1.1; omega)) id 11).trans w1
  refine mw_go mu_g495 (k := 3) (f1 := (99, [(0, .inr (.inr (some 169)))], [.inr (.inr (mu_r (mu_nw H1 18 0 8) 169 11)), .inr (.inr (some (mu_z H1))), .inr (.inr (some (mu_z H1)))], (mu_nw H1 18 0 8))) (C := [mu_is (mu_nw H1 18 0 8) (some 169) 1]) rfl (show mu_is (mu_nw H1 18 0 8) (some 169) 1 from sn11.is) ?_
  refine mw_fr (f' := (99, [(0, .inr (.inr (some 169)))], [.inr (.inr (some sq)), .inr (.inr (some (mu_z H1))), .inr (.inr (some (mu_z H1)))], (mu_nw H1 18 0 8))) (by first | (rw [w3]; done) | (rw [w3]; rfl)) ?_
  refine mw_cV (fun _ => rfl) ⟨rfl, Nat.lt_succ_self _⟩ (nd_newS (H0 := H) (f := f) hs (by omega) (by omega) w2 hj79) (fun H11 q11 => ?_)
  obtain ⟨v11, s11, k11⟩ := q11
  have f11 : pfr (0 + 2) F F H1 H11 := pfr.rf.kp k11 (fun p z => z) (by omega) (by omega)
  have p11 := p0.tr f11
  have z11 := p11.z
  show mu_W _ mu_m495 (102, [(0, .inr (.inr (some 169)))], [.inr (.inr (some (mu_z H1)))], H11) _
  refine mw_go mu_g495 (k := 2) (f1 := (104, [(1, .inr (.inr (some (mu_z H1)))), (0, .inr (.inr (some 169)))], [.inr (.inr (some 169))], H11)) (C := []) rfl trivial ?_
  have st12 : pot n (adv T n t) + ((adv T n t).2.2 - t.2.2 + 4) + 15 ≤ pot n t := pot_step (T := T) s11.tkf.2.2 (tis_ne hj2)
  refine mw_cV (fun _ => rfl) (show mu_is H11 (some 169) 1 from s11.is) (rp_advance s11 (tis_ne hj2) (by omega)) (fun H12 q12 => ?_)
  obtain ⟨F12, s12, f12⟩ := q12
  have f12 : pfr ((adv T n t).2.2 - t.2.2 + 4) F F12 H11 H12 := f12
  have u12 := v11.keep s11 g200 f12
  have p12 := p11.tr f12
  have z12 := p12.z
  have s12 : pst T n (adv T n t) (dep + 1) F12 H12 := s12
  show mu_W _ mu_m495 (107, [(1, .inr (.inr (some (mu_z H1)))), (0, .inr (.inr (some 169)))], [], H12) _
  refine mw_go mu_g495 (k := 2) (f1 := (109, [(1, .inr (.inr (some (mu_z H1)))), (0, .inr (.inr (some 169)))], [.inr (.inr (some 169)), .inr (.inr (some (mu_z H1)))], H12)) (C := []) rfl trivial ?_
  obtain ⟨r13, hr13⟩ := pbi_some hpx
  refine mw_cX (as := []) (o := some 169) (S1 := [.inr (.inr (some (mu_z H1)))]) rfl rfl rfl rfl (Nat.le_of_ble_eq_true rfl) (by decide) s12.is rfl (show mu_TX (mu_D (d + 6 * (150 - dep) + 9)) _ _ _ _ _ from by rw [show d + 6 * (150 - dep) + 9 = (d + 5) + 6 * (150 - (dep + 1)) + 10 by omega]; exact hP f (Nat.le_refl _) (d + 5) (dep + 1) _ F12 H12 r13 s12 (by omega) hr13) (fun H13 e => ?_) (fun v H13 e => ?_)
  · obtain ⟨e', e1, e2⟩ := e
    rw [hr13, e1] at hpx
    have hpx := pbi_inl hpx
    exact Or.inl ⟨_, rfl, _, hpx, (p12.bd e2).wk (by omega)⟩
  obtain ⟨cy, ty, qy, F13, rfl, e1, s13, n13, w13, f13⟩ := e
  rw [hr13, e1] at hpx
  have hpx := pbi_inr hpx
  have u13 := u12.keep s12 g200 f13
  have p13 := p12.tr f13
  have z13 := p13.z
  show mu_W _ mu_m495 (112, [(1, .inr (.inr (some (mu_z H1)))), (0, .inr (.inr (some 169)))], [.inr (.inr (some qy)), .inr (.inr (some (mu_z H1)))], H13) _
  have cp14 := u13.cap
  refine mw_cA (fun _ => rfl) (show mu_is H13 (some (mu_z H1)) 18 from u13.is) (nd_addU u13 s13 g200 (n13.le (by omega)) (by omega) (by omega)) (fun r H14 q14 => ?_)
  obtain ⟨rfl, a14, c_14, v14, s14, hc14, k14⟩ := q14
  have cq14 := v14.cap
  simp only [List.length_append, List.length_cons, List.length_nil] at cp14 cq14
  have p14 := p13.kp k14 (fun p z => z) (by omega) (by omega)
  have z14 := p14.z
  show mu_W _ mu_m495 (115, [(1, .inr (.inr (some (mu_z H1)))), (0, .inr (.inr (some 169)))], [.inr (.inr (some (mu_z H1)))], H14) _
  refine mw_go mu_g495 (k := 2) (f1 := (225, [(1, .inr (.inr (some (mu_z H1)))), (0, .inr (.inr (some 169)))], [], H14)) (C := []) rfl trivial ?_
  obtain ⟨F15, s15, n15, p15⟩ := v14.done s14 g200 p14
  have z15 := p15.z
  refine mw_sub (L' := [(1, .inr (.inr (some (mu_z H1)))), (0, .inr (.inr (some 169)))]) (by simp) ?_
  exact rp_pre_end g200 s15 n15 p15 (by omega) hpx
theorem rp_pre_until {T : Nat → Int32} {n f d dep : Nat} {t : Tok} {F : Nat → Prop} {H : mu_H} {res : Nat ⊕ (Tre × Tok)} {H1 : mu_H} (hP0 : ∀ g, g ≤ f → pct T n g 0 491 14) (g200 : 200 < mu_z H) (hs : pst T n t (dep + 1) F H1) (p0 : pfr 0 F F H H1) (hz : mu_z H + pot n t + 40 ≤ 1000000) {j : Nat} (hj : j ∈ [33, 41, 42, 43, 44, 45, 46, 47, 48, 54, 55]) (hj2 : ¬ tis T t (txt j) = 0) (hpx : (exq T n 12 (adv T n t) fun t2 => nst (dep + 1) t2 fun dep2 => pbi (px T n f 0 dep2 [] t2) fun c t3 => exq T n 49 t3 fun t4 => nst (dep + 1) t4 fun dep3 => pbi (px T n f 0 dep3 [] t4) fun c2 t5 => exq T n 13 t5 fun t6 => pok (tmk j 0 [] [c, c2]) t6) = some res) : mu_W (mu_D (d + 6 * (150 - dep) + 9)) mu_m495 (137, [(0, .inr (.inr (some 169)))], [], H1) (fun r => (∃ H1, r = (.inr 0, H1) ∧ ∃ e, res = .inl e ∧ pbd T n e (pot n t + 30) H H1) ∨ ∃ v H1, r = (.inl v, H1) ∧ ∃ c t1 q F1, v = some (.inr (.inr (some q))) ∧ res = .inr (c, t1) ∧ pst T n t1 dep F1 H1 ∧ nd H1 F1 (f + 1) q c ∧ pot n t1 + 12 ≤ pot n t ∧ pfr (pot n t - pot n t1 - 12) F F1 H H1) := by
  have z0 := p0.z
  have hd : dep < 150 := by have := hs.2.2.2.1.2; omega
  obtain ⟨sq, w1, w2⟩ := hs.wst hj hj2
  have hj79 : j < 79 := by simp only [List.mem_cons, List.not_mem_nil, or_false] at hj; omega
  refine mw_newo rfl (by decide) (by omega) ?_
  show mu_W _ mu_m495 (140, [(0, .inr (.inr (some 169)))], [.inr (.inr (some (mu_z H1)))], (mu_nw H1 18 0 8)) _
  have kn11 : kep (fun _ => False) (0 + 1) (0 + 8) H1 (mu_nw H1 18 0 8) := kep.rf.nw (by omega)
  have sn11 : pst T n t (dep + 1) F (mu_nw H1 18 0 8) := hs.kp kn11 (fun _ z => z.elim)
  have w3 : mu_r (mu_nw H1 18 0 8) 169 11 = some sq := (kn11.r (Or.inl (by have := hs.1.1; omega)) id 11).trans w1
  refine mw_go mu_g495 (k := 3) (f1 := (145, [(0, .inr (.inr (some 169)))], [.inr (.inr (mu_r (mu_nw H1 18 0 8) 169 11)), .inr (.inr (some (mu_z H1))), .inr (.inr (some (mu_z H1)))], (mu_nw H1 18 0 8))) (C := [mu_is (mu_nw H1 18 0 8) (some 169) 1]) rfl (show mu_is (mu_nw H1 18 0 8) (some 169) 1 from sn11.is) ?_
  refine mw_fr (f' := (145, [(0, .inr (.inr (some 169)))], [.inr (.inr (some sq)), .inr (.inr (some (mu_z H1))), .inr (.inr (some (mu_z H1)))], (mu_nw H1 18 0 8))) (by first | (rw [w3]; done) | (rw [w3]; rfl)) ?_
  refine mw_cV (fun _ => rfl) ⟨rfl, Nat.lt_succ_self _⟩ (nd_newS (H0 := H) (f := f) hs (by omega) (by omega) w2 hj79) (fun H11 q11 => ?_)
  obtain ⟨v11, s11, k11⟩ := q11
  have f11 : pfr (0 + 2) F F H1 H11 := pfr.rf.kp k11 (fun p z => z) (by omega) (by omega)
  have p11 := p0.tr f11
  have z11 := p11.z
  show mu_W _ mu_m495 (148, [(0, .inr (.inr (some 169)))], [.inr (.inr (some (mu_z H1)))], H11) _
  refine mw_go mu_g495 (k := 2) (f1 := (150, [(1, .inr (.inr (some (mu_z H1)))), (0, .inr (.inr (some 169)))], [.inr (.inr (some 169))], H11)) (C := []) rfl trivial ?_
  have st12 : pot n (adv T n t) + ((adv T n t).2.2 - t.2.2 + 4) + 15 ≤ pot n t := pot_step (T := T) s11.tkf.2.2 (tis_ne hj2)
  refine mw_cV (fun _ => rfl) (show mu_is H11 (some 169) 1 from s11.is) (rp_advance s11 (tis_ne hj2) (by omega)) (fun H12 q12 => ?_)
  obtain ⟨F12, s12, f12⟩ := q12
  have f12 : pfr ((adv T n t).2.2 - t.2.2 + 4) F F12 H11 H12 := f12
  have u12 := v11.keep s11 g200 f12
  have p12 := p11.tr f12
  have z12 := p12.z
  have s12 : pst T n (adv T n t) (dep + 1) F12 H12 := s12
  show mu_W _ mu_m495 (153, [(1, .inr (.inr (some (mu_z H1)))), (0, .inr (.inr (some 169)))], [], H12) _
  refine mw_go mu_g495 (k := 2) (f1 := (156, [(1, .inr (.inr (some (mu_z H1)))), (0, .inr (.inr (some 169)))], [.inr (.inr (some 1000012)), .inr (.inr (some 169))], H12)) (C := []) rfl trivial ?_
  refine mw_cX (as := [.inr (.inr (some (1000000 + 12)))]) (o := some 169) (S1 := []) rfl rfl rfl rfl (Nat.le_of_ble_eq_true rfl) (by decide) s12.is rfl (rp_expect s12 (by omega) (j := 12) (by decide)) (fun H13 e => ?_) (fun v H13 e => ?_)
  · obtain ⟨e1, e2⟩ := e
    have hpx := exq_no hpx e1
    exact Or.inl ⟨_, rfl, _, hpx, (p12.bd e2).wk (by omega)⟩
  obtain ⟨rfl, e13, F13, s13, f13⟩ := e
  have hpx := exq_ye hpx e13
  have st13 : pot n (adv T n (adv T n t)) + ((adv T n (adv T n t)).2.2 - (adv T n t).2.2 + 4) + 15 ≤ pot n (adv T n t) := pot_step (T := T) s12.tkf.2.2 (tis_ne e13)
  have f13 : pfr ((adv T n (adv T n t)).2.2 - (adv T n t).2.2 + 4) F12 F13 H12 H13 := f13
  have u13 := u12.keep s12 g200 f13
  have p13 := p12.tr f13
  have z13 := p13.z
  have s13 : pst T n (adv T n (adv T n t)) (dep + 1) F13 H13 := s13
  show mu_W _ mu_m495 (159, [(1, .inr (.inr (some (mu_z H1)))), (0, .inr (.inr (some 169)))], [], H13) _
  refine mw_go mu_g495 (k := 1) (f1 := (160, [(1, .inr (.inr (some (mu_z H1)))), (0, .inr (.inr (some 169)))], [.inr (.inr (some 169))], H13)) (C := []) rfl trivial ?_
  refine mw_cX (as := []) (o := some 169) (S1 := []) rfl rfl rfl rfl (Nat.le_of_ble_eq_true rfl) (by decide) s13.is rfl (rp_nest s13) (fun H14 e => ?_) (fun v H14 e => ?_)
  · obtain ⟨e1, e2⟩ := e
    have hpx := nst_hi hpx e1
    exact Or.inl ⟨_, rfl, _, hpx, (p13.bd e2).wk (by omega)⟩
  obtain ⟨rfl, d14, e14⟩ := e
  have hpx := nst_lo hpx d14
  obtain ⟨s14, f14⟩ := s13.dp (dep' := (dep + 1) + 1) (by omega)
  rw [← e14] at s14 f14
  have u14 := u13.keep s13 g200 f14
  have p14 := p13.tr f14
  have z14 := p14.z
  have s14 : pst T n (adv T n (adv T n t)) (dep + 2) F13 H14 := s14
  show mu_W _ mu_m495 (163, [(1, .inr (.inr (some (mu_z H1)))), (0, .inr (.inr (some 169)))], [], H14) _
  refine mw_go mu_g495 (k := 2) (f1 := (165, [(1, .inr (.inr (some (mu_z H1)))), (0, .inr (.inr (some 169)))], [.inr (.inr (some 169)), .inr (.inr (some (mu_z H1)))], H14)) (C := []) rfl trivial ?_
  obtain ⟨r15, hr15⟩ := pbi_some hpx
  refine mw_cX (as := []) (o := some 169) (S1 := [.inr (.inr (some (mu_z H1)))]) rfl rfl rfl rfl (Nat.le_of_ble_eq_true rfl) (by decide) s14.is rfl (show mu_TX (mu_D (d + 6 * (150 - dep) + 9)) _ _ _ _ _ from by rw [show d + 6 * (150 - dep) + 9 = (d + 7) + 6 * (150 - (dep + 2)) + 14 by omega]; exact hP0 f (Nat.le_refl _) (d + 7) (dep + 2) _ F13 H14 r15 s14 (by omega) hr15) (fun H15 e => ?_) (fun v H15 e => ?_)
  · obtain ⟨e', e1, e2⟩ := e
    rw [hr15, e1] at hpx
    have hpx := pbi_inl hpx
    exact Or.inl ⟨_, rfl, _, hpx, (p14.bd e2).wk (by omega)⟩
  obtain ⟨cy, ty, qy, F15, rfl, e1, s15, n15, w15, f15⟩ := e
  rw [hr15, e1] at hpx
  have hpx := pbi_inr hpx
  have u15 := u14.keep s14 g200 f15
  have p15 := p14.tr f15
  have z15 := p15.z
  show mu_W _ mu_m495 (168, [(1, .inr (.inr (some (mu_z H1)))), (0, .inr (.inr (some 169)))], [.inr (.inr (some qy)), .inr (.inr (some (mu_z H1)))], H15) _
  have cp16 := u15.cap
  refine mw_cA (fun _ => rfl) (show mu_is H15 (some (mu_z H1)) 18 from u15.is) (nd_addU u15 s15 g200 (n15.le (by omega)) (by omega) (by omega)) (fun r H16 q16 => ?_)
  obtain ⟨rfl, a16, c_16, v16, s16, hc16, k16⟩ := q16
  have cq16 := v16.cap
  simp only [List.length_append, List.length_cons, List.length_nil] at cp16 cq16
  have p16 := p15.kp k16 (fun p z => z) (by omega) (by omega)
  have z16 := p16.z
  show mu_W _ mu_m495 (171, [(1, .inr (.inr (some (mu_z H1)))), (0, .inr (.inr (some 169)))], [.inr (.inr (some (mu_z H1)))], H16) _
  refine mw_go mu_g495 (k := 1) (f1 := (172, [(1, .inr (.inr (some (mu_z H1)))), (0, .inr (.inr (some 169)))], [], H16)) (C := []) rfl trivial ?_
  have x17 : mu_i H16 169 12 - (1 : Int32) = nI (dep + 1) := by rw [s16.f12]; exact nI_pred _
  refine mw_go mu_g495 (k := 5) (f1 := (179, [(1, .inr (.inr (some (mu_z H1)))), (0, .inr (.inr (some 169)))], [.inl ((mu_i H16 169 12) - (1 : Int32)), .inr (.inr (some 169))], H16)) (C := [mu_is H16 (some 169) 1]) rfl (show mu_is H16 (some 169) 1 from s16.is) ?_
  refine mw_fr (f' := (179, [(1, .inr (.inr (some (mu_z H1)))), (0, .inr (.inr (some 169)))], [.inl (nI (dep + 1)), .inr (.inr (some 169))], H16)) (by first | (rw [x17]; done) | (rw [x17]; rfl)) ?_
  refine mw_go mu_g495 (k := 1) (f1 := (182, [(1, .inr (.inr (some (mu_z H1)))), (0, .inr (.inr (some 169)))], [], (mu_si H16 169 12 (nI (dep + 1))))) (C := [mu_is H16 (some 169) 1]) rfl (show mu_is H16 (some 169) 1 from s16.is) ?_
  obtain ⟨s17, f17⟩ := s16.dp (dep' := (dep + 1)) (by omega)
  obtain ⟨H17, eH17⟩ : ∃ K, K = mu_si H16 169 12 (nI (dep + 1)) := ⟨_, rfl⟩
  rw [← eH17] at s17 f17 ⊢
  have u17 := v16.keep s16 g200 f17
  have p17 := p16.tr f17
  have z17 := p17.z
  show mu_W _ mu_m495 (182, [(1, .inr (.inr (some (mu_z H1)))), (0, .inr (.inr (some 169)))], [], H17) _
  refine mw_go mu_g495 (k := 2) (f1 := (185, [(1, .inr (.inr (some (mu_z H1)))), (0, .inr (.inr (some 169)))], [.inr (.inr (some 1000049)), .inr (.inr (some 169))], H17)) (C := []) rfl trivial ?_
  refine mw_cX (as := [.inr (.inr (some (1000000 + 49)))]) (o := some 169) (S1 := []) rfl rfl rfl rfl (Nat.le_of_ble_eq_true rfl) (by decide) s17.is rfl (rp_expect s17 (by omega) (j := 49) (by decide)) (fun H18 e => ?_) (fun v H18 e => ?_)
  · obtain ⟨e1, e2⟩ := e
    have hpx := exq_no hpx e1
    exact Or.inl ⟨_, rfl, _, hpx, (p17.bd e2).wk (by omega)⟩
  obtain ⟨rfl, e18, F18, s18, f18⟩ := e
  have hpx := exq_ye hpx e18
  have st18 : pot n (adv T n ty) + ((adv T n ty).2.2 - ty.2.2 + 4) + 15 ≤ pot n ty := pot_step (T := T) s17.tkf.2.2 (tis_ne e18)
  have f18 : pfr ((adv T n ty).2.2 - ty.2.2 + 4) F15 F18 H17 H18 := f18
  have u18 := u17.keep s17 g200 f18
  have p18 := p17.tr f18
  have z18 := p18.z
  have s18 : pst T n (adv T n ty) (dep + 1) F18 H18 := s18
  show mu_W _ mu_m495 (188, [(1, .inr (.inr (some (mu_z H1)))), (0, .inr (.inr (some 169)))], [], H18) _
  refine mw_go mu_g495 (k := 1) (f1 := (189, [(1, .inr (.inr (some (mu_z H1)))), (0, .inr (.inr (some 169)))], [.inr (.inr (some 169))], H18)) (C := []) rfl trivial ?_
  refine mw_cX (as := []) (o := some 169) (S1 := []) rfl rfl rfl rfl (Nat.le_of_ble_eq_true rfl) (by decide) s18.is rfl (rp_nest s18) (fun H19 e => ?_) (fun v H19 e => ?_)
  · obtain ⟨e1, e2⟩ := e
    have hpx := nst_hi hpx e1
    exact Or.inl ⟨_, rfl, _, hpx, (p18.bd e2).wk (by omega)⟩
  obtain ⟨rfl, d19, e19⟩ := e
  have hpx := nst_lo hpx d19
  obtain ⟨s19, f19⟩ := s18.dp (dep' := (dep + 1) + 1) (by omega)
  rw [← e19] at s19 f19
  have u19 := u18.keep s18 g200 f19
  have p19 := p18.tr f19
  have z19 := p19.z
  have s19 : pst T n (adv T n ty) (dep + 2) F18 H19 := s19
  show mu_W _ mu_m495 (192, [(1, .inr (.inr (some (mu_z H1)))), (0, .inr (.inr (some 169)))], [], H19) _
  refine mw_go mu_g495 (k := 2) (f1 := (194, [(1, .inr (.inr (some (mu_z H1)))), (0, .inr (.inr (some 169)))], [.inr (.inr (some 169)), .inr (.inr (some (mu_z H1)))], H19)) (C := []) rfl trivial ?_
  obtain ⟨r20, hr20⟩ := pbi_some hpx
  refine mw_cX (as := []) (o := some 169) (S1 := [.inr (.inr (some (mu_z H1)))]) rfl rfl rfl rfl (Nat.le_of_ble_eq_true rfl) (by decide) s19.is rfl (show mu_TX (mu_D (d + 6 * (150 - dep) + 9)) _ _ _ _ _ from by rw [show d + 6 * (150 - dep) + 9 = (d + 7) + 6 * (150 - (dep + 2)) + 14 by omega]; exact hP0 f (Nat.le_refl _) (d + 7) (dep + 2) _ F18 H19 r20 s19 (by omega) hr20) (fun H20 e => ?_) (fun v H20 e => ?_)
  · obtain ⟨e', e1, e2⟩ := e
    rw [hr20, e1] at hpx
    have hpx := pbi_inl hpx
    exact Or.inl ⟨_, rfl, _, hpx, (p19.bd e2).wk (by omega)⟩
  obtain ⟨cw, tw, qw, F20, rfl, e1, s20, n20, w20, f20⟩ := e
  rw [hr20, e1] at hpx
  have hpx := pbi_inr hpx
  have u20 := u19.keep s19 g200 f20
  have p20 := p19.tr f20
  have z20 := p20.z
  show mu_W _ mu_m495 (197, [(1, .inr (.inr (some (mu_z H1)))), (0, .inr (.inr (some 169)))], [.inr (.inr (some qw)), .inr (.inr (some (mu_z H1)))], H20) _
  have cp21 := u20.cap
  refine mw_cA (fun _ => rfl) (show mu_is H20 (some (mu_z H1)) 18 from u20.is) (nd_addU u20 s20 g200 (n20.le (by omega)) (by omega) (by omega)) (fun r H21 q21 => ?_)
  obtain ⟨rfl, a21, c_21, v21, s21, hc21, k21⟩ := q21
  have cq21 := v21.cap
  simp only [List.length_append, List.length_cons, List.length_nil] at cp21 cq21
  have p21 := p20.kp k21 (fun p z => z) (by omega) (by omega)
  have z21 := p21.z
  show mu_W _ mu_m495 (200, [(1, .inr (.inr (some (mu_z H1)))), (0, .inr (.inr (some 169)))], [.inr (.inr (some (mu_z H1)))], H21) _
  refine mw_go mu_g495 (k := 1) (f1 := (201, [(1, .inr (.inr (some (mu_z H1)))), (0, .inr (.inr (some 169)))], [], H21)) (C := []) rfl trivial ?_
  have x22 : mu_i H21 169 12 - (1 : Int32) = nI (dep + 1) := by rw [s21.f12]; exact nI_pred _
  refine mw_go mu_g495 (k := 5) (f1 := (208, [(1, .inr (.inr (some (mu_z H1)))), (0, .inr (.inr (some 169)))], [.inl ((mu_i H21 169 12) - (1 : Int32)), .inr (.inr (some 169))], H21)) (C := [mu_is H21 (some 169) 1]) rfl (show mu_is H21 (some 169) 1 from s21.is) ?_
  refine mw_fr (f' := (208, [(1, .inr (.inr (some (mu_z H1)))), (0, .inr (.inr (some 169)))], [.inl (nI (dep + 1)), .inr (.inr (some 169))], H21)) (by first | (rw [x22]; done) | (rw [x22]; rfl)) ?_
  refine mw_go mu_g495 (k := 1) (f1 := (211, [(1, .inr (.inr (some (mu_z H1)))), (0, .inr (.inr (some 169)))], [], (mu_si H21 169 12 (nI (dep + 1))))) (C := [mu_is H21 (some 169) 1]) rfl (show mu_is H21 (some 169) 1 from s21.is) ?_
  obtain ⟨s22, f22⟩ := s21.dp (dep' := (dep + 1)) (by omega)
  obtain ⟨H22, eH22⟩ : ∃ K, K = mu_si H21 169 12 (nI (dep + 1)) := ⟨_, rfl⟩
  rw [← eH22] at s22 f22 ⊢
  have u22 := v21.keep s21 g200 f22
  have p22 := p21.tr f22
  have z22 := p22.z
  show mu_W _ mu_m495 (211, [(1, .inr (.inr (some (mu_z H1)))), (0, .inr (.inr (some 169)))], [], H22) _
  refine mw_go mu_g495 (k := 2) (f1 := (214, [(1, .inr (.inr (some (mu_z H1)))), (0, .inr (.inr (some 169)))], [.inr (.inr (some 1000013)), .inr (.inr (some 169))], H22)) (C := []) rfl trivial ?_
  refine mw_cX (as := [.inr (.inr (some (1000000 + 13)))]) (o := some 169) (S1 := []) rfl rfl rfl rfl (Nat.le_of_ble_eq_true rfl) (by decide) s22.is rfl (rp_expect s22 (by omega) (j := 13) (by decide)) (fun H23 e => ?_) (fun v H23 e => ?_)
  · obtain ⟨e1, e2⟩ := e
    have hpx := exq_no hpx e1
    exact Or.inl ⟨_, rfl, _, hpx, (p22.bd e2).wk (by omega)⟩
  obtain ⟨rfl, e23, F23, s23, f23⟩ := e
  have hpx := exq_ye hpx e23
  have st23 : pot n (adv T n tw) + ((adv T n tw).2.2 - tw.2.2 + 4) + 15 ≤ pot n tw := pot_step (T := T) s22.tkf.2.2 (tis_ne e23)
  have f23 : pfr ((adv T n tw).2.2 - tw.2.2 + 4) F20 F23 H22 H23 := f23
  have u23 := u22.keep s22 g200 f23
  have p23 := p22.tr f23
  have z23 := p23.z
  have s23 : pst T n (adv T n tw) (dep + 1) F23 H23 := s23
  show mu_W _ mu_m495 (217, [(1, .inr (.inr (some (mu_z H1)))), (0, .inr (.inr (some 169)))], [], H23) _
  refine mw_go mu_g495 (k := 1) (f1 := (225, [(1, .inr (.inr (some (mu_z H1)))), (0, .inr (.inr (some 169)))], [], H23)) (C := []) rfl trivial ?_
  obtain ⟨F24, s24, n24, p24⟩ := u23.done s23 g200 p23
  have z24 := p24.z
  refine mw_sub (L' := [(1, .inr (.inr (some (mu_z H1)))), (0, .inr (.inr (some 169)))]) (by simp) ?_
  exact rp_pre_end g200 s24 n24 p24 (by omega) hpx
/-- prefix -/
theorem rp_prefix {T : Nat → Int32} {n f : Nat} (hP4 : ∀ g, g ≤ f → pct T n g 4 495 10) (hP0 : ∀ g, g ≤ f → pct T n g 0 491 14) (hP5 : ∀ g, g ≤ f → pct T n g 5 497 15) : pct T n (f + 1) 4 495 10 := by
  intro d dep t F H res hs hz hpx
  have hpx : px4 T n (px T n f) dep t = some res := hpx
  unfold px4 at hpx
  have g200 := hs.1.1
  have hd0 := hs.2.2.2.1.2
  have p0 : pfr 0 F F H H := pfr.rf
  have z0 := p0.z
  refine mu_meth (M := mu_m495) rfl rfl ?_
  refine mw_ht (mu_fn_of (show [0].Nodup by decide)) ?_
  refine mw_go mu_g495 (k := 1) (f1 := (1, [(0, .inr (.inr (some 169)))], [.inr (.inr (some 169))], H)) (C := []) rfl trivial ?_
  refine mw_cX (as := []) (o := some 169) (S1 := []) rfl rfl rfl rfl (Nat.le_of_ble_eq_true rfl) (by decide) hs.is rfl (rp_nest hs) (fun H11 e => ?_) (fun v H11 e => ?_)
  · obtain ⟨e1, e2⟩ := e
    have hpx := nst_hi hpx e1
    exact Or.inl ⟨_, rfl, _, hpx, (p0.bd e2).wk (by omega)⟩
  obtain ⟨rfl, d11, e11⟩ := e
  have hpx := nst_lo hpx d11
  obtain ⟨s11, f11⟩ := hs.dp (dep' := dep + 1) (by omega)
  rw [← e11] at s11 f11
  have p11 := p0.tr f11
  have z11 := p11.z
  have s11 : pst T n t (dep + 1) F H11 := s11
  show mu_W _ mu_m495 (4, [(0, .inr (.inr (some 169)))], [], H11) _
  have pp := p11.wk (show 0 + 0 ≤ 0 by decide)
  refine mw_go mu_g495 (k := 2) (f1 := (7, [(0, .inr (.inr (some 169)))], [.inr (.inr (some 1000018)), .inr (.inr (some 169))], H11)) (C := []) rfl trivial ?_
  refine mw_cIe (fun _ => rfl) (show mu_is H11 (some 169) 1 from s11.is) (rp_isL (j := 18) s11 (by decide)) ?_
  refine mw_if (P := (tis T t (txt 18)) = 0) (a := 37) (b := 13) (fun _ => rfl) trivial (fun e18 => ?_) (fun e18 => ?_)
  · -- 37
    have hpx := ite_ye hpx e18
    refine mw_go mu_g495 (k := 2) (f1 := (40, [(0, .inr (.inr (some 169)))], [.inr (.inr (some 1000041)), .inr (.inr (some 169))], H11)) (C := []) rfl trivial ?_
    refine mw_cIe (fun _ => rfl) (show mu_is H11 (some 169) 1 from s11.is) (rp_isL (j := 41) s11 (by decide)) ?_
    refine mw_if (P := (tis T t (txt 41)) = 0) (a := 46) (b := 91) (fun _ => rfl) trivial (fun e41 => ?_) (fun e41 => ?_)
    · -- 46
      refine mw_go mu_g495 (k := 2) (f1 := (49, [(0, .inr (.inr (some 169)))], [.inr (.inr (some 1000042)), .inr (.inr (some 169))], H11)) (C := []) rfl trivial ?_
      refine mw_cIe (fun _ => rfl) (show mu_is H11 (some 169) 1 from s11.is) (rp_isL (j := 42) s11 (by decide)) ?_
      refine mw_if (P := (tis T t (txt 42)) = 0) (a := 55) (b := 91) (fun _ => rfl) trivial (fun e42 => ?_) (fun e42 => ?_)
      · -- 55
        refine mw_go mu_g495 (k := 2) (f1 := (58, [(0, .inr (.inr (some 169)))], [.inr (.inr (some 1000043)), .inr (.inr (some 169))], H11)) (C := []) rfl trivial ?_
        refine mw_cIe (fun _ => rfl) (show mu_is H11 (some 169) 1 from s11.is) (rp_isL (j := 43) s11 (by decide)) ?_
        refine mw_if (P := (tis T t (txt 43)) = 0) (a := 64) (b := 91) (fun _ => rfl) trivial (fun e43 => ?_) (fun e43 => ?_)
        · -- 64
          refine mw_go mu_g495 (k := 2) (f1 := (67, [(0, .inr (.inr (some 169)))], [.inr (.inr (some 1000044)), .inr (.inr (some 169))], H11)) (C := []) rfl trivial ?_
          refine mw_cIe (fun _ => rfl) (show mu_is H11 (some 169) 1 from s11.is) (rp_isL (j := 44) s11 (by decide)) ?_
          refine mw_if (P := (tis T t (txt 44)) = 0) (a := 73) (b := 91) (fun _ => rfl) trivial (fun e44 => ?_) (fun e44 => ?_)
          · -- 73
            refine mw_go mu_g495 (k := 2) (f1 := (76, [(0, .inr (.inr (some 169)))], [.inr (.inr (some 1000045)), .inr (.inr (some 169))], H11)) (C := []) rfl trivial ?_
            refine mw_cIe (fun _ => rfl) (show mu_is H11 (some 169) 1 from s11.is) (rp_isL (j := 45) s11 (by decide)) ?_
            refine mw_if (P := (tis T t (txt 45)) = 0) (a := 82) (b := 91) (fun _ => rfl) trivial (fun e45 => ?_) (fun e45 => ?_)
            · -- 82
              refine mw_go mu_g495 (k := 2) (f1 := (85, [(0, .inr (.inr (some 169)))], [.inr (.inr (some 1000046)), .inr (.inr (some 169))], H11)) (C := []) rfl trivial ?_
              refine mw_cIe (fun _ => rfl) (show mu_is H11 (some 169) 1 from s11.is) (rp_isL (j := 46) s11 (by decide)) ?_
              refine mw_if (P := (tis T t (txt 46)) = 0) (a := 119) (b := 91) (fun _ => rfl) trivial (fun e46 => ?_) (fun e46 => ?_)
              · -- 119
                have ho : one T t [41, 42, 43, 44, 45, 46] = 0 := by
                  show (if tis T t (txt 41) = 0 then (if tis T t (txt 42) = 0 then (if tis T t (txt 43) = 0 then (if tis T t (txt 44) = 0 then (if tis T t (txt 45) = 0 then (if tis T t (txt 46) = 0 then 0 else 46) else 45) else 44) else 43) else 42) else 41) = 0
                  rw [if_pos e41, if_pos e42, if_pos e43, if_pos e44, if_pos e45, if_pos e46]
                have hpx := ite_ye hpx ho
                refine mw_go mu_g495 (k := 2) (f1 := (122, [(0, .inr (.inr (some 169)))], [.inr (.inr (some 1000047)), .inr (.inr (some 169))], H11)) (C := []) rfl trivial ?_
                refine mw_cIe (fun _ => rfl) (show mu_is H11 (some 169) 1 from s11.is) (rp_isL (j := 47) s11 (by decide)) ?_
                refine mw_if (P := (tis T t (txt 47)) = 0) (a := 128) (b := 137) (fun _ => rfl) trivial (fun e47 => ?_) (fun e47 => ?_)
                · -- 128
                  refine mw_go mu_g495 (k := 2) (f1 := (131, [(0, .inr (.inr (some 169)))], [.inr (.inr (some 1000048)), .inr (.inr (some 169))], H11)) (C := []) rfl trivial ?_
                  refine mw_cIe (fun _ => rfl) (show mu_is H11 (some 169) 1 from s11.is) (rp_isL (j := 48) s11 (by decide)) ?_
                  refine mw_if (P := (tis T t (txt 48)) = 0) (a := 220) (b := 137) (fun _ => rfl) trivial (fun e48 => ?_) (fun e48 => ?_)
                  · -- 220
                    have ho : one T t [47, 48] = 0 := by
                      show (if tis T t (txt 47) = 0 then (if tis T t (txt 48) = 0 then 0 else 48) else 47) = 0
                      rw [if_pos e47, if_pos e48]
                    have hpx := ite_ye hpx ho
                    have hpx := pbi_id hpx
                    refine mw_go mu_g495 (k := 1) (f1 := (221, [(0, .inr (.inr (some 169)))], [.inr (.inr (some 169))], H11)) (C := []) rfl trivial ?_
                    obtain ⟨r12, hr12⟩ := pbi_some hpx
                    refine mw_cX (as := []) (o := some 169) (S1 := []) rfl rfl rfl rfl (Nat.le_of_ble_eq_true rfl) (by decide) s11.is rfl (show mu_TX (mu_D (d + 6 * (150 - dep) + 9)) _ _ _ _ _ from by rw [show d + 6 * (150 - dep) + 9 = (d + 0) + 6 * (150 - (dep + 1)) + 15 by omega]; exact hP5 f (Nat.le_refl _) (d + 0) (dep + 1) _ F H11 r12 s11 (by omega) hr12) (fun H12 e => ?_) (fun v H12 e => ?_)
                    · obtain ⟨e', e1, e2⟩ := e
                      rw [hr12, e1] at hpx
                      have hpx := pbi_inl hpx
                      exact Or.inl ⟨_, rfl, _, hpx, (p11.bd e2).wk (by omega)⟩
                    obtain ⟨cy, ty, qy, F12, rfl, e1, s12, n12, w12, f12⟩ := e
                    rw [hr12, e1] at hpx
                    have hpx := pbi_inr hpx
                    have p12 := p11.tr f12
                    have z12 := p12.z
                    show mu_W _ mu_m495 (224, [(0, .inr (.inr (some 169)))], [.inr (.inr (some qy))], H12) _
                    refine mw_go mu_g495 (k := 1) (f1 := (225, [(1, .inr (.inr (some qy))), (0, .inr (.inr (some 169)))], [], H12)) (C := []) rfl trivial ?_
                    refine mw_sub (L' := [(1, .inr (.inr (some qy))), (0, .inr (.inr (some 169)))]) (by simp) ?_
                    exact rp_pre_end g200 s12 (n12.up) p12 (by omega) hpx
                  · -- 137
                    have ho : one T t [47, 48] = 48 := by
                      show (if tis T t (txt 47) = 0 then (if tis T t (txt 48) = 0 then 0 else 48) else 47) = 48
                      rw [if_pos e47, if_neg e48]
                    have hpx := ite_no hpx (show ¬ one T t [47, 48] = 0 by rw [ho]; decide)
                    rw [ho] at hpx
                    refine mw_sub (L' := [(0, .inr (.inr (some 169)))]) (by simp) ?_
                    exact rp_pre_until hP0 g200 s11 pp hz (j := 48) (by decide) e48 hpx
                · -- 137
                  have ho : one T t [47, 48] = 47 := by
                    show (if tis T t (txt 47) = 0 then (if tis T t (txt 48) = 0 then 0 else 48) else 47) = 47
                    rw [if_neg e47]
                  have hpx := ite_no hpx (show ¬ one T t [47, 48] = 0 by rw [ho]; decide)
                  rw [ho] at hpx
                  refine mw_sub (L' := [(0, .inr (.inr (some 169)))]) (by simp) ?_
                  exact rp_pre_until hP0 g200 s11 pp hz (j := 47) (by decide) e47 hpx
              · -- 91
                have ho : one T t [41, 42, 43, 44, 45, 46] = 46 := by
                  show (if tis T t (txt 41) = 0 then (if tis T t (txt 42) = 0 then (if tis T t (txt 43) = 0 then (if tis T t (txt 44) = 0 then (if tis T t (txt 45) = 0 then (if tis T t (txt 46) = 0 then 0 else 46) else 45) else 44) else 43) else 42) else 41) = 46
                  rw [if_pos e41, if_pos e42, if_pos e43, if_pos e44, if_pos e45, if_neg e46]
                have hpx := ite_no hpx (show ¬ one T t [41, 42, 43, 44, 45, 46] = 0 by rw [ho]; decide)
                rw [ho] at hpx
                refine mw_sub (L' := [(0, .inr (.inr (some 169)))]) (by simp) ?_
                exact rp_pre_un hP4 g200 s11 pp hz (j := 46) (by decide) e46 hpx
            · -- 91
              have ho : one T t [41, 42, 43, 44, 45, 46] = 45 := by
                show (if tis T t (txt 41) = 0 then (if tis T t (txt 42) = 0 then (if tis T t (txt 43) = 0 then (if tis T t (txt 44) = 0 then (if tis T t (txt 45) = 0 then (if tis T t (txt 46) = 0 then 0 else 46) else 45) else 44) else 43) else 42) else 41) = 45
                rw [if_pos e41, if_pos e42, if_pos e43, if_pos e44, if_neg e45]
              have hpx := ite_no hpx (show ¬ one T t [41, 42, 43, 44, 45, 46] = 0 by rw [ho]; decide)
              rw [ho] at hpx
              refine mw_sub (L' := [(0, .inr (.inr (some 169)))]) (by simp) ?_
              exact rp_pre_un hP4 g200 s11 pp hz (j := 45) (by decide) e45 hpx
          · -- 91
            have ho : one T t [41, 42, 43, 44, 45, 46] = 44 := by
              show (if tis T t (txt 41) = 0 then (if tis T t (txt 42) = 0 then (if tis T t (txt 43) = 0 then (if tis T t (txt 44) = 0 then (if tis T t (txt 45) = 0 then (if tis T t (txt 46) = 0 then 0 else 46) else 45) else 44) else 43) else 42) else 41) = 44
              rw [if_pos e41, if_pos e42, if_pos e43, if_neg e44]
            have hpx := ite_no hpx (show ¬ one T t [41, 42, 43, 44, 45, 46] = 0 by rw [ho]; decide)
            rw [ho] at hpx
            refine mw_sub (L' := [(0, .inr (.inr (some 169)))]) (by simp) ?_
            exact rp_pre_un hP4 g200 s11 pp hz (j := 44) (by decide) e44 hpx
        · -- 91
          have ho : one T t [41, 42, 43, 44, 45, 46] = 43 := by
            show (if tis T t (txt 41) = 0 then (if tis T t (txt 42) = 0 then (if tis T t (txt 43) = 0 then (if tis T t (txt 44) = 0 then (if tis T t (txt 45) = 0 then (if tis T t (txt 46) = 0 then 0 else 46) else 45) else 44) else 43) else 42) else 41) = 43
            rw [if_pos e41, if_pos e42, if_neg e43]
          have hpx := ite_no hpx (show ¬ one T t [41, 42, 43, 44, 45, 46] = 0 by rw [ho]; decide)
          rw [ho] at hpx
          refine mw_sub (L' := [(0, .inr (.inr (some 169)))]) (by simp) ?_
          exact rp_pre_un hP4 g200 s11 pp hz (j := 43) (by decide) e43 hpx
      · -- 91
        have ho : one T t [41, 42, 43, 44, 45, 46] = 42 := by
          show (if tis T t (txt 41) = 0 then (if tis T t (txt 42) = 0 then (if tis T t (txt 43) = 0 then (if tis T t (txt 44) = 0 then (if tis T t (txt 45) = 0 then (if tis T t (txt 46) = 0 then 0 else 46) else 45) else 44) else 43) else 42) else 41) = 42
          rw [if_pos e41, if_neg e42]
        have hpx := ite_no hpx (show ¬ one T t [41, 42, 43, 44, 45, 46] = 0 by rw [ho]; decide)
        rw [ho] at hpx
        refine mw_sub (L' := [(0, .inr (.inr (some 169)))]) (by simp) ?_
        exact rp_pre_un hP4 g200 s11 pp hz (j := 42) (by decide) e42 hpx
    · -- 91
      have ho : one T t [41, 42, 43, 44, 45, 46] = 41 := by
        show (if tis T t (txt 41) = 0 then (if tis T t (txt 42) = 0 then (if tis T t (txt 43) = 0 then (if tis T t (txt 44) = 0 then (if tis T t (txt 45) = 0 then (if tis T t (txt 46) = 0 then 0 else 46) else 45) else 44) else 43) else 42) else 41) = 41
        rw [if_neg e41]
      have hpx := ite_no hpx (show ¬ one T t [41, 42, 43, 44, 45, 46] = 0 by rw [ho]; decide)
      rw [ho] at hpx
      refine mw_sub (L' := [(0, .inr (.inr (some 169)))]) (by simp) ?_
      exact rp_pre_un hP4 g200 s11 pp hz (j := 41) (by decide) e41 hpx
  · -- 13
    have hpx := ite_no hpx e18
    refine mw_go mu_g495 (k := 1) (f1 := (14, [(0, .inr (.inr (some 169)))], [.inr (.inr (some 169))], H11)) (C := []) rfl trivial ?_
    have st12 : pot n (adv T n t) + ((adv T n t).2.2 - t.2.2 + 4) + 15 ≤ pot n t := pot_step (T := T) s11.tkf.2.2 (tis_ne e18)
    refine mw_cV (fun _ => rfl) (show mu_is H11 (some 169) 1 from s11.is) (rp_advance s11 (tis_ne e18) (by omega)) (fun H12 q12 => ?_)
    obtain ⟨F12, s12, f12⟩ := q12
    have f12 : pfr ((adv T n t).2.2 - t.2.2 + 4) F F12 H11 H12 := f12
    have p12 := p11.tr f12
    have z12 := p12.z
    have s12 : pst T n (adv T n t) (dep + 1) F12 H12 := s12
    show mu_W _ mu_m495 (17, [(0, .inr (.inr (some 169)))], [], H12) _
    refine mw_newo rfl (by decide) (by omega) ?_
    show mu_W _ mu_m495 (20, [(0, .inr (.inr (some 169)))], [.inr (.inr (some (mu_z H12)))], (mu_nw H12 18 0 8)) _
    refine mw_go mu_g495 (k := 2) (f1 := (23, [(0, .inr (.inr (some 169)))], [.inr (.inr (some 1000018)), .inr (.inr (some (mu_z H12))), .inr (.inr (some (mu_z H12)))], (mu_nw H12 18 0 8))) (C := []) rfl trivial ?_
    refine mw_cV (fun _ => rfl) ⟨rfl, Nat.lt_succ_self _⟩ (nd_newL (j := 18) (H0 := H) (f := f) s12 (by omega) (by omega) (by decide)) (fun H13 q13 => ?_)
    obtain ⟨v13, s13, k13⟩ := q13
    have f13 : pfr (0 + 2) F12 F12 H12 H13 := pfr.rf.kp k13 (fun p z => z) (by omega) (by omega)
    have p13 := p12.tr f13
    have z13 := p13.z
    show mu_W _ mu_m495 (26, [(0, .inr (.inr (some 169)))], [.inr (.inr (some (mu_z H12)))], H13) _
    refine mw_go mu_g495 (k := 1) (f1 := (27, [(0, .inr (.inr (some 169)))], [.inr (.inr (some 169)), .inr (.inr (some (mu_z H12)))], H13)) (C := []) rfl trivial ?_
    obtain ⟨r14, hr14⟩ := pbi_some hpx
    refine mw_cX (as := []) (o := some 169) (S1 := [.inr (.inr (some (mu_z H12)))]) rfl rfl rfl rfl (Nat.le_of_ble_eq_true rfl) (by decide) s13.is rfl (show mu_TX (mu_D (d + 6 * (150 - dep) + 9)) _ _ _ _ _ from by rw [show d + 6 * (150 - dep) + 9 = (d + 5) + 6 * (150 - (dep + 1)) + 10 by omega]; exact hP4 f (Nat.le_refl _) (d + 5) (dep + 1) _ F12 H13 r14 s13 (by omega) hr14) (fun H14 e => ?_) (fun v H14 e => ?_)
    · obtain ⟨e', e1, e2⟩ := e
      rw [hr14, e1] at hpx
      have hpx := pbi_inl hpx
      exact Or.inl ⟨_, rfl, _, hpx, (p13.bd e2).wk (by omega)⟩
    obtain ⟨cy, ty, qy, F14, rfl, e1, s14, n14, w14, f14⟩ := e
    rw [hr14, e1] at hpx
    have hpx := pbi_inr hpx
    have u14 := v13.keep s13 g200 f14
    have p14 := p13.tr f14
    have z14 := p14.z
    show mu_W _ mu_m495 (30, [(0, .inr (.inr (some 169)))], [.inr (.inr (some qy)), .inr (.inr (some (mu_z H12)))], H14) _
    have cp15 := u14.cap
    refine mw_cA (fun _ => rfl) (show mu_is H14 (some (mu_z H12)) 18 from u14.is) (nd_addU u14 s14 g200 (n14.le (by omega)) (by omega) (by omega)) (fun r H15 q15 => ?_)
    obtain ⟨rfl, a15, c_15, v15, s15, hc15, k15⟩ := q15
    have cq15 := v15.cap
    simp only [List.length_append, List.length_cons, List.length_nil] at cp15 cq15
    have p15 := p14.kp k15 (fun p z => z) (by omega) (by omega)
    have z15 := p15.z
    show mu_W _ mu_m495 (33, [(0, .inr (.inr (some 169)))], [.inr (.inr (some (mu_z H12)))], H15) _
    refine mw_go mu_g495 (k := 2) (f1 := (225, [(1, .inr (.inr (some (mu_z H12)))), (0, .inr (.inr (some 169)))], [], H15)) (C := []) rfl trivial ?_
    obtain ⟨F16, s16, n16, p16⟩ := v15.done s15 g200 p15
    have z16 := p16.z
    refine mw_sub (L' := [(1, .inr (.inr (some (mu_z H12)))), (0, .inr (.inr (some 169)))]) (by simp) ?_
    exact rp_pre_end g200 s16 n16 p16 (by omega) hpx
