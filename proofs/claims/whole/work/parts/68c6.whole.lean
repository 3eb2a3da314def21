/-! The reference: whole (a number with a sign) -/
/-- PathProverModel.whole()I -/
abbrev mu_m509 : ev_M := (4, (some .int), [], ev_b509)
theorem mu_g509 : mu_good mu_m509 := mu_goodk ev_k509
theorem rp_wh1 {T : Nat → Int32} {n d dep A : Nat} {t : Tok} {F F0 : Nat → Prop} {H H0 : mu_H} {x : Int32} (hs : pst T n t dep F H) (hp : pfr A F0 F H0 H) (hz : mu_z H + pot n t + 20 ≤ 1000000) : mu_W (mu_D (d + 7)) mu_m509 (15, [(1, .inl x), (0, .inr (.inr (some 169)))], [], H) (fun r => (∃ H1, r = (.inr 0, H1) ∧ ¬ t.1 = 3 ∧ pbd T n t.2.1 (A + 1) H0 H1) ∨ ∃ v H1, r = (.inl v, H1) ∧ t.1 = 3 ∧ v = some (.inl (if x = 0 then (nuz T n (n + 1) 0 t.2.1).1 else -(nuz T n (n + 1) 0 t.2.1).1)) ∧ ∃ F1, pst T n (adv T n t) dep F1 H1 ∧ pfr (A + ((adv T n t).2.2 - t.2.2 + 4)) F0 F1 H0 H1) := by
  have hA := hp.z
  refine mw_go mu_g509 (k := 4) (f1 := (21, [(1, .inl x), (0, .inr (.inr (some 169)))], [.inl (3 : Int32), .inl (mu_i H 169 7), .inr (.inr (some 169))], H)) (C := [mu_is H (some 169) 1]) rfl (show mu_is H (some 169) 1 from hs.is) ?_
  refine mw_fr (f' := (21, [(1, .inl x), (0, .inr (.inr (some 169)))], [.inl (3 : Int32), .inl t.1, .inr (.inr (some 169))], H)) (by first | (rw [hs.f7]; done) | (rw [hs.f7]; rfl)) ?_
  refine mw_if (P := t.1 = (3 : Int32)) (a := 24) (b := 28) (fun _ => rfl) trivial (fun h1 => ?_) (fun h1 => ?_)
  · -- 24
    have ht : t.1 ≠ 0 ∧ t.1 ≠ 1 := by rw [h1]; decide
    have hx : mu_i H 169 10 = (nuz T n (n + 1) 0 t.2.1).1 := hs.2.2.1.2.1 h1
    refine mw_go mu_g509 (k := 2) (f1 := (29, [(1, .inl x), (0, .inr (.inr (some 169)))], [.inl (1 : Int32), .inr (.inr (some 169))], H)) (C := []) rfl trivial ?_
    refine mw_cX (as := [.inl (1 : Int32)]) (o := some 169) (S1 := []) rfl rfl rfl rfl (by decide) (by decide) hs.is rfl (rp_can (d := d + 6)) (fun H1 e => absurd e.1 (by decide)) (fun v H1 q => ?_)
    obtain ⟨_, rfl, e⟩ := q
    rw [e]
    show mu_W _ mu_m509 (32, [(1, .inl x), (0, .inr (.inr (some 169)))], [.inl (1 : Int32)], H) _
    refine mw_go mu_g509 (k := 2) (f1 := (34, [(2, .inl (1 : Int32)), (1, .inl x), (0, .inr (.inr (some 169)))], [.inl x], H)) (C := []) rfl trivial ?_
    refine mw_if (P := x = 0) (a := 45) (b := 37) (fun _ => rfl) trivial (fun h2 => ?_) (fun h2 => ?_)
    · -- 45
      refine mw_go mu_g509 (k := 3) (f1 := (50, [(3, .inl (mu_i H 169 10)), (2, .inl (1 : Int32)), (1, .inl x), (0, .inr (.inr (some 169)))], [], H)) (C := [mu_is H (some 169) 1]) rfl (show mu_is H (some 169) 1 from hs.is) ?_
      refine mw_fr (f' := (50, [(3, .inl (nuz T n (n + 1) 0 t.2.1).1), (2, .inl (1 : Int32)), (1, .inl x), (0, .inr (.inr (some 169)))], [], H)) (by first | (rw [hx]; done) | (rw [hx]; rfl)) ?_
      refine mw_go mu_g509 (k := 1) (f1 := (51, [(3, .inl (nuz T n (n + 1) 0 t.2.1).1), (2, .inl (1 : Int32)), (1, .inl x), (0, .inr (.inr (some 169)))], [.inr (.inr (some 169))], H)) (C := []) rfl trivial ?_
      have st : pot n (adv T n t) + ((adv T n t).2.2 - t.2.2 + 4) + 15 ≤ pot n t := pot_step (T := T) hs.tkf.2.2 ht
      refine mw_cV (fun _ => rfl) (show mu_is H (some 169) 1 from hs.is) (rp_advance hs ht (by omega)) (fun H2 q2 => ?_)
      show mu_W _ mu_m509 (54, [(3, .inl (nuz T n (n + 1) 0 t.2.1).1), (2, .inl (1 : Int32)), (1, .inl x), (0, .inr (.inr (some 169)))], [], H2) _
      obtain ⟨F2, s2, f2⟩ := q2
      refine mw_go mu_g509 (k := 1) (f1 := (55, [(3, .inl (nuz T n (n + 1) 0 t.2.1).1), (2, .inl (1 : Int32)), (1, .inl x), (0, .inr (.inr (some 169)))], [.inl (nuz T n (n + 1) 0 t.2.1).1], H2)) (C := []) rfl trivial ?_
      exact mw_of (fun _ => mu_ret rfl trivial (Or.inr ⟨_, _, rfl, h1, by rw [if_pos h2], F2, s2, hp.tr f2⟩))
    · -- 37
      refine mw_go mu_g509 (k := 5) (f1 := (50, [(3, .inl (- (mu_i H 169 10))), (2, .inl (1 : Int32)), (1, .inl x), (0, .inr (.inr (some 169)))], [], H)) (C := [mu_is H (some 169) 1]) rfl (show mu_is H (some 169) 1 from hs.is) ?_
      refine mw_fr (f' := (50, [(3, .inl (- (nuz T n (n + 1) 0 t.2.1).1)), (2, .inl (1 : Int32)), (1, .inl x), (0, .inr (.inr (some 169)))], [], H)) (by first | (rw [hx]; done) | (rw [hx]; rfl)) ?_
      refine mw_go mu_g509 (k := 1) (f1 := (51, [(3, .inl (- (nuz T n (n + 1) 0 t.2.1).1)), (2, .inl (1 : Int32)), (1, .inl x), (0, .inr (.inr (some 169)))], [.inr (.inr (some 169))], H)) (C := []) rfl trivial ?_
      have st : pot n (adv T n t) + ((adv T n t).2.2 - t.2.2 + 4) + 15 ≤ pot n t := pot_step (T := T) hs.tkf.2.2 ht
      refine mw_cV (fun _ => rfl) (show mu_is H (some 169) 1 from hs.is) (rp_advance hs ht (by omega)) (fun H2 q2 => ?_)
      show mu_W _ mu_m509 (54, [(3, .inl (- (nuz T n (n + 1) 0 t.2.1).1)), (2, .inl (1 : Int32)), (1, .inl x), (0, .inr (.inr (some 169)))], [], H2) _
      obtain ⟨F2, s2, f2⟩ := q2
      refine mw_go mu_g509 (k := 1) (f1 := (55, [(3, .inl (- (nuz T n (n + 1) 0 t.2.1).1)), (2, .inl (1 : Int32)), (1, .inl x), (0, .inr (.inr (some 169)))], [.inl (- (nuz T n (n + 1) 0 t.2.1).1)], H2)) (C := []) rfl trivial ?_
      exact mw_of (fun _ => mu_ret rfl trivial (Or.inr ⟨_, _, rfl, h1, by rw [if_neg h2], F2, s2, hp.tr f2⟩))
  · -- 28
    refine mw_go mu_g509 (k := 1) (f1 := (29, [(1, .inl x), (0, .inr (.inr (some 169)))], [.inl (0 : Int32), .inr (.inr (some 169))], H)) (C := []) rfl trivial ?_
    refine mw_cX (as := [.inl (0 : Int32)]) (o := some 169) (S1 := []) rfl rfl rfl rfl (by decide) (by decide) hs.is rfl (rp_can (d := d + 6)) (fun H1 e => Or.inl ⟨_, rfl, h1, by rw [e.2]; exact hp.bd hs.bad⟩) (fun v H1 q => absurd rfl q.1)
/-- the token of the number itself, its worth -/
noncomputable def whk (T : Nat → Int32) (n : Nat) (t : Tok) : Tok := if tis T t (txt 25) = 0 then t else adv T n t
noncomputable def whv (T : Nat → Int32) (n : Nat) (t : Tok) : Int32 := if tis T t (txt 25) = 0 then (nuz T n (n + 1) 0 (whk T n t).2.1).1 else -(nuz T n (n + 1) 0 (whk T n t).2.1).1
theorem rp_whole {T : Nat → Int32} {n d dep : Nat} {t : Tok} {F : Nat → Prop} {H : mu_H} (hs : pst T n t dep F H) (hz : mu_z H + pot n t + 40 ≤ 1000000) : mu_TX (mu_D (d + 8)) 509 [.inr (.inr (some 169))] H (fun H1 => ¬ (whk T n t).1 = 3 ∧ pbd T n (whk T n t).2.1 (pot n t + 30) H H1) (fun v H1 => (whk T n t).1 = 3 ∧ v = some (.inl (whv T n t)) ∧ ∃ F1, pst T n (adv T n (whk T n t)) dep F1 H1 ∧ pot n (adv T n (whk T n t)) + 15 ≤ pot n t ∧ pfr (pot n t - pot n (adv T n (whk T n t)) - 15) F F1 H H1) := by
  have p0 : pfr 0 F F H H := pfr.rf
  refine mu_meth (M := mu_m509) rfl rfl ?_
  refine mw_ht (mu_fn_of (show [0].Nodup by decide)) ?_
  refine mw_go mu_g509 (k := 2) (f1 := (3, [(0, .inr (.inr (some 169)))], [.inr (.inr (some 1000025)), .inr (.inr (some 169))], H)) (C := []) rfl trivial ?_
  refine mw_cIe (fun _ => rfl) (show mu_is H (some 169) 1 from hs.is) (rp_isL (j := 25) hs (by decide)) ?_
  refine mw_go mu_g509 (k := 2) (f1 := (8, [(1, .inl (tis T t (txt 25))), (0, .inr (.inr (some 169)))], [.inl (tis T t (txt 25))], H)) (C := []) rfl trivial ?_
  refine mw_if (P := (tis T t (txt 25)) = 0) (a := 15) (b := 11) (fun _ => rfl) trivial (fun h1 => ?_) (fun h1 => ?_)
  · -- 15
    have ek : whk T n t = t := if_pos h1
    have ev : whv T n t = (nuz T n (n + 1) 0 t.2.1).1 := by unfold whv; rw [if_pos h1, ek]
    rw [ek, ev]
    refine mw_imp (fun r hr => ?_) (rp_wh1 (d := d) hs p0 (by omega))
    rcases hr with ⟨H1, e1, e2, e3⟩ | ⟨v, H1, e1, e2, e3, F1, e4, e5⟩
    · exact Or.inl ⟨H1, e1, e2, e3.wk (by omega)⟩
    · rw [if_pos h1] at e3
      have st : pot n (adv T n t) + ((adv T n t).2.2 - t.2.2 + 4) + 15 ≤ pot n t := pot_step (T := T) hs.tkf.2.2 (by rw [e2]; decide)
      exact Or.inr ⟨v, H1, e1, e2, e3, F1, e4, by omega, e5.wk (by omega)⟩
  · -- 11
    refine mw_go mu_g509 (k := 1) (f1 := (12, [(1, .inl (tis T t (txt 25))), (0, .inr (.inr (some 169)))], [.inr (.inr (some 169))], H)) (C := []) rfl trivial ?_
    have st11 : pot n (adv T n t) + ((adv T n t).2.2 - t.2.2 + 4) + 15 ≤ pot n t := pot_step (T := T) hs.tkf.2.2 (tis_ne h1)
    refine mw_cV (fun _ => rfl) (show mu_is H (some 169) 1 from hs.is) (rp_advance hs (tis_ne h1) (by omega)) (fun H11 q11 => ?_)
    obtain ⟨F11, s11, f11⟩ := q11
    have f11 : pfr ((adv T n t).2.2 - t.2.2 + 4) F F11 H H11 := f11
    have p11 := p0.tr f11
    have z11 := p11.z
    have s11 : pst T n (adv T n t) dep F11 H11 := s11
    show mu_W _ mu_m509 (15, [(1, .inl (tis T t (txt 25))), (0, .inr (.inr (some 169)))], [], H11) _
    have ek : whk T n t = adv T n t := if_neg h1
    have ev : whv T n t = -(nuz T n (n + 1) 0 (adv T n t).2.1).1 := by unfold whv; rw [if_neg h1, ek]
    rw [ek, ev]
    refine mw_imp (fun r hr => ?_) (rp_wh1 (d := d) s11 p11 (by omega))
    rcases hr with ⟨H1, e1, e2, e3⟩ | ⟨v, H1, e1, e2, e3, F1, e4, e5⟩
    · exact Or.inl ⟨H1, e1, e2, e3.wk (by omega)⟩
    · rw [if_neg h1] at e3
      have st : pot n (adv T n (adv T n t)) + ((adv T n (adv T n t)).2.2 - (adv T n t).2.2 + 4) + 15 ≤ pot n (adv T n t) := pot_step (T := T) s11.tkf.2.2 (by rw [e2]; decide)
      exact Or.inr ⟨v, H1, e1, e2, e3, F1, e4, by omega, e5.wk (by omega)⟩
