/-! The reference: cases, choice -/
/-- what cases does: as pct, with an argument -/
def pctb (T : Nat → Int32) (n f nt mth rk : Nat) (bb : Int32) : Prop := ∀ (d dep : Nat) (t : Tok) (F : Nat → Prop) (H : mu_H) (res : Nat ⊕ (Tre × Tok)), pst T n t dep F H → mu_z H + pot n t + 40 ≤ 1000000 → px T n f nt dep [] t = some res → mu_TX (mu_D (d + 6 * (150 - dep) + rk)) mth [.inr (.inr (some 169)), .inl bb] H (fun H1 => ∃ e, res = .inl e ∧ pbd T n e (pot n t + 30) H H1) (fun v H1 => ∃ c t1 q F1, v = some (.inr (.inr (some q))) ∧ res = .inr (c, t1) ∧ pst T n t1 dep F1 H1 ∧ nd H1 F1 f q c ∧ pot n t1 + 12 ≤ pot n t ∧ pfr (pot n t - pot n t1 - 12) F F1 H H1)
theorem rp_cases0_loop {T : Nat → Int32} {n f d dep q s : Nat} {t0 : Tok} {F0 : Nat → Prop} {H0 : mu_H} {res : Nat ⊕ (Tre × Tok)} (hP0 : ∀ g, g ≤ f → pct T n g 0 491 14) (hz : mu_z H0 + pot n t0 + 40 ≤ 1000000) (g200 : 200 < mu_z H0) : ∀ g, g ≤ f → ∀ A F H t a c qs cs, pst T n t (dep + 1) F H → nu H0 H F f q a c s 52 0 qs cs → pfr A F0 F H0 H → A + 27 * qs.length + pot n t + 15 ≤ pot n t0 + c → px T n g 29 (dep + 1) cs t = some res → mu_W (mu_D (d + 6 * (150 - dep) + 11)) mu_m502 (20, [(2, .inr (.inr (some q))), (1, .inl (0 : Int32)), (0, .inr (.inr (some 169)))], [], H) (fun r => (∃ H1, r = (.inr 0, H1) ∧ ∃ e, res = .inl e ∧ pbd T n e (pot n t0 + 30) H0 H1) ∨ ∃ v H1, r = (.inl v, H1) ∧ ∃ c t1 q F1, v = some (.inr (.inr (some q))) ∧ res = .inr (c, t1) ∧ pst T n t1 dep F1 H1 ∧ nd H1 F1 (f + 1) q c ∧ pot n t1 + 12 ≤ pot n t0 ∧ pfr (pot n t0 - pot n t1 - 12) F0 F1 H0 H1)
  | 0, _, _, _, _, _, _, _, _, _, _, _, _, _, hpx => by cases hpx
  | g + 1, hg, A, F, H, t, a, c, qs, cs, hs, hu, hp, hA0, hpx => by
    have hpx : pxC T n (px T n g) 0 29 (dep + 1) cs t = some res := hpx
    unfold pxC at hpx
    have hcap := hu.cap
    have hA := hp.z
    have hd0 := hs.2.2.2.1.2
    refine mw_go mu_g502 (k := 2) (f1 := (22, [(2, .inr (.inr (some q))), (1, .inl (0 : Int32)), (0, .inr (.inr (some 169)))], [.inr (.inr (some 169)), .inr (.inr (some q))], H)) (C := []) rfl trivial ?_
    obtain ⟨r11, hr11⟩ := pbi_some hpx
    refine mw_cX (as := []) (o := some 169) (S1 := [.inr (.inr (some q))]) rfl rfl rfl rfl (Nat.le_of_ble_eq_true rfl) (by decide) hs.is rfl (show mu_TX (mu_D (d + 6 * (150 - dep) + 11)) _ _ _ _ _ from by rw [show d + 6 * (150 - dep) + 11 = (d + 3) + 6 * (150 - (dep + 1)) + 14 by omega]; exact hP0 g (by omega) (d + 3) (dep + 1) _ F H r11 hs (by omega) hr11) (fun H11 e => ?_) (fun v H11 e => ?_)
    · obtain ⟨e', e1, e2⟩ := e
      rw [hr11, e1] at hpx
      have hpx := pbi_inl hpx
      exact Or.inl ⟨_, rfl, _, hpx, (hp.bd e2).wk (by omega)⟩
    obtain ⟨cx, tx, qx, F11, rfl, e1, s11, n11, w11, f11⟩ := e
    rw [hr11, e1] at hpx
    have hpx := pbi_inr hpx
    have u11 := hu.keep hs g200 f11
    have p11 := hp.tr f11
    have z11 := p11.z
    show mu_W _ mu_m502 (25, [(2, .inr (.inr (some q))), (1, .inl (0 : Int32)), (0, .inr (.inr (some 169)))], [.inr (.inr (some qx)), .inr (.inr (some q))], H11) _
    have cp12 := u11.cap
    refine mw_cA (fun _ => rfl) (show mu_is H11 (some q) 18 from u11.is) (nd_addU u11 s11 g200 (n11.le (by omega)) (by omega) (by omega)) (fun r H12 q12 => ?_)
    obtain ⟨rfl, a12, c_12, v12, s12, hc12, k12⟩ := q12
    have cq12 := v12.cap
    simp only [List.length_append, List.length_cons, List.length_nil] at cp12 cq12
    have p12 := p11.kp k12 (fun p z => z) (by omega) (by omega)
    have z12 := p12.z
    show mu_W _ mu_m502 (28, [(2, .inr (.inr (some q))), (1, .inl (0 : Int32)), (0, .inr (.inr (some 169)))], [.inr (.inr (some q))], H12) _
    refine mw_go mu_g502 (k := 1) (f1 := (29, [(2, .inr (.inr (some q))), (1, .inl (0 : Int32)), (0, .inr (.inr (some 169)))], [], H12)) (C := []) rfl trivial ?_
    refine mw_go mu_g502 (k := 2) (f1 := (32, [(2, .inr (.inr (some q))), (1, .inl (0 : Int32)), (0, .inr (.inr (some 169)))], [.inr (.inr (some 1000016)), .inr (.inr (some 169))], H12)) (C := []) rfl trivial ?_
    refine mw_cX (as := [.inr (.inr (some (1000000 + 16)))]) (o := some 169) (S1 := []) rfl rfl rfl rfl (Nat.le_of_ble_eq_true rfl) (by decide) s12.is rfl (rp_expect s12 (by omega) (j := 16) (by decide)) (fun H13 e => ?_) (fun v H13 e => ?_)
    · obtain ⟨e1, e2⟩ := e
      have hpx := exq_no hpx e1
      exact Or.inl ⟨_, rfl, _, hpx, (p12.bd e2).wk (by omega)⟩
    obtain ⟨rfl, e13, F13, s13, f13⟩ := e
    have hpx := exq_ye hpx e13
    have st13 : pot n (adv T n tx) + ((adv T n tx).2.2 - tx.2.2 + 4) + 15 ≤ pot n tx := pot_step (T := T) s12.tkf.2.2 (tis_ne e13)
    have f13 : pfr ((adv T n tx).2.2 - tx.2.2 + 4) F11 F13 H12 H13 := f13
    have u13 := v12.keep s12 g200 f13
    have p13 := p12.tr f13
    have z13 := p13.z
    have s13 : pst T n (adv T n tx) (dep + 1) F13 H13 := s13
    show mu_W _ mu_m502 (35, [(2, .inr (.inr (some q))), (1, .inl (0 : Int32)), (0, .inr (.inr (some 169)))], [], H13) _
    refine mw_go mu_g502 (k := 2) (f1 := (37, [(2, .inr (.inr (some q))), (1, .inl (0 : Int32)), (0, .inr (.inr (some 169)))], [.inl (0 : Int32), .inr (.inr (some q))], H13)) (C := []) rfl trivial ?_
    refine mw_if (P := (0 : Int32) = 0) (a := 47) (b := 40) (fun _ => rfl) trivial (fun h9 => ?_) (fun h9 => absurd rfl h9)
    refine mw_go mu_g502 (k := 1) (f1 := (48, [(2, .inr (.inr (some q))), (1, .inl (0 : Int32)), (0, .inr (.inr (some 169)))], [.inr (.inr (some 169)), .inr (.inr (some q))], H13)) (C := []) rfl trivial ?_
    obtain ⟨r14, hr14⟩ := pbi_some hpx
    refine mw_cX (as := []) (o := some 169) (S1 := [.inr (.inr (some q))]) rfl rfl rfl rfl (Nat.le_of_ble_eq_true rfl) (by decide) s13.is rfl (show mu_TX (mu_D (d + 6 * (150 - dep) + 11)) _ _ _ _ _ from by rw [show d + 6 * (150 - dep) + 11 = (d + 3) + 6 * (150 - (dep + 1)) + 14 by omega]; exact hP0 g (by omega) (d + 3) (dep + 1) _ F13 H13 r14 s13 (by omega) hr14) (fun H14 e => ?_) (fun v H14 e => ?_)
    · obtain ⟨e', e1, e2⟩ := e
      rw [hr14, e1] at hpx
      have hpx := pbi_inl hpx
      exact Or.inl ⟨_, rfl, _, hpx, (p13.bd e2).wk (by omega)⟩
    obtain ⟨cy, ty, qy, F14, rfl, e1, s14, n14, w14, f14⟩ := e
    rw [hr14, e1] at hpx
    have hpx := pbi_inr hpx
    have u14 := u13.keep s13 g200 f14
    have p14 := p13.tr f14
    have z14 := p14.z
    show mu_W _ mu_m502 (51, [(2, .inr (.inr (some q))), (1, .inl (0 : Int32)), (0, .inr (.inr (some 169)))], [.inr (.inr (some qy)), .inr (.inr (some q))], H14) _
    have cp15 := u14.cap
    refine mw_cA (fun _ => rfl) (show mu_is H14 (some q) 18 from u14.is) (nd_addU u14 s14 g200 (n14.le (by omega)) (by omega) (by omega)) (fun r H15 q15 => ?_)
    obtain ⟨rfl, a15, c_15, v15, s15, hc15, k15⟩ := q15
    have cq15 := v15.cap
    simp only [List.length_append, List.length_cons, List.length_nil] at cp15 cq15
    have p15 := p14.kp k15 (fun p z => z) (by omega) (by omega)
    have z15 := p15.z
    show mu_W _ mu_m502 (54, [(2, .inr (.inr (some q))), (1, .inl (0 : Int32)), (0, .inr (.inr (some 169)))], [.inr (.inr (some q))], H15) _
    refine mw_go mu_g502 (k := 1) (f1 := (55, [(2, .inr (.inr (some q))), (1, .inl (0 : Int32)), (0, .inr (.inr (some 169)))], [], H15)) (C := []) rfl trivial ?_
    refine mw_go mu_g502 (k := 2) (f1 := (58, [(2, .inr (.inr (some q))), (1, .inl (0 : Int32)), (0, .inr (.inr (some 169)))], [.inr (.inr (some 1000015)), .inr (.inr (some 169))], H15)) (C := []) rfl trivial ?_
    refine mw_cX (as := [.inr (.inr (some (1000000 + 15)))]) (o := some 169) (S1 := []) rfl rfl rfl rfl (Nat.le_of_ble_eq_true rfl) (by decide) s15.is rfl (rp_expect s15 (by omega) (j := 15) (by decide)) (fun H16 e => ?_) (fun v H16 e => ?_)
    · obtain ⟨e1, e2⟩ := e
      have hpx := exq_no hpx e1
      exact Or.inl ⟨_, rfl, _, hpx, (p15.bd e2).wk (by omega)⟩
    obtain ⟨rfl, e16, F16, s16, f16⟩ := e
    have hpx := exq_ye hpx e16
    have st16 : pot n (adv T n ty) + ((adv T n ty).2.2 - ty.2.2 + 4) + 15 ≤ pot n ty := pot_step (T := T) s15.tkf.2.2 (tis_ne e16)
    have f16 : pfr ((adv T n ty).2.2 - ty.2.2 + 4) F14 F16 H15 H16 := f16
    have u16 := v15.keep s15 g200 f16
    have p16 := p15.tr f16
    have z16 := p16.z
    have s16 : pst T n (adv T n ty) (dep + 1) F16 H16 := s16
    show mu_W _ mu_m502 (61, [(2, .inr (.inr (some q))), (1, .inl (0 : Int32)), (0, .inr (.inr (some 169)))], [], H16) _
    refine mw_go mu_g502 (k := 2) (f1 := (64, [(2, .inr (.inr (some q))), (1, .inl (0 : Int32)), (0, .inr (.inr (some 169)))], [.inr (.inr (some 1000053)), .inr (.inr (some 169))], H16)) (C := []) rfl trivial ?_
    refine mw_cIe (fun _ => rfl) (show mu_is H16 (some 169) 1 from s16.is) (rp_isL (j := 53) s16 (by decide)) ?_
    refine mw_if (P := (tis T (adv T n ty) (txt 53)) = 0) (a := 20) (b := 70) (fun _ => rfl) trivial (fun h1 => ?_) (fun h1 => ?_)
    · -- 20
      have hpx := ite_ye hpx h1
      refine mw_sub (L' := [(2, .inr (.inr (some q))), (1, .inl (0 : Int32)), (0, .inr (.inr (some 169)))]) (by simp) ?_
      refine rp_cases0_loop hP0 hz g200 g (by omega) _ _ _ _ _ _ (qs ++ [qx] ++ [qy]) (cs ++ [cx] ++ [cy]) s16 u16 p16 ?_ hpx
      simp only [List.length_append, List.length_cons, List.length_nil]
      omega
    · -- 70
      have hpx := ite_no hpx h1
      refine mw_go mu_g502 (k := 1) (f1 := (71, [(2, .inr (.inr (some q))), (1, .inl (0 : Int32)), (0, .inr (.inr (some 169)))], [.inr (.inr (some 169))], H16)) (C := []) rfl trivial ?_
      have st17 : pot n (adv T n (adv T n ty)) + ((adv T n (adv T n ty)).2.2 - (adv T n ty).2.2 + 4) + 15 ≤ pot n (adv T n ty) := pot_step (T := T) s16.tkf.2.2 (tis_ne h1)
      refine mw_cV (fun _ => rfl) (show mu_is H16 (some 169) 1 from s16.is) (rp_advance s16 (tis_ne h1) (by omega)) (fun H17 q17 => ?_)
      obtain ⟨F17, s17, f17⟩ := q17
      have f17 : pfr ((adv T n (adv T n ty)).2.2 - (adv T n ty).2.2 + 4) F16 F17 H16 H17 := f17
      have u17 := u16.keep s16 g200 f17
      have p17 := p16.tr f17
      have z17 := p17.z
      have s17 : pst T n (adv T n (adv T n ty)) (dep + 1) F17 H17 := s17
      show mu_W _ mu_m502 (74, [(2, .inr (.inr (some q))), (1, .inl (0 : Int32)), (0, .inr (.inr (some 169)))], [], H17) _
      have x18 : mu_i H17 169 12 - (1 : Int32) = nI dep := by rw [s17.f12]; exact nI_pred _
      refine mw_go mu_g502 (k := 5) (f1 := (81, [(2, .inr (.inr (some q))), (1, .inl (0 : Int32)), (0, .inr (.inr (some 169)))], [.inl ((mu_i H17 169 12) - (1 : Int32)), .inr (.inr (some 169))], H17)) (C := [mu_is H17 (some 169) 1]) rfl (show mu_is H17 (some 169) 1 from s17.is) ?_
      refine mw_fr (f' := (81, [(2, .inr (.inr (some q))), (1, .inl (0 : Int32)), (0, .inr (.inr (some 169)))], [.inl (nI dep), .inr (.inr (some 169))], H17)) (by first | (rw [x18]; done) | (rw [x18]; rfl)) ?_
      refine mw_go mu_g502 (k := 1) (f1 := (84, [(2, .inr (.inr (some q))), (1, .inl (0 : Int32)), (0, .inr (.inr (some 169)))], [], (mu_si H17 169 12 (nI dep)))) (C := [mu_is H17 (some 169) 1]) rfl (show mu_is H17 (some 169) 1 from s17.is) ?_
      obtain ⟨s18, f18⟩ := s17.dp (dep' := dep) (by omega)
      obtain ⟨H18, eH18⟩ : ∃ K, K = mu_si H17 169 12 (nI dep) := ⟨_, rfl⟩
      rw [← eH18] at s18 f18 ⊢
      have u18 := u17.keep s17 g200 f18
      have p18 := p17.tr f18
      have z18 := p18.z
      show mu_W _ mu_m502 (84, [(2, .inr (.inr (some q))), (1, .inl (0 : Int32)), (0, .inr (.inr (some 169)))], [], H18) _
      refine mw_go mu_g502 (k := 1) (f1 := (85, [(2, .inr (.inr (some q))), (1, .inl (0 : Int32)), (0, .inr (.inr (some 169)))], [.inr (.inr (some q))], H18)) (C := []) rfl trivial ?_
      obtain ⟨F19, s19, n19, p19⟩ := u18.done s18 g200 p18
      have z19 := p19.z
      exact mw_of (fun _ => mu_ret rfl trivial (Or.inr ⟨_, _, rfl, _, _, q, F19, rfl, pok_eq hpx, s19, n19.le (by omega), by omega, p19.wk (by omega)⟩))
theorem rp_cases0 {T : Nat → Int32} {n f : Nat} (hP0 : ∀ g, g ≤ f → pct T n g 0 491 14) : pctb T n (f + 1) 9 502 12 0 := by
  intro d dep t F H res hs hz hpx
  have hpx : px9 T n (px T n f) 29 dep t = some res := hpx
  unfold px9 at hpx
  have g200 := hs.1.1
  have hd0 := hs.2.2.2.1.2
  have p0 : pfr 0 F F H H := pfr.rf
  have z0 := p0.z
  refine mu_meth (M := mu_m502) rfl rfl ?_
  refine mw_ht (mu_fn_of (show [0, 1].Nodup by decide)) ?_
  refine mw_go mu_g502 (k := 1) (f1 := (1, [(0, .inr (.inr (some 169))), (1, .inl (0 : Int32))], [.inr (.inr (some 169))], H)) (C := []) rfl trivial ?_
  refine mw_cX (as := []) (o := some 169) (S1 := []) rfl rfl rfl rfl (Nat.le_of_ble_eq_true rfl) (by decide) hs.is rfl (rp_nest hs) (fun H11 e => ?_) (fun v H11 e => ?_)
  · obtain ⟨e1, e2⟩ := e
    have hpx := nst_hi hpx e1
    exact Or.inl ⟨_, rfl, _, hpx, (p0.bd e2).wk (by omega)⟩
  obtain ⟨rfl, d11, e11⟩ := e
  have hpx := nst_lo hpx d11
  obtain ⟨s11, f11⟩ := hs.dp (dep' := dep + 1) (by omega)
  rw [← e11] at s11 f11
  have p11 := p0.tr f11
  have z11 := p11.z
  have s11 : pst T n t (dep + 1) F H11 := s11
  show mu_W _ mu_m502 (4, [(0, .inr (.inr (some 169))), (1, .inl (0 : Int32))], [], H11) _
  refine mw_go mu_g502 (k := 2) (f1 := (7, [(0, .inr (.inr (some 169))), (1, .inl (0 : Int32))], [.inr (.inr (some 1000052)), .inr (.inr (some 169))], H11)) (C := []) rfl trivial ?_
  refine mw_cX (as := [.inr (.inr (some (1000000 + 52)))]) (o := some 169) (S1 := []) rfl rfl rfl rfl (Nat.le_of_ble_eq_true rfl) (by decide) s11.is rfl (rp_expect s11 (by omega) (j := 52) (by decide)) (fun H12 e => ?_) (fun v H12 e => ?_)
  · obtain ⟨e1, e2⟩ := e
    have hpx := exq_no hpx e1
    exact Or.inl ⟨_, rfl, _, hpx, (p11.bd e2).wk (by omega)⟩
  obtain ⟨rfl, e12, F12, s12, f12⟩ := e
  have hpx := exq_ye hpx e12
  have st12 : pot n (adv T n t) + ((adv T n t).2.2 - t.2.2 + 4) + 15 ≤ pot n t := pot_step (T := T) s11.tkf.2.2 (tis_ne e12)
  have f12 : pfr ((adv T n t).2.2 - t.2.2 + 4) F F12 H11 H12 := f12
  have p12 := p11.tr f12
  have z12 := p12.z
  have s12 : pst T n (adv T n t) (dep + 1) F12 H12 := s12
  show mu_W _ mu_m502 (10, [(0, .inr (.inr (some 169))), (1, .inl (0 : Int32))], [], H12) _
  refine mw_newo rfl (by decide) (by omega) ?_
  show mu_W _ mu_m502 (13, [(0, .inr (.inr (some 169))), (1, .inl (0 : Int32))], [.inr (.inr (some (mu_z H12)))], (mu_nw H12 18 0 8)) _
  refine mw_go mu_g502 (k := 2) (f1 := (16, [(0, .inr (.inr (some 169))), (1, .inl (0 : Int32))], [.inr (.inr (some 1000052)), .inr (.inr (some (mu_z H12))), .inr (.inr (some (mu_z H12)))], (mu_nw H12 18 0 8))) (C := []) rfl trivial ?_
  refine mw_cV (fun _ => rfl) ⟨rfl, Nat.lt_succ_self _⟩ (nd_newL (j := 52) (H0 := H) (f := f) s12 (by omega) (by omega) (by decide)) (fun H13 q13 => ?_)
  obtain ⟨v13, s13, k13⟩ := q13
  have f13 : pfr (0 + 2) F12 F12 H12 H13 := pfr.rf.kp k13 (fun p z => z) (by omega) (by omega)
  have p13 := p12.tr f13
  have z13 := p13.z
  show mu_W _ mu_m502 (19, [(0, .inr (.inr (some 169))), (1, .inl (0 : Int32))], [.inr (.inr (some (mu_z H12)))], H13) _
  refine mw_go mu_g502 (k := 1) (f1 := (20, [(2, .inr (.inr (some (mu_z H12)))), (0, .inr (.inr (some 169))), (1, .inl (0 : Int32))], [], H13)) (C := []) rfl trivial ?_
  refine mw_sub (L' := [(2, .inr (.inr (some (mu_z H12)))), (1, .inl (0 : Int32)), (0, .inr (.inr (some 169)))]) (by simp) ?_
  refine rp_cases0_loop hP0 hz g200 f (Nat.le_refl _) _ _ _ _ _ _ [] [] s13 v13 p13 ?_ hpx
  simp only [List.length_nil]
  omega
theorem rp_cases1_loop {T : Nat → Int32} {n f d dep q s : Nat} {t0 : Tok} {F0 : Nat → Prop} {H0 : mu_H} {res : Nat ⊕ (Tre × Tok)} (hP0 : ∀ g, g ≤ f → pct T n g 0 491 14) (hP1 : ∀ g, g ≤ f → pct T n g 11 503 12) (hz : mu_z H0 + pot n t0 + 40 ≤ 1000000) (g200 : 200 < mu_z H0) : ∀ g, g ≤ f → ∀ A F H t a c qs cs, pst T n t (dep + 1) F H → nu H0 H F f q a c s 52 0 qs cs → pfr A F0 F H0 H → A + 27 * qs.length + pot n t + 15 ≤ pot n t0 + c → px T n g 30 (dep + 1) cs t = some res → mu_W (mu_D (d + 6 * (150 - dep) + 11)) mu_m502 (20, [(2, .inr (.inr (some q))), (1, .inl (1 : Int32)), (0, .inr (.inr (some 169)))], [], H) (fun r => (∃ H1, r = (.inr 0, H1) ∧ ∃ e, res = .inl e ∧ pbd T n e (pot n t0 + 30) H0 H1) ∨ ∃ v H1, r = (.inl v, H1) ∧ ∃ c t1 q F1, v = some (.inr (.inr (some q))) ∧ res = .inr (c, t1) ∧ pst T n t1 dep F1 H1 ∧ nd H1 F1 (f + 1) q c ∧ pot n t1 + 12 ≤ pot n t0 ∧ pfr (pot n t0 - pot n t1 - 12) F0 F1 H0 H1)
  | 0, _, _, _, _, _, _, _, _, _, _, _, _, _, hpx => by cases hpx
  | g + 1, hg, A, F, H, t, a, c, qs, cs, hs, hu, hp, hA0, hpx => by
    have hpx : pxC T n (px T n g) 11 30 (dep + 1) cs t = some res := hpx
    unfold pxC at hpx
    have hcap := hu.cap
    have hA := hp.z
    have hd0 := hs.2.2.2.1.2
    refine mw_go mu_g502 (k := 2) (f1 := (22, [(2, .inr (.inr (some q))), (1, .inl (1 : Int32)), (0, .inr (.inr (some 169)))], [.inr (.inr (some 169)), .inr (.inr (some q))], H)) (C := []) rfl trivial ?_
    obtain ⟨r11, hr11⟩ := pbi_some hpx
    refine mw_cX (as := []) (o := some 169) (S1 := [.inr (.inr (some q))]) rfl rfl rfl rfl (Nat.le_of_ble_eq_true rfl) (by decide) hs.is rfl (show mu_TX (mu_D (d + 6 * (150 - dep) + 11)) _ _ _ _ _ from by rw [show d + 6 * (150 - dep) + 11 = (d + 3) + 6 * (150 - (dep + 1)) + 14 by omega]; exact hP0 g (by omega) (d + 3) (dep + 1) _ F H r11 hs (by omega) hr11) (fun H11 e => ?_) (fun v H11 e => ?_)
    · obtain ⟨e', e1, e2⟩ := e
      rw [hr11, e1] at hpx
      have hpx := pbi_inl hpx
      exact Or.inl ⟨_, rfl, _, hpx, (hp.bd e2).wk (by omega)⟩
    obtain ⟨cx, tx, qx, F11, rfl, e1, s11, n11, w11, f11⟩ := e
    rw [hr11, e1] at hpx
    have hpx := pbi_inr hpx
    have u11 := hu.keep hs g200 f11
    have p11 := hp.tr f11
    have z11 := p11.z
    show mu_W _ mu_m502 (25, [(2, .inr (.inr (some q))), (1, .inl (1 : Int32)), (0, .inr (.inr (some 169)))], [.inr (.inr (some qx)), .inr (.inr (some q))], H11) _
    have cp12 := u11.cap
    refine mw_cA (fun _ => rfl) (show mu_is H11 (some q) 18 from u11.is) (nd_addU u11 s11 g200 (n11.le (by omega)) (by omega) (by omega)) (fun r H12 q12 => ?_)
    obtain ⟨rfl, a12, c_12, v12, s12, hc12, k12⟩ := q12
    have cq12 := v12.cap
    simp only [List.length_append, List.length_cons, List.length_nil] at cp12 cq12
    have p12 := p11.kp k12 (fun p z => z) (by omega) (by omega)
    have z12 := p12.z
    show mu_W _ mu_m502 (28, [(2, .inr (.inr (some q))), (1, .inl (1 : Int32)), (0, .inr (.inr (some 169)))], [.inr (.inr (some q))], H12) _
    refine mw_go mu_g502 (k := 1) (f1 := (29, [(2, .inr (.inr (some q))), (1, .inl (1 : Int32)), (0, .inr (.inr (some 169)))], [], H12)) (C := []) rfl trivial ?_
    refine mw_go mu_g502 (k := 2) (f1 := (32, [(2, .inr (.inr (some q))), (1, .inl (1 : Int32)), (0, .inr (.inr (some 169)))], [.inr (.inr (some 1000016)), .inr (.inr (some 169))], H12)) (C := []) rfl trivial ?_
    refine mw_cX (as := [.inr (.inr (some (1000000 + 16)))]) (o := some 169) (S1 := []) rfl rfl rfl rfl (Nat.le_of_ble_eq_true rfl) (by decide) s12.is rfl (rp_expect s12 (by omega) (j := 16) (by decide)) (fun H13 e => ?_) (fun v H13 e => ?_)
    · obtain ⟨e1, e2⟩ := e
      have hpx := exq_no hpx e1
      exact Or.inl ⟨_, rfl, _, hpx, (p12.bd e2).wk (by omega)⟩
    obtain ⟨rfl, e13, F13, s13, f13⟩ := e
    have hpx := exq_ye hpx e13
    have st13 : pot n (adv T n tx) + ((adv T n tx).2.2 - tx.2.2 + 4) + 15 ≤ pot n tx := pot_step (T := T) s12.tkf.2.2 (tis_ne e13)
    have f13 : pfr ((adv T n tx).2.2 - tx.2.2 + 4) F11 F13 H12 H13 := f13
    have u13 := v12.keep s12 g200 f13
    have p13 := p12.tr f13
    have z13 := p13.z
    have s13 : pst T n (adv T n tx) (dep + 1) F13 H13 := s13
    show mu_W _ mu_m502 (35, [(2, .inr (.inr (some q))), (1, .inl (1 : Int32)), (0, .inr (.inr (some 169)))], [], H13) _
    refine mw_go mu_g502 (k := 2) (f1 := (37, [(2, .inr (.inr (some q))), (1, .inl (1 : Int32)), (0, .inr (.inr (some 169)))], [.inl (1 : Int32), .inr (.inr (some q))], H13)) (C := []) rfl trivial ?_
    refine mw_if (P := (1 : Int32) = 0) (a := 47) (b := 40) (fun _ => rfl) trivial (fun h9 => absurd (show (1 : Int32) = 0 from h9) (by decide)) (fun h9 => ?_)
    refine mw_go mu_g502 (k := 1) (f1 := (41, [(2, .inr (.inr (some q))), (1, .inl (1 : Int32)), (0, .inr (.inr (some 169)))], [.inr (.inr (some 169)), .inr (.inr (some q))], H13)) (C := []) rfl trivial ?_
    obtain ⟨r14, hr14⟩ := pbi_some hpx
    refine mw_cX (as := []) (o := some 169) (S1 := [.inr (.inr (some q))]) rfl rfl rfl rfl (Nat.le_of_ble_eq_true rfl) (by decide) s13.is rfl (show mu_TX (mu_D (d + 6 * (150 - dep) + 11)) _ _ _ _ _ from by rw [show d + 6 * (150 - dep) + 11 = (d + 5) + 6 * (150 - (dep + 1)) + 12 by omega]; exact hP1 g (by omega) (d + 5) (dep + 1) _ F13 H13 r14 s13 (by omega) hr14) (fun H14 e => ?_) (fun v H14 e => ?_)
    · obtain ⟨e', e1, e2⟩ := e
      rw [hr14, e1] at hpx
      have hpx := pbi_inl hpx
      exact Or.inl ⟨_, rfl, _, hpx, (p13.bd e2).wk (by omega)⟩
    obtain ⟨cy, ty, qy, F14, rfl, e1, s14, n14, w14, f14⟩ := e
    rw [hr14, e1] at hpx
    have hpx := pbi_inr hpx
    have u14 := u13.keep s13 g200 f14
    have p14 := p13.tr f14
    have z14 := p14.z
    show mu_W _ mu_m502 (44, [(2, .inr (.inr (some q))), (1, .inl (1 : Int32)), (0, .inr (.inr (some 169)))], [.inr (.inr (some qy)), .inr (.inr (some q))], H14) _
    refine mw_go mu_g502 (k := 1) (f1 := (51, [(2, .inr (.inr (some q))), (1, .inl (1 : Int32)), (0, .inr (.inr (some 169)))], [.inr (.inr (some qy)), .inr (.inr (some q))], H14)) (C := []) rfl trivial ?_
    have cp15 := u14.cap
    refine mw_cA (fun _ => rfl) (show mu_is H14 (some q) 18 from u14.is) (nd_addU u14 s14 g200 (n14.le (by omega)) (by omega) (by omega)) (fun r H15 q15 => ?_)
    obtain ⟨rfl, a15, c_15, v15, s15, hc15, k15⟩ := q15
    have cq15 := v15.cap
    simp only [List.length_append, List.length_cons, List.length_nil] at cp15 cq15
    have p15 := p14.kp k15 (fun p z => z) (by omega) (by omega)
    have z15 := p15.z
    show mu_W _ mu_m502 (54, [(2, .inr (.inr (some q))), (1, .inl (1 : Int32)), (0, .inr (.inr (some 169)))], [.inr (.inr (some q))], H15) _
    refine mw_go mu_g502 (k := 1) (f1 := (55, [(2, .inr (.inr (some q))), (1, .inl (1 : Int32)), (0, .inr (.inr (some 169)))], [], H15)) (C := []) rfl trivial ?_
    refine mw_go mu_g502 (k := 2) (f1 := (58, [(2, .inr (.inr (some q))), (1, .inl (1 : Int32)), (0, .inr (.inr (some 169)))], [.inr (.inr (some 1000015)), .inr (.inr (some 169))], H15)) (C := []) rfl trivial ?_
    refine mw_cX (as := [.inr (.inr (some (1000000 + 15)))]) (o := some 169) (S1 := []) rfl rfl rfl rfl (Nat.le_of_ble_eq_true rfl) (by decide) s15.is rfl (rp_expect s15 (by omega) (j := 15) (by decide)) (fun H16 e => ?_) (fun v H16 e => ?_)
    · obtain ⟨e1, e2⟩ := e
      have hpx := exq_no hpx e1
      exact Or.inl ⟨_, rfl, _, hpx, (p15.bd e2).wk (by omega)⟩
    obtain ⟨rfl, e16, F16, s16, f16⟩ := e
    have hpx := exq_ye hpx e16
    have st16 : pot n (adv T n ty) + ((adv T n ty).2.2 - ty.2.2 + 4) + 15 ≤ pot n ty := pot_step (T := T) s15.tkf.2.2 (tis_ne e16)
    have f16 : pfr ((adv T n ty).2.2 - ty.2.2 + 4) F14 F16 H15 H16 := f16
    have u16 := v15.keep s15 g200 f16
    have p16 := p15.tr f16
    have z16 := p16.z
    have s16 : pst T n (adv T n ty) (dep + 1) F16 H16 := s16
    show mu_W _ mu_m502 (61, [(2, .inr (.inr (some q))), (1, .inl (1 : Int32)), (0, .inr (.inr (some 169)))], [], H16) _
    refine mw_go mu_g502 (k := 2) (f1 := (64, [(2, .inr (.inr (some q))), (1, .inl (1 : Int32)), (0, .inr (.inr (some 169)))], [.inr (.inr (some 1000053)), .inr (.inr (some 169))], H16)) (C := []) rfl trivial ?_
    refine mw_cIe (fun _ => rfl) (show mu_is H16 (some 169) 1 from s16.is) (rp_isL (j := 53) s16 (by decide)) ?_
    refine mw_if (P := (tis T (adv T n ty) (txt 53)) = 0) (a := 20) (b := 70) (fun _ => rfl) trivial (fun h1 => ?_) (fun h1 => ?_)
    · -- 20
      have hpx := ite_ye hpx h1
      refine mw_sub (L' := [(2, .inr (.inr (some q))), (1, .inl (1 : Int32)), (0, .inr (.inr (some 169)))]) (by simp) ?_
      refine rp_cases1_loop hP0 hP1 hz g200 g (by omega) _ _ _ _ _ _ (qs ++ [qx] ++ [qy]) (cs ++ [cx] ++ [cy]) s16 u16 p16 ?_ hpx
      simp only [List.length_append, List.length_cons, List.length_nil]
      omega
    · -- 70
      have hpx := ite_no hpx h1
      refine mw_go mu_g502 (k := 1) (f1 := (71, [(2, .inr (.inr (some q))), (1, .inl (1 : Int32)), (0, .inr (.inr (some 169)))], [.inr (.inr (some 169))], H16)) (C := []) rfl trivial ?_
      have st17 : pot n (adv T n (adv T n ty)) + ((adv T n (adv T n ty)).2.2 - (adv T n ty).2.2 + 4) + 15 ≤ pot n (adv T n ty) := pot_step (T := T) s16.tkf.2.2 (tis_ne h1)
      refine mw_cV (fun _ => rfl) (show mu_is H16 (some 169) 1 from s16.is) (rp_advance s16 (tis_ne h1) (by omega)) (fun H17 q17 => ?_)
      obtain ⟨F17, s17, f17⟩ := q17
      have f17 : pfr ((adv T n (adv T n ty)).2.2 - (adv T n ty).2.2 + 4) F16 F17 H16 H17 := f17
      have u17 := u16.keep s16 g200 f17
      have p17 := p16.tr f17
      have z17 := p17.z
      have s17 : pst T n (adv T n (adv T n ty)) (dep + 1) F17 H17 := s17
      show mu_W _ mu_m502 (74, [(2, .inr (.inr (some q))), (1, .inl (1 : Int32)), (0, .inr (.inr (some 169)))], [], H17) _
      have x18 : mu_i H17 169 12 - (1 : Int32) = nI dep := by rw [s17.f12]; exact nI_pred _
      refine mw_go mu_g502 (k := 5) (f1 := (81, [(2, .inr (.inr (some q))), (1, .inl (1 : Int32)), (0, .inr (.inr (some 169)))], [.inl ((mu_i H17 169 12) - (1 : Int32)), .inr (.inr (some 169))], H17)) (C := [mu_is H17 (some 169) 1]) rfl (show mu_is H17 (some 169) 1 from s17.is) ?_
      refine mw_fr (f' := (81, [(2, .inr (.inr (some q))), (1, .inl (1 : Int32)), (0, .inr (.inr (some 169)))], [.inl (nI dep), .inr (.inr (some 169))], H17)) (by first | (rw [x18]; done) | (rw [x18]; rfl)) ?_
      refine mw_go mu_g502 (k := 1) (f1 := (84, [(2, .inr (.inr (some q))), (1, .inl (1 : Int32)), (0, .inr (.inr (some 169)))], [], (mu_si H17 169 12 (nI dep)))) (C := [mu_is H17 (some 169) 1]) rfl (show mu_is H17 (some 169) 1 from s17.is) ?_
      obtain ⟨s18, f18⟩ := s17.dp (dep' := dep) (by omega)
      obtain ⟨H18, eH18⟩ : ∃ K, K = mu_si H17 169 12 (nI dep) := ⟨_, rfl⟩
      rw [← eH18] at s18 f18 ⊢
      have u18 := u17.keep s17 g200 f18
      have p18 := p17.tr f18
      have z18 := p18.z
      show mu_W _ mu_m502 (84, [(2, .inr (.inr (some q))), (1, .inl (1 : Int32)), (0, .inr (.inr (some 169)))], [], H18) _
      refine mw_go mu_g502 (k := 1) (f1 := (85, [(2, .inr (.inr (some q))), (1, .inl (1 : Int32)), (0, .inr (.inr (some 169)))], [.inr (.inr (some q))], H18)) (C := []) rfl trivial ?_
      obtain ⟨F19, s19, n19, p19⟩ := u18.done s18 g200 p18
      have z19 := p19.z
      exact mw_of (fun _ => mu_ret rfl trivial (Or.inr ⟨_, _, rfl, _, _, q, F19, rfl, pok_eq hpx, s19, n19.le (by omega), by omega, p19.wk (by omega)⟩))
theorem rp_cases1 {T : Nat → Int32} {n f : Nat} (hP0 : ∀ g, g ≤ f → pct T n g 0 491 14) (hP1 : ∀ g, g ≤ f → pct T n g 11 503 12) : pctb T n (f + 1) 10 502 12 1 := by
  intro d dep t F H res hs hz hpx
  have hpx : px9 T n (px T n f) 30 dep t = some res := hpx
  unfold px9 at hpx
  have g200 := hs.1.1
  have hd0 := hs.2.2.2.1.2
  have p0 : pfr 0 F F H H := pfr.rf
  have z0 := p0.z
  refine mu_meth (M := mu_m502) rfl rfl ?_
  refine mw_ht (mu_fn_of (show [0, 1].Nodup by decide)) ?_
  refine mw_go mu_g502 (k := 1) (f1 := (1, [(0, .inr (.inr (some 169))), (1, .inl (1 : Int32))], [.inr (.inr (some 169))], H)) (C := []) rfl trivial ?_
  refine mw_cX (as := []) (o := some 169) (S1 := []) rfl rfl rfl rfl (Nat.le_of_ble_eq_true rfl) (by decide) hs.is rfl (rp_nest hs) (fun H11 e => ?_) (fun v H11 e => ?_)
  · obtain ⟨e1, e2⟩ := e
    have hpx := nst_hi hpx e1
    exact Or.inl ⟨_, rfl, _, hpx, (p0.bd e2).wk (by omega)⟩
  obtain ⟨rfl, d11, e11⟩ := e
  have hpx := nst_lo hpx d11
  obtain ⟨s11, f11⟩ := hs.dp (dep' := dep + 1) (by omega)
  rw [← e11] at s11 f11
  have p11 := p0.tr f11
  have z11 := p11.z
  have s11 : pst T n t (dep + 1) F H11 := s11
  show mu_W _ mu_m502 (4, [(0, .inr (.inr (some 169))), (1, .inl (1 : Int32))], [], H11) _
  refine mw_go mu_g502 (k := 2) (f1 := (7, [(0, .inr (.inr (some 169))), (1, .inl (1 : Int32))], [.inr (.inr (some 1000052)), .inr (.inr (some 169))], H11)) (C := []) rfl trivial ?_
  refine mw_cX (as := [.inr (.inr (some (1000000 + 52)))]) (o := some 169) (S1 := []) rfl rfl rfl rfl (Nat.le_of_ble_eq_true rfl) (by decide) s11.is rfl (rp_expect s11 (by omega) (j := 52) (by decide)) (fun H12 e => ?_) (fun v H12 e => ?_)
  · obtain ⟨e1, e2⟩ := e
    have hpx := exq_no hpx e1
    exact Or.inl ⟨_, rfl, _, hpx, (p11.bd e2).wk (by omega)⟩
  obtain ⟨rfl, e12, F12, s12, f12⟩ := e
  have hpx := exq_ye hpx e12
  have st12 : pot n (adv T n t) + ((adv T n t).2.2 - t.2.2 + 4) + 15 ≤ pot n t := pot_step (T := T) s11.tkf.2.2 (tis_ne e12)
  have f12 : pfr ((adv T n t).2.2 - t.2.2 + 4) F F12 H11 H12 := f12
  have p12 := p11.tr f12
  have z12 := p12.z
  have s12 : pst T n (adv T n t) (dep + 1) F12 H12 := s12
  show mu_W _ mu_m502 (10, [(0, .inr (.inr (some 169))), (1, .inl (1 : Int32))], [], H12) _
  refine mw_newo rfl (by decide) (by omega) ?_
  show mu_W _ mu_m502 (13, [(0, .inr (.inr (some 169))), (1, .inl (1 : Int32))], [.inr (.inr (some (mu_z H12)))], (mu_nw H12 18 0 8)) _
  refine mw_go mu_g502 (k := 2) (f1 := (16, [(0, .inr (.inr (some 169))), (1, .inl (1 : Int32))], [.inr (.inr (some 1000052)), .inr (.inr (some (mu_z H12))), .inr (.inr (some (mu_z H12)))], (mu_nw H12 18 0 8))) (C := []) rfl trivial ?_
  refine mw_cV (fun _ => rfl) ⟨rfl, Nat.lt_succ_self _⟩ (nd_newL (j := 52) (H0 := H) (f := f) s12 (by omega) (by omega) (by decide)) (fun H13 q13 => ?_)
  obtain ⟨v13, s13, k13⟩ := q13
  have f13 : pfr (0 + 2) F12 F12 H12 H13 := pfr.rf.kp k13 (fun p z => z) (by omega) (by omega)
  have p13 := p12.tr f13
  have z13 := p13.z
  show mu_W _ mu_m502 (19, [(0, .inr (.inr (some 169))), (1, .inl (1 : Int32))], [.inr (.inr (some (mu_z H12)))], H13) _
  refine mw_go mu_g502 (k := 1) (f1 := (20, [(2, .inr (.inr (some (mu_z H12)))), (0, .inr (.inr (some 169))), (1, .inl (1 : Int32))], [], H13)) (C := []) rfl trivial ?_
  refine mw_sub (L' := [(2, .inr (.inr (some (mu_z H12)))), (1, .inl (1 : Int32)), (0, .inr (.inr (some 169)))]) (by simp) ?_
  refine rp_cases1_loop hP0 hP1 hz g200 f (Nat.le_refl _) _ _ _ _ _ _ [] [] s13 v13 p13 ?_ hpx
  simp only [List.length_nil]
  omega
theorem rp_choice_list {T : Nat → Int32} {n f d dep q s : Nat} {t0 : Tok} {F0 : Nat → Prop} {H0 : mu_H} {res : Nat ⊕ (Tre × Tok)} (hP0 : ∀ g, g ≤ f → pct T n g 0 491 14) (hz : mu_z H0 + pot n t0 + 40 ≤ 1000000) (g200 : 200 < mu_z H0) : ∀ g, g ≤ f → ∀ A F H t a c qs cs, pst T n t (dep + 1) F H → nu H0 H F f q a c s 10 0 qs cs → pfr A F0 F H0 H → A + 27 * qs.length + pot n t ≤ pot n t0 + c → px T n g 31 (dep + 1) cs t = some res → mu_W (mu_D (d + 6 * (150 - dep) + 11)) mu_m503 (34, [(1, .inr (.inr (some q))), (0, .inr (.inr (some 169)))], [], H) (fun r => (∃ H1, r = (.inr 0, H1) ∧ ∃ e, res = .inl e ∧ pbd T n e (pot n t0 + 30) H0 H1) ∨ ∃ v H1, r = (.inl v, H1) ∧ ∃ c t1 q F1, v = some (.inr (.inr (some q))) ∧ res = .inr (c, t1) ∧ pst T n t1 dep F1 H1 ∧ nd H1 F1 (f + 1) q c ∧ pot n t1 + 12 ≤ pot n t0 ∧ pfr (pot n t0 - pot n t1 - 12) F0 F1 H0 H1)
  | 0, _, _, _, _, _, _, _, _, _, _, _, _, _, hpx => by cases hpx
  | g + 1, hg, A, F, H, t, a, c, qs, cs, hs, hu, hp, hA0, hpx => by
    have hpx : pxL T n (px T n g) 10 31 (dep + 1) cs t = some res := hpx
    unfold pxL at hpx
    have hcap := hu.cap
    have hA := hp.z
    have hd0 := hs.2.2.2.1.2
    refine mw_go mu_g503 (k := 2) (f1 := (37, [(1, .inr (.inr (some q))), (0, .inr (.inr (some 169)))], [.inr (.inr (some 1000014)), .inr (.inr (some 169))], H)) (C := []) rfl trivial ?_
    refine mw_cIe (fun _ => rfl) (show mu_is H (some 169) 1 from hs.is) (rp_isL (j := 14) hs (by decide)) ?_
    refine mw_if (P := (tis T t (txt 14)) = 0) (a := 59) (b := 43) (fun _ => rfl) trivial (fun h1 => ?_) (fun h1 => ?_)
    · -- 59
      have hpx := ite_ye hpx h1
      refine mw_go mu_g503 (k := 2) (f1 := (62, [(1, .inr (.inr (some q))), (0, .inr (.inr (some 169)))], [.inr (.inr (some 1000011)), .inr (.inr (some 169))], H)) (C := []) rfl trivial ?_
      refine mw_cX (as := [.inr (.inr (some (1000000 + 11)))]) (o := some 169) (S1 := []) rfl rfl rfl rfl (Nat.le_of_ble_eq_true rfl) (by decide) hs.is rfl (rp_expect hs (by omega) (j := 11) (by decide)) (fun H11 e => ?_) (fun v H11 e => ?_)
      · obtain ⟨e1, e2⟩ := e
        have hpx := exq_no hpx e1
        exact Or.inl ⟨_, rfl, _, hpx, (hp.bd e2).wk (by omega)⟩
      obtain ⟨rfl, e11, F11, s11, f11⟩ := e
      have hpx := exq_ye hpx e11
      have st11 : pot n (adv T n t) + ((adv T n t).2.2 - t.2.2 + 4) + 15 ≤ pot n t := pot_step (T := T) hs.tkf.2.2 (tis_ne e11)
      have f11 : pfr ((adv T n t).2.2 - t.2.2 + 4) F F11 H H11 := f11
      have u11 := hu.keep hs g200 f11
      have p11 := hp.tr f11
      have z11 := p11.z
      have s11 : pst T n (adv T n t) (dep + 1) F11 H11 := s11
      show mu_W _ mu_m503 (65, [(1, .inr (.inr (some q))), (0, .inr (.inr (some 169)))], [], H11) _
      obtain ⟨F12, s12, n12, p12⟩ := u11.done s11 g200 p11
      have z12 := p12.z
      refine mw_go mu_g503 (k := 1) (f1 := (91, [(1, .inr (.inr (some q))), (0, .inr (.inr (some 169)))], [], H11)) (C := []) rfl trivial ?_
      have x13 : mu_i H11 169 12 - (1 : Int32) = nI dep := by rw [s12.f12]; exact nI_pred _
      refine mw_go mu_g503 (k := 5) (f1 := (98, [(1, .inr (.inr (some q))), (0, .inr (.inr (some 169)))], [.inl ((mu_i H11 169 12) - (1 : Int32)), .inr (.inr (some 169))], H11)) (C := [mu_is H11 (some 169) 1]) rfl (show mu_is H11 (some 169) 1 from s12.is) ?_
      refine mw_fr (f' := (98, [(1, .inr (.inr (some q))), (0, .inr (.inr (some 169)))], [.inl (nI dep), .inr (.inr (some 169))], H11)) (by first | (rw [x13]; done) | (rw [x13]; rfl)) ?_
      refine mw_go mu_g503 (k := 1) (f1 := (101, [(1, .inr (.inr (some q))), (0, .inr (.inr (some 169)))], [], (mu_si H11 169 12 (nI dep)))) (C := [mu_is H11 (some 169) 1]) rfl (show mu_is H11 (some 169) 1 from s12.is) ?_
      obtain ⟨s13, f13⟩ := s12.dp (dep' := dep) (by omega)
      obtain ⟨H13, eH13⟩ : ∃ K, K = mu_si H11 169 12 (nI dep) := ⟨_, rfl⟩
      rw [← eH13] at s13 f13 ⊢
      have n13_1 := n12.keep s12 f13
      have p13 := p12.tr f13
      have z13 := p13.z
      show mu_W _ mu_m503 (101, [(1, .inr (.inr (some q))), (0, .inr (.inr (some 169)))], [], H13) _
      refine mw_go mu_g503 (k := 1) (f1 := (102, [(1, .inr (.inr (some q))), (0, .inr (.inr (some 169)))], [.inr (.inr (some q))], H13)) (C := []) rfl trivial ?_
      exact mw_of (fun _ => mu_ret rfl trivial (Or.inr ⟨_, _, rfl, _, _, q, F12, rfl, pok_eq hpx, s13, n13_1.le (by omega), by omega, p13.wk (by omega)⟩))
    · -- 43
      have hpx := ite_no hpx h1
      refine mw_go mu_g503 (k := 1) (f1 := (44, [(1, .inr (.inr (some q))), (0, .inr (.inr (some 169)))], [.inr (.inr (some 169))], H)) (C := []) rfl trivial ?_
      have st11 : pot n (adv T n t) + ((adv T n t).2.2 - t.2.2 + 4) + 15 ≤ pot n t := pot_step (T := T) hs.tkf.2.2 (tis_ne h1)
      refine mw_cV (fun _ => rfl) (show mu_is H (some 169) 1 from hs.is) (rp_advance hs (tis_ne h1) (by omega)) (fun H11 q11 => ?_)
      obtain ⟨F11, s11, f11⟩ := q11
      have f11 : pfr ((adv T n t).2.2 - t.2.2 + 4) F F11 H H11 := f11
      have u11 := hu.keep hs g200 f11
      have p11 := hp.tr f11
      have z11 := p11.z
      have s11 : pst T n (adv T n t) (dep + 1) F11 H11 := s11
      show mu_W _ mu_m503 (47, [(1, .inr (.inr (some q))), (0, .inr (.inr (some 169)))], [], H11) _
      refine mw_go mu_g503 (k := 2) (f1 := (49, [(1, .inr (.inr (some q))), (0, .inr (.inr (some 169)))], [.inr (.inr (some 169)), .inr (.inr (some q))], H11)) (C := []) rfl trivial ?_
      obtain ⟨r12, hr12⟩ := pbi_some hpx
      refine mw_cX (as := []) (o := some 169) (S1 := [.inr (.inr (some q))]) rfl rfl rfl rfl (Nat.le_of_ble_eq_true rfl) (by decide) s11.is rfl (show mu_TX (mu_D (d + 6 * (150 - dep) + 11)) _ _ _ _ _ from by rw [show d + 6 * (150 - dep) + 11 = (d + 3) + 6 * (150 - (dep + 1)) + 14 by omega]; exact hP0 g (by omega) (d + 3) (dep + 1) _ F11 H11 r12 s11 (by omega) hr12) (fun H12 e => ?_) (fun v H12 e => ?_)
      · obtain ⟨e', e1, e2⟩ := e
        rw [hr12, e1] at hpx
        have hpx := pbi_inl hpx
        exact Or.inl ⟨_, rfl, _, hpx, (p11.bd e2).wk (by omega)⟩
      obtain ⟨cy, ty, qy, F12, rfl, e1, s12, n12, w12, f12⟩ := e
      rw [hr12, e1] at hpx
      have hpx := pbi_inr hpx
      have u12 := u11.keep s11 g200 f12
      have p12 := p11.tr f12
      have z12 := p12.z
      show mu_W _ mu_m503 (52, [(1, .inr (.inr (some q))), (0, .inr (.inr (some 169)))], [.inr (.inr (some qy)), .inr (.inr (some q))], H12) _
      have cp13 := u12.cap
      refine mw_cA (fun _ => rfl) (show mu_is H12 (some q) 18 from u12.is) (nd_addU u12 s12 g200 (n12.le (by omega)) (by omega) (by omega)) (fun r H13 q13 => ?_)
      obtain ⟨rfl, a13, c_13, v13, s13, hc13, k13⟩ := q13
      have cq13 := v13.cap
      simp only [List.length_append, List.length_cons, List.length_nil] at cp13 cq13
      have p13 := p12.kp k13 (fun p z => z) (by omega) (by omega)
      have z13 := p13.z
      show mu_W _ mu_m503 (55, [(1, .inr (.inr (some q))), (0, .inr (.inr (some 169)))], [.inr (.inr (some q))], H13) _
      refine mw_go mu_g503 (k := 2) (f1 := (34, [(1, .inr (.inr (some q))), (0, .inr (.inr (some 169)))], [], H13)) (C := []) rfl trivial ?_
      refine mw_sub (L' := [(1, .inr (.inr (some q))), (0, .inr (.inr (some 169)))]) (by simp) ?_
      refine rp_choice_list hP0 hz g200 g (by omega) _ _ _ _ _ _ (qs ++ [qy]) (cs ++ [cy]) s13 v13 p13 ?_ hpx
      simp only [List.length_append, List.length_cons, List.length_nil]
      omega
/-- choice -/
theorem rp_choice {T : Nat → Int32} {n f : Nat} (hP0 : ∀ g, g ≤ f → pct T n g 0 491 14) (hP10 : ∀ g, g ≤ f → pctb T n g 10 502 12 1) : pct T n (f + 1) 11 503 12 := by
  intro d dep t F H res hs hz hpx
  have hpx : px11 T n (px T n f) dep t = some res := hpx
  unfold px11 at hpx
  have g200 := hs.1.1
  have hd0 := hs.2.2.2.1.2
  have p0 : pfr 0 F F H H := pfr.rf
  have z0 := p0.z
  refine mu_meth (M := mu_m503) rfl rfl ?_
  refine mw_ht (mu_fn_of (show [0].Nodup by decide)) ?_
  refine mw_go mu_g503 (k := 1) (f1 := (1, [(0, .inr (.inr (some 169)))], [.inr (.inr (some 169))], H)) (C := []) rfl trivial ?_
  refine mw_cX (as := []) (o := some 169) (S1 := []) rfl rfl rfl rfl (Nat.le_of_ble_eq_true rfl) (by decide) hs.is rfl (rp_nest hs) (fun H11 e => ?_) (fun v H11 e => ?_)
  · obtain ⟨e1, e2⟩ := e
    have hpx := nst_hi hpx e1
    exact Or.inl ⟨_, rfl, _, hpx, (p0.bd e2).wk (by omega)⟩
  obtain ⟨rfl, d11, e11⟩ := e
  have hpx := nst_lo hpx d11
  obtain ⟨s11, f11⟩ := hs.dp (dep' := dep + 1) (by omega)
  rw [← e11] at s11 f11
  have p11 := p0.tr f11
  have z11 := p11.z
  have s11 : pst T n t (dep + 1) F H11 := s11
  show mu_W _ mu_m503 (4, [(0, .inr (.inr (some 169)))], [], H11) _
  refine mw_go mu_g503 (k := 2) (f1 := (7, [(0, .inr (.inr (some 169)))], [.inr (.inr (some 1000010)), .inr (.inr (some 169))], H11)) (C := []) rfl trivial ?_
  refine mw_cIe (fun _ => rfl) (show mu_is H11 (some 169) 1 from s11.is) (rp_isL (j := 10) s11 (by decide)) ?_
  refine mw_if (P := (tis T t (txt 10)) = 0) (a := 68) (b := 13) (fun _ => rfl) trivial (fun h1 => ?_) (fun h1 => ?_)
  · -- 68
    have hpx := ite_ye hpx h1
    refine mw_go mu_g503 (k := 2) (f1 := (71, [(0, .inr (.inr (some 169)))], [.inr (.inr (some 1000052)), .inr (.inr (some 169))], H11)) (C := []) rfl trivial ?_
    refine mw_cIe (fun _ => rfl) (show mu_is H11 (some 169) 1 from s11.is) (rp_isL (j := 52) s11 (by decide)) ?_
    refine mw_if (P := (tis T t (txt 52)) = 0) (a := 86) (b := 77) (fun _ => rfl) trivial (fun h2 => ?_) (fun h2 => ?_)
    · -- 86
      have hpx := pbi_id (ite_ye hpx h2)
      refine mw_go mu_g503 (k := 1) (f1 := (87, [(0, .inr (.inr (some 169)))], [.inr (.inr (some 169))], H11)) (C := []) rfl trivial ?_
      obtain ⟨r12, hr12⟩ := pbi_some hpx
      refine mw_cX (as := []) (o := some 169) (S1 := []) rfl rfl rfl rfl (Nat.le_of_ble_eq_true rfl) (by decide) s11.is rfl (show mu_TX (mu_D (d + 6 * (150 - dep) + 11)) _ _ _ _ _ from by rw [show d + 6 * (150 - dep) + 11 = (d + 3) + 6 * (150 - (dep + 1)) + 14 by omega]; exact hP0 f (Nat.le_refl _) (d + 3) (dep + 1) _ F H11 r12 s11 (by omega) hr12) (fun H12 e => ?_) (fun v H12 e => ?_)
      · obtain ⟨e', e1, e2⟩ := e
        rw [hr12, e1] at hpx
        have hpx := pbi_inl hpx
        exact Or.inl ⟨_, rfl, _, hpx, (p11.bd e2).wk (by omega)⟩
      obtain ⟨cy, ty, qy, F12, rfl, e1, s12, n12, w12, f12⟩ := e
      rw [hr12, e1] at hpx
      have hpx := pbi_inr hpx
      have p12 := p11.tr f12
      have z12 := p12.z
      show mu_W _ mu_m503 (90, [(0, .inr (.inr (some 169)))], [.inr (.inr (some qy))], H12) _
      refine mw_go mu_g503 (k := 1) (f1 := (91, [(1, .inr (.inr (some qy))), (0, .inr (.inr (some 169)))], [], H12)) (C := []) rfl trivial ?_
      have x13 : mu_i H12 169 12 - (1 : Int32) = nI dep := by rw [s12.f12]; exact nI_pred _
      refine mw_go mu_g503 (k := 5) (f1 := (98, [(1, .inr (.inr (some qy))), (0, .inr (.inr (some 169)))], [.inl ((mu_i H12 169 12) - (1 : Int32)), .inr (.inr (some 169))], H12)) (C := [mu_is H12 (some 169) 1]) rfl (show mu_is H12 (some 169) 1 from s12.is) ?_
      refine mw_fr (f' := (98, [(1, .inr (.inr (some qy))), (0, .inr (.inr (some 169)))], [.inl (nI dep), .inr (.inr (some 169))], H12)) (by first | (rw [x13]; done) | (rw [x13]; rfl)) ?_
      refine mw_go mu_g503 (k := 1) (f1 := (101, [(1, .inr (.inr (some qy))), (0, .inr (.inr (some 169)))], [], (mu_si H12 169 12 (nI dep)))) (C := [mu_is H12 (some 169) 1]) rfl (show mu_is H12 (some 169) 1 from s12.is) ?_
      obtain ⟨s13, f13⟩ := s12.dp (dep' := dep) (by omega)
      obtain ⟨H13, eH13⟩ : ∃ K, K = mu_si H12 169 12 (nI dep) := ⟨_, rfl⟩
      rw [← eH13] at s13 f13 ⊢
      have n13_1 := n12.keep s12 f13
      have p13 := p12.tr f13
      have z13 := p13.z
      show mu_W _ mu_m503 (101, [(1, .inr (.inr (some qy))), (0, .inr (.inr (some 169)))], [], H13) _
      refine mw_go mu_g503 (k := 1) (f1 := (102, [(1, .inr (.inr (some qy))), (0, .inr (.inr (some 169)))], [.inr (.inr (some qy))], H13)) (C := []) rfl trivial ?_
      exact mw_of (fun _ => mu_ret rfl trivial (Or.inr ⟨_, _, rfl, _, _, qy, F12, rfl, pok_eq hpx, s13, n13_1.le (by omega), by omega, p13.wk (by omega)⟩))
    · -- 77
      have hpx := pbi_id (ite_no hpx h2)
      refine mw_go mu_g503 (k := 2) (f1 := (79, [(0, .inr (.inr (some 169)))], [.inl (1 : Int32), .inr (.inr (some 169))], H11)) (C := []) rfl trivial ?_
      obtain ⟨r12, hr12⟩ := pbi_some hpx
      refine mw_cX (as := [.inl (1 : Int32)]) (o := some 169) (S1 := []) rfl rfl rfl rfl (Nat.le_of_ble_eq_true rfl) (by decide) s11.is rfl (show mu_TX (mu_D (d + 6 * (150 - dep) + 11)) _ _ _ _ _ from by rw [show d + 6 * (150 - dep) + 11 = (d + 5) + 6 * (150 - (dep + 1)) + 12 by omega]; exact hP10 f (Nat.le_refl _) (d + 5) (dep + 1) _ F H11 r12 s11 (by omega) hr12) (fun H12 e => ?_) (fun v H12 e => ?_)
      · obtain ⟨e', e1, e2⟩ := e
        rw [hr12, e1] at hpx
        have hpx := pbi_inl hpx
        exact Or.inl ⟨_, rfl, _, hpx, (p11.bd e2).wk (by omega)⟩
      obtain ⟨cy, ty, qy, F12, rfl, e1, s12, n12, w12, f12⟩ := e
      rw [hr12, e1] at hpx
      have hpx := pbi_inr hpx
      have p12 := p11.tr f12
      have z12 := p12.z
      show mu_W _ mu_m503 (82, [(0, .inr (.inr (some 169)))], [.inr (.inr (some qy))], H12) _
      refine mw_go mu_g503 (k := 2) (f1 := (91, [(1, .inr (.inr (some qy))), (0, .inr (.inr (some 169)))], [], H12)) (C := []) rfl trivial ?_
      have x13 : mu_i H12 169 12 - (1 : Int32) = nI dep := by rw [s12.f12]; exact nI_pred _
      refine mw_go mu_g503 (k := 5) (f1 := (98, [(1, .inr (.inr (some qy))), (0, .inr (.inr (some 169)))], [.inl ((mu_i H12 169 12) - (1 : Int32)), .inr (.inr (some 169))], H12)) (C := [mu_is H12 (some 169) 1]) rfl (show mu_is H12 (some 169) 1 from s12.is) ?_
      refine mw_fr (f' := (98, [(1, .inr (.inr (some qy))), (0, .inr (.inr (some 169)))], [.inl (nI dep), .inr (.inr (some 169))], H12)) (by first | (rw [x13]; done) | (rw [x13]; rfl)) ?_
      refine mw_go mu_g503 (k := 1) (f1 := (101, [(1, .inr (.inr (some qy))), (0, .inr (.inr (some 169)))], [], (mu_si H12 169 12 (nI dep)))) (C := [mu_is H12 (some 169) 1]) rfl (show mu_is H12 (some 169) 1 from s12.is) ?_
      obtain ⟨s13, f13⟩ := s12.dp (dep' := dep) (by omega)
      obtain ⟨H13, eH13⟩ : ∃ K, K = mu_si H12 169 12 (nI dep) := ⟨_, rfl⟩
      rw [← eH13] at s13 f13 ⊢
      have n13_1 := n12.keep s12 f13
      have p13 := p12.tr f13
      have z13 := p13.z
      show mu_W _ mu_m503 (101, [(1, .inr (.inr (some qy))), (0, .inr (.inr (some 169)))], [], H13) _
      refine mw_go mu_g503 (k := 1) (f1 := (102, [(1, .inr (.inr (some qy))), (0, .inr (.inr (some 169)))], [.inr (.inr (some qy))], H13)) (C := []) rfl trivial ?_
      exact mw_of (fun _ => mu_ret rfl trivial (Or.inr ⟨_, _, rfl, _, _, qy, F12, rfl, pok_eq hpx, s13, n13_1.le (by omega), by omega, p13.wk (by omega)⟩))
  · -- 13
    have hpx := ite_no hpx h1
    refine mw_go mu_g503 (k := 1) (f1 := (14, [(0, .inr (.inr (some 169)))], [.inr (.inr (some 169))], H11)) (C := []) rfl trivial ?_
    have st12 : pot n (adv T n t) + ((adv T n t).2.2 - t.2.2 + 4) + 15 ≤ pot n t := pot_step (T := T) s11.tkf.2.2 (tis_ne h1)
    refine mw_cV (fun _ => rfl) (show mu_is H11 (some 169) 1 from s11.is) (rp_advance s11 (tis_ne h1) (by omega)) (fun H12 q12 => ?_)
    obtain ⟨F12, s12, f12⟩ := q12
    have f12 : pfr ((adv T n t).2.2 - t.2.2 + 4) F F12 H11 H12 := f12
    have p12 := p11.tr f12
    have z12 := p12.z
    have s12 : pst T n (adv T n t) (dep + 1) F12 H12 := s12
    show mu_W _ mu_m503 (17, [(0, .inr (.inr (some 169)))], [], H12) _
    refine mw_newo rfl (by decide) (by omega) ?_
    show mu_W _ mu_m503 (20, [(0, .inr (.inr (some 169)))], [.inr (.inr (some (mu_z H12)))], (mu_nw H12 18 0 8)) _
    refine mw_go mu_g503 (k := 2) (f1 := (23, [(0, .inr (.inr (some 169)))], [.inr (.inr (some 1000010)), .inr (.inr (some (mu_z H12))), .inr (.inr (some (mu_z H12)))], (mu_nw H12 18 0 8))) (C := []) rfl trivial ?_
    refine mw_cV (fun _ => rfl) ⟨rfl, Nat.lt_succ_self _⟩ (nd_newL (j := 10) (H0 := H) (f := f) s12 (by omega) (by omega) (by decide)) (fun H13 q13 => ?_)
    obtain ⟨v13, s13, k13⟩ := q13
    have f13 : pfr (0 + 2) F12 F12 H12 H13 := pfr.rf.kp k13 (fun p z => z) (by omega) (by omega)
    have p13 := p12.tr f13
    have z13 := p13.z
    show mu_W _ mu_m503 (26, [(0, .inr (.inr (some 169)))], [.inr (.inr (some (mu_z H12)))], H13) _
    refine mw_go mu_g503 (k := 1) (f1 := (27, [(0, .inr (.inr (some 169)))], [.inr (.inr (some 169)), .inr (.inr (some (mu_z H12)))], H13)) (C := []) rfl trivial ?_
    obtain ⟨r14, hr14⟩ := pbi_some hpx
    refine mw_cX (as := []) (o := some 169) (S1 := [.inr (.inr (some (mu_z H12)))]) rfl rfl rfl rfl (Nat.le_of_ble_eq_true rfl) (by decide) s13.is rfl (show mu_TX (mu_D (d + 6 * (150 - dep) + 11)) _ _ _ _ _ from by rw [show d + 6 * (150 - dep) + 11 = (d + 3) + 6 * (150 - (dep + 1)) + 14 by omega]; exact hP0 f (Nat.le_refl _) (d + 3) (dep + 1) _ F12 H13 r14 s13 (by omega) hr14) (fun H14 e => ?_) (fun v H14 e => ?_)
    · obtain ⟨e', e1, e2⟩ := e
      rw [hr14, e1] at hpx
      have hpx := pbi_inl hpx
      exact Or.inl ⟨_, rfl, _, hpx, (p13.bd e2).wk (by omega)⟩
    obtain ⟨cy, ty, qy, F14, rfl, e1, s14, n14, w14, f14⟩ := e
    rw [hr14, e1] at hpx
    have hpx := pbi_inr hpx
    have u14 := v13.keep s13 g200 f14
    have p14 := p13.tr f14
    have z14 := p14.z
    show mu_W _ mu_m503 (30, [(0, .inr (.inr (some 169)))], [.inr (.inr (some qy)), .inr (.inr (some (mu_z H12)))], H14) _
    have cp15 := u14.cap
    refine mw_cA (fun _ => rfl) (show mu_is H14 (some (mu_z H12)) 18 from u14.is) (nd_addU u14 s14 g200 (n14.le (by omega)) (by omega) (by omega)) (fun r H15 q15 => ?_)
    obtain ⟨rfl, a15, c_15, v15, s15, hc15, k15⟩ := q15
    have cq15 := v15.cap
    simp only [List.length_append, List.length_cons, List.length_nil] at cp15 cq15
    have p15 := p14.kp k15 (fun p z => z) (by omega) (by omega)
    have z15 := p15.z
    show mu_W _ mu_m503 (33, [(0, .inr (.inr (some 169)))], [.inr (.inr (some (mu_z H12)))], H15) _
    refine mw_go mu_g503 (k := 1) (f1 := (34, [(1, .inr (.inr (some (mu_z H12)))), (0, .inr (.inr (some 169)))], [], H15)) (C := []) rfl trivial ?_
    refine mw_sub (L' := [(1, .inr (.inr (some (mu_z H12)))), (0, .inr (.inr (some 169)))]) (by simp) ?_
    refine rp_choice_list hP0 hz g200 f (Nat.le_refl _) _ _ _ _ _ _ _ _ s15 v15 p15 ?_ hpx
    simp only [List.length_append, List.length_cons, List.length_nil]
    omega
