/-! The reference: path -/
theorem getD_appN {l : List (List Int32)} {x : List Int32} {i : Nat} : (l ++ [x]).getD i [] = if i = l.length then x else l.getD i [] := by
  by_cases e : i = l.length
  · subst e
    rw [if_pos rfl]
    simp [List.getD_eq_getElem?_getD]
  · rw [if_neg e]
    by_cases e2 : i < l.length
    · simp [List.getD_eq_getElem?_getD, List.getElem?_append_left e2]
    · simp [List.getD_eq_getElem?_getD, List.getElem?_eq_none (show (l ++ [x]).length ≤ i by simp; omega), List.getElem?_eq_none (show l.length ≤ i by omega)]
/-- a name is laid behind the others -/
theorem pnm.add {H : mu_H} {F : Nat → Prop} {ns : List (List Int32)} {p s n dep : Nat} {b : List Int32} {T : Nat → Int32} {t : Tok} (h : pnm H F ns) (hs : pst T n t dep F H) (e : mu_r H 169 13 = some p) (hl : ns.length < mu_n H p) (hb : stf H F s b) : pnm (mu_sr H p ns.length (some s)) F (ns ++ [b]) := by
  obtain ⟨s2, f2⟩ := hs.pnw (i := ns.length) (v := some s) e
  have e13 : mu_r (mu_sr H p ns.length (some s)) 169 13 = some p := by
    rcases f2.2.1 with z | ⟨x, z, hx⟩
    · rw [z]; exact e
    · rw [mu_r_sr] at z ⊢
      by_cases c : 169 = p ∧ 13 = ns.length
      · obtain ⟨r, r1, _, r3, _⟩ := hs.2.2.2.2.2
        rw [r1] at e
        cases e
        exact absurd (by rw [← c.1]; decide) r3
      · rw [if_neg c]; exact e
  intro p' e'
  rw [e13] at e'
  cases e'
  refine ⟨by rw [List.length_append]; exact hl, fun i hi => ?_⟩
  rw [List.length_append] at hi
  have hi : i < ns.length + 1 := hi
  rw [getD_appN, mu_r_sr]
  by_cases c : i = ns.length
  · rw [if_pos c, if_pos ⟨rfl, c⟩]
    exact ⟨s, rfl, hb.kp f2.1.1 hs.nF⟩
  · rw [if_neg c, if_neg (fun z => c z.2)]
    obtain ⟨s', s1, s3⟩ := (h p e).2 i (by omega)
    exact ⟨s', s1, s3.kp f2.1.1 hs.nF⟩
theorem pot_top {n : Nat} {t : Tok} : pot n t ≤ 20 * n + 20 := by
  unfold pot
  split <;> omega
theorem rp_pname {d n dep q a c s k l0 : Nat} {T : Nat → Int32} {t0 : Tok} {F0 : Nat → Prop} {H0 : mu_H} {res : Nat ⊕ (Tre × Tok)} (hz : mu_z H0 + pot n t0 + 40 ≤ 1000000) (g200 : 200 < mu_z H0) {g A m l : Nat} {F : Nat → Prop} {H : mu_H} {t : Tok} {ns : List (List Int32)} (hs : pst T n t dep F H) (hu : nu H0 H F 0 q a c s k 0 [] []) (hn : pnm H F ns) (hp : pfr A F0 F H0 H) (hm : ns.length = m ∧ 0 < m) (hl : ∀ p, mu_r H 169 13 = some p → mu_n H p = l) (hml : m < l) (hA0 : A + 28 * m + pot n t + 13 ≤ pot n t0 + 15 + 2 * (l - l0) ∧ l0 ≤ l ∧ 16 ≤ l0 ∧ (l = l0 ∨ l ≤ 2 * m) ∧ l ≤ 131072) (hpx : (if nmz T t = 0 then per t else pth T n g k (ns ++ [slc T t.2.1 t.2.2]) (adv T n t)) = some res) (hk : ∀ A F H t ns m l, pst T n t dep F H → nu H0 H F 0 q a c s k 0 [] [] → pnm H F ns → pfr A F0 F H0 H → (ns.length = m ∧ 0 < m) → (∀ p, mu_r H 169 13 = some p → mu_n H p = l) → (A + 28 * m + pot n t ≤ pot n t0 + 15 + 2 * (l - l0) ∧ l0 ≤ l ∧ 16 ≤ l0 ∧ (l = l0 ∨ l ≤ 2 * m) ∧ l ≤ 131072) → pth T n g k ns t = some res → mu_W (mu_D (d + 8)) mu_m501 (21, [(3, .inl (nI m)), (2, .inr (.inr (some q))), (0, .inr (.inr (some 169)))], [], H) (fun r => (∃ H1, r = (.inr 0, H1) ∧ ∃ e, res = .inl e ∧ pbd T n e (pot n t0 + 30) H0 H1) ∨ ∃ v H1, r = (.inl v, H1) ∧ ∃ c t1 q F1, v = some (.inr (.inr (some q))) ∧ res = .inr (c, t1) ∧ pst T n t1 dep F1 H1 ∧ nd H1 F1 1 q c ∧ pot n t1 + 12 ≤ pot n t0 ∧ pfr (pot n t0 - pot n t1 - 12) F0 F1 H0 H1)) : mu_W (mu_D (d + 8)) mu_m501 (84, [(3, .inl (nI m)), (2, .inr (.inr (some q))), (0, .inr (.inr (some 169)))], [], H) (fun r => (∃ H1, r = (.inr 0, H1) ∧ ∃ e, res = .inl e ∧ pbd T n e (pot n t0 + 30) H0 H1) ∨ ∃ v H1, r = (.inl v, H1) ∧ ∃ c t1 q F1, v = some (.inr (.inr (some q))) ∧ res = .inr (c, t1) ∧ pst T n t1 dep F1 H1 ∧ nd H1 F1 1 q c ∧ pot n t1 + 12 ≤ pot n t0 ∧ pfr (pot n t0 - pot n t1 - 12) F0 F1 H0 H1) := by
  have hA := hp.z
  obtain ⟨p, r1, ⟨r2, r3⟩, r4, r5, r6⟩ := hs.2.2.2.2.2
  have hpl := hl p r1
  have hpt := pot_top (n := n) (t := t0)
  have hnn := hs.nn
  refine mw_go mu_g501 (k := 4) (f1 := (90, [(3, .inl (nI m)), (2, .inr (.inr (some q))), (0, .inr (.inr (some 169)))], [.inr (.inr (some 169)), .inl (nI m), .inr (.inr (mu_r H 169 13))], H)) (C := [mu_is H (some 169) 1]) rfl (show mu_is H (some 169) 1 from hs.is) ?_
  refine mw_fr (f' := (90, [(3, .inl (nI m)), (2, .inr (.inr (some q))), (0, .inr (.inr (some 169)))], [.inr (.inr (some 169)), .inl (nI m), .inr (.inr (some p))], H)) (by first | (rw [r1]; done) | (rw [r1]; rfl)) ?_
  refine mw_cX (as := []) (o := some 169) (S1 := [.inl (nI m), .inr (.inr (some p))]) rfl rfl rfl rfl (Nat.le_of_ble_eq_true rfl) (by decide) hs.is rfl (rp_name2 (d := d) hs (by omega)) (fun H1 e => ?_) (fun v H1 e => ?_)
  · obtain ⟨e1, e2⟩ := e
    exact Or.inl ⟨_, rfl, _, per_eq (ite_ye hpx e1), (hp.bd e2).wk (by omega)⟩
  obtain ⟨e1, sq, F1, rfl, w1, s1, f1, k1⟩ := e
  have hpx := ite_no hpx e1
  have st := pot_step (T := T) hs.tkf.2.2 (show t.1 ≠ 0 ∧ t.1 ≠ 1 by rw [nmz_2 e1]; decide)
  have sm := k1.2 p r1
  have r1' : mu_r H1 169 13 = some p := k1.1.trans r1
  have pk : mu_is H1 (some p) 103 := ⟨rfl, by have := f1.z; show p < mu_z H1; omega, sm.1.trans r5⟩
  have pl : mu_n H1 p = l := sm.2.1.trans hpl
  have gv : vp_in (nI m) (mu_n H1 (mu_p (some p))) := by show vp_in (nI m) (mu_n H1 p); rw [pl]; exact vp_in_nI hml (by omega)
  have hn1 := hn.keep hs f1 k1
  have hu1 := hu.keep hs g200 f1
  have hp1 := hp.tr f1
  obtain ⟨s2, f2⟩ := s1.pnw (i := m) (v := some sq) r1'
  have hu2 := hu1.keep s1 g200 f2
  have hn2 := hn1.add s1 r1' (by rw [pl]; omega) w1
  rw [hm.1] at hn2
  refine mw_aastS rfl pk w1.1.1 gv ?_
  rw [show mu_p (some p) = p from rfl, nI_clamp (show m < 2 ^ 31 by omega)]
  show mu_W _ mu_m501 (94, [(3, .inl (nI m)), (2, .inr (.inr (some q))), (0, .inr (.inr (some 169)))], [], (mu_sr H1 p m (some sq))) _
  refine mw_go mu_g501 (k := 2) (f1 := (21, [(3, .inl ((nI m) + 1)), (2, .inr (.inr (some q))), (0, .inr (.inr (some 169)))], [], (mu_sr H1 p m (some sq)))) (C := []) rfl trivial ?_
  refine mw_sub (L' := [(3, .inl (nI (m + 1))), (2, .inr (.inr (some q))), (0, .inr (.inr (some 169)))]) (by simp [← nI_add, show (1 : Int32) = nI 1 from rfl]) ?_
  refine hk _ F1 _ _ (ns ++ [slc T t.2.1 t.2.2]) (m + 1) l s2 hu2 hn2 (hp1.tr f2) ⟨by rw [List.length_append, hm.1]; rfl, Nat.succ_pos _⟩ (fun p' e => ?_) ?_ hpx
  · have e13 : mu_r (mu_sr H1 p m (some sq)) 169 13 = some p := by
      rcases f2.2.1 with z | ⟨x, z, hx⟩
      · rw [z]; exact r1'
      · rw [mu_r_sr] at z ⊢
        by_cases c : 169 = p ∧ 13 = m
        · exact absurd (by rw [← c.1]; decide) r4
        · rw [if_neg c]; exact r1'
    rw [e13] at e
    cases e
    exact pl
  · show _ + 28 * (m + 1) + pot n (adv T n t) ≤ _ ∧ _
    have st : pot n (adv T n t) + ((adv T n t).2.2 - t.2.2 + 4) + 15 ≤ pot n t := st
    have ee : (tkz T n t.2.2).2.2 = (adv T n t).2.2 := rfl
    rw [ee]
    omega
theorem rp_ploop {d n dep q a c s k l0 : Nat} {T : Nat → Int32} {t0 : Tok} {F0 : Nat → Prop} {H0 : mu_H} {res : Nat ⊕ (Tre × Tok)} (hz : mu_z H0 + pot n t0 + 40 ≤ 1000000) (g200 : 200 < mu_z H0) : ∀ g, ∀ A F H t ns m l, pst T n t dep F H → nu H0 H F 0 q a c s k 0 [] [] → pnm H F ns → pfr A F0 F H0 H → (ns.length = m ∧ 0 < m) → (∀ p, mu_r H 169 13 = some p → mu_n H p = l) → (A + 28 * m + pot n t ≤ pot n t0 + 15 + 2 * (l - l0) ∧ l0 ≤ l ∧ 16 ≤ l0 ∧ (l = l0 ∨ l ≤ 2 * m) ∧ l ≤ 131072) → pth T n g k ns t = some res → mu_W (mu_D (d + 8)) mu_m501 (21, [(3, .inl (nI m)), (2, .inr (.inr (some q))), (0, .inr (.inr (some 169)))], [], H) (fun r => (∃ H1, r = (.inr 0, H1) ∧ ∃ e, res = .inl e ∧ pbd T n e (pot n t0 + 30) H0 H1) ∨ ∃ v H1, r = (.inl v, H1) ∧ ∃ c t1 q F1, v = some (.inr (.inr (some q))) ∧ res = .inr (c, t1) ∧ pst T n t1 dep F1 H1 ∧ nd H1 F1 1 q c ∧ pot n t1 + 12 ≤ pot n t0 ∧ pfr (pot n t0 - pot n t1 - 12) F0 F1 H0 H1)
  | 0, _, _, _, _, _, _, _, _, _, _, _, _, _, _, hpx => by cases hpx
  | g + 1, A, F, H, t, ns, m, l, hs, hu, hn, hp, hm, hl, hA0, hpx => by
    rw [pth] at hpx
    have hA := hp.z
    have hpt := pot_top (n := n) (t := t0)
    have hnn := hs.nn
    obtain ⟨p, r1, ⟨r2, r3⟩, r4, r5, r6⟩ := hs.2.2.2.2.2
    have hpl := hl p r1
    have hnl := (hn p r1).1
    refine mw_go mu_g501 (k := 2) (f1 := (24, [(3, .inl (nI m)), (2, .inr (.inr (some q))), (0, .inr (.inr (some 169)))], [.inr (.inr (some 1000017)), .inr (.inr (some 169))], H)) (C := []) rfl trivial ?_
    refine mw_cIe (fun _ => rfl) (show mu_is H (some 169) 1 from hs.is) (rp_isL (j := 17) hs (by decide)) ?_
    refine mw_if (P := (tis T t (txt 17)) = 0) (a := 100) (b := 30) (fun _ => rfl) trivial (fun h1 => ?_) (fun h1 => ?_)
    · -- 100
      have hpx := ite_ye hpx h1
      exact rp_pend g200 hs hu hn hp ⟨hm.1, hm.2, by omega⟩ (by omega) (by omega) hpx
    · -- 30
      have hpx := ite_no hpx h1
      have st : pot n (adv T n t) + ((adv T n t).2.2 - t.2.2 + 4) + 15 ≤ pot n t := pot_step (T := T) hs.tkf.2.2 (tis_ne h1)
      refine mw_go mu_g501 (k := 1) (f1 := (31, [(3, .inl (nI m)), (2, .inr (.inr (some q))), (0, .inr (.inr (some 169)))], [.inr (.inr (some 169))], H)) (C := []) rfl trivial ?_
      refine mw_cV (fun _ => rfl) (show mu_is H (some 169) 1 from hs.is) (rp_adv2 (d := d + 1) hs (tis_ne h1) (by omega)) (fun H1 q1 => ?_)
      show mu_W _ mu_m501 (34, [(3, .inl (nI m)), (2, .inr (.inr (some q))), (0, .inr (.inr (some 169)))], [], H1) _
      obtain ⟨⟨F1, s1, f1⟩, k1⟩ := q1
      have f1 : pfr ((adv T n t).2.2 - t.2.2 + 4) F F1 H H1 := f1
      have s1 : pst T n (adv T n t) dep F1 H1 := s1
      have hn1 := hn.keep hs f1 k1
      have hu1 := hu.keep hs g200 f1
      have hp1 := hp.tr f1
      have z1 := hp1.z
      have sm := k1.2 p r1
      have r1' : mu_r H1 169 13 = some p := k1.1.trans r1
      have pl : mu_n H1 p = l := sm.2.1.trans hpl
      have gi : mu_isr H1 (some p) (mu_k H1 p) := ⟨rfl, Or.inl (by have := f1.z; show p < mu_z H1; omega), rfl⟩
      have gk : 100 ≤ mu_k H1 p := by rw [sm.1, r5]; decide
      have gn : Int32.ofNat (mu_n H1 p) = nI l := by rw [pl]; rfl
      refine mw_go mu_g501 (k := 3) (f1 := (39, [(3, .inl (nI m)), (2, .inr (.inr (some q))), (0, .inr (.inr (some 169)))], [.inr (.inr (mu_r H1 169 13)), .inl (nI m)], H1)) (C := [mu_is H1 (some 169) 1]) rfl (show mu_is H1 (some 169) 1 from s1.is) ?_
      refine mw_fr (f' := (39, [(3, .inl (nI m)), (2, .inr (.inr (some q))), (0, .inr (.inr (some 169)))], [.inr (.inr (some p)), .inl (nI m)], H1)) (by first | (rw [r1']; done) | (rw [r1']; rfl)) ?_
      refine mw_go mu_g501 (k := 1) (f1 := (40, [(3, .inl (nI m)), (2, .inr (.inr (some q))), (0, .inr (.inr (some 169)))], [.inl (Int32.ofNat (mu_n H1 p)), .inl (nI m)], H1)) (C := [mu_isr H1 (some p) (mu_k H1 p), 100 ≤ mu_k H1 p]) rfl (show (mu_isr H1 (some p) (mu_k H1 p)) ∧ (100 ≤ mu_k H1 p) from ⟨gi, gk⟩) ?_
      refine mw_fr (f' := (40, [(3, .inl (nI m)), (2, .inr (.inr (some q))), (0, .inr (.inr (some 169)))], [.inl (nI l), .inl (nI m)], H1)) (by first | (rw [gn]; done) | (rw [gn]; rfl)) ?_
      refine mw_if (P := (nI m) = (nI l)) (a := 43) (b := 84) (fun _ => rfl) trivial (fun h2 => ?_) (fun h2 => ?_)
      · -- 43
        have hml : m = l := rI_inj (by omega) (by omega) h2
        refine rp_grow s1 hn1 ⟨hm.1, by omega, by omega⟩ (fun p' e => by rw [r1'] at e; cases e; omega) (by omega) (fun H2 s2 f2 n2 l2 => ?_)
        exact rp_pname (l0 := l0) hz g200 (l := 2 * m) s2 (hu1.keep s1 g200 f2) n2 (hp1.tr f2) hm l2 (by omega) (by omega) hpx (fun A F H t ns m l => rp_ploop hz g200 g A F H t ns m l)
      · -- 84
        have hml : m ≠ l := nI_ne (by omega) (by omega) h2
        exact rp_pname (l0 := l0) hz g200 (l := l) s1 hu1 hn1 hp1 hm (fun p' e => by rw [r1'] at e; cases e; exact pl) (by omega) (by omega) hpx (fun A F H t ns m l => rp_ploop hz g200 g A F H t ns m l)
/-- path -/
theorem rp_path {T : Nat → Int32} {n : Nat} : pctp T n := by
  intro d dep k t F H res hk79 hs hz hpx
  unfold pxp at hpx
  have g200 := hs.1.1
  refine mu_meth (M := mu_m501) rfl rfl ?_
  refine mw_ht (mu_fn_of (show [0, 1].Nodup by decide)) ?_
  refine mw_newo rfl (by decide) (by omega) ?_
  show mu_W _ mu_m501 (3, [(0, .inr (.inr (some 169))), (1, .inr (.inr (some (1000000 + k))))], [.inr (.inr (some (mu_z H)))], (mu_nw H 18 0 8)) _
  refine mw_go mu_g501 (k := 2) (f1 := (5, [(0, .inr (.inr (some 169))), (1, .inr (.inr (some (1000000 + k))))], [.inr (.inr (some (1000000 + k))), .inr (.inr (some (mu_z H))), .inr (.inr (some (mu_z H)))], (mu_nw H 18 0 8))) (C := []) rfl trivial ?_
  refine mw_cV (fun _ => rfl) ⟨rfl, Nat.lt_succ_self _⟩ (nd_newL (j := k) (H0 := H) (f := 0) hs (by omega) (Nat.le_refl _) hk79) (fun H1 q1 => ?_)
  show mu_W _ mu_m501 (8, [(0, .inr (.inr (some 169))), (1, .inr (.inr (some (1000000 + k))))], [.inr (.inr (some (mu_z H)))], H1) _
  obtain ⟨hu, s1, k1⟩ := q1
  have f1 : pfr (0 + 2) F F H H1 := pfr.rf.kp k1 (fun p z => z) (by omega) (by omega)
  have z1 := f1.z
  obtain ⟨p, r1, ⟨r2, r3⟩, r4, r5, r6⟩ := s1.2.2.2.2.2
  refine mw_go mu_g501 (k := 7) (f1 := (17, [(3, .inl (1 : Int32)), (2, .inr (.inr (some (mu_z H)))), (0, .inr (.inr (some 169))), (1, .inr (.inr (some (1000000 + k))))], [.inr (.inr (some 169)), .inl (0 : Int32), .inr (.inr (mu_r H1 169 13))], H1)) (C := [mu_is H1 (some 169) 1]) rfl (show mu_is H1 (some 169) 1 from s1.is) ?_
  refine mw_fr (f' := (17, [(3, .inl (1 : Int32)), (2, .inr (.inr (some (mu_z H)))), (0, .inr (.inr (some 169))), (1, .inr (.inr (some (1000000 + k))))], [.inr (.inr (some 169)), .inl (0 : Int32), .inr (.inr (some p))], H1)) (by first | (rw [r1]; done) | (rw [r1]; rfl)) ?_
  refine mw_cX (as := []) (o := some 169) (S1 := [.inl (0 : Int32), .inr (.inr (some p))]) rfl rfl rfl rfl (Nat.le_of_ble_eq_true rfl) (by decide) s1.is rfl (rp_name2 (d := d) s1 (by omega)) (fun H2 e => ?_) (fun v H2 e => ?_)
  · obtain ⟨e1, e2⟩ := e
    exact Or.inl ⟨_, rfl, _, per_eq (ite_ye hpx e1), (f1.bd e2).wk (by omega)⟩
  obtain ⟨e1, sq, F2, rfl, w2, s2, f2, k2⟩ := e
  have hpx := ite_no hpx e1
  have st : pot n (adv T n t) + ((adv T n t).2.2 - t.2.2 + 4) + 15 ≤ pot n t := pot_step (T := T) hs.tkf.2.2 (show t.1 ≠ 0 ∧ t.1 ≠ 1 by rw [nmz_2 e1]; decide)
  have sm := k2.2 p r1
  have r1' : mu_r H2 169 13 = some p := k2.1.trans r1
  have pk : mu_is H2 (some p) 103 := ⟨rfl, by have := f2.z; show p < mu_z H2; omega, sm.1.trans r5⟩
  have pl : mu_n H2 p = mu_n H1 p := sm.2.1
  have gv : vp_in (0 : Int32) (mu_n H2 (mu_p (some p))) := by show vp_in (nI 0) (mu_n H2 p); rw [pl]; exact vp_in_nI (by omega) (by omega)
  have hn2 : pnm H2 F2 [] := fun p' e => ⟨Nat.zero_le _, fun i hi => absurd hi (Nat.not_lt_zero _)⟩
  have hu2 := hu.keep s1 g200 f2
  have hp2 := f1.tr f2
  have w2' : stf H2 F2 sq (slc T t.2.1 t.2.2) := w2
  obtain ⟨s3, f3⟩ := s2.pnw (i := 0) (v := some sq) r1'
  have hu3 := hu2.keep s2 g200 f3
  have hn3 := hn2.add s2 r1' (by rw [pl]; show 0 < mu_n H1 p; omega) w2
  refine mw_aastS rfl pk w2.1.1 gv ?_
  rw [show mu_p (some p) = p from rfl, show (0 : Int32).toNatClampNeg = 0 from rfl]
  show mu_W _ mu_m501 (21, [(3, .inl (1 : Int32)), (2, .inr (.inr (some (mu_z H)))), (0, .inr (.inr (some 169))), (1, .inr (.inr (some (1000000 + k))))], [], (mu_sr H2 p 0 (some sq))) _
  refine mw_sub (L' := [(3, .inl (nI 1)), (2, .inr (.inr (some (mu_z H)))), (0, .inr (.inr (some 169)))]) (by simp [nI]) ?_
  refine rp_ploop (l0 := mu_n H1 p) hz g200 (n + 1) _ F2 _ _ ([] ++ [slc T t.2.1 t.2.2]) 1 (mu_n H1 p) s3 hu3 hn3 (hp2.tr f3) ⟨rfl, Nat.succ_pos _⟩ (fun p' e => ?_) ?_ hpx
  · have e13 : mu_r (mu_sr H2 p 0 (some sq)) 169 13 = some p := by
      rcases f3.2.1 with z | ⟨x, z, hx⟩
      · rw [z]; exact r1'
      · rw [mu_r_sr, if_neg (fun c => absurd c.2 (by decide))]; exact r1'
    rw [e13] at e
    cases e
    exact pl
  · show _ + 28 * 1 + pot n (adv T n t) ≤ _ ∧ _
    have ee : (tkz T n t.2.2).2.2 = (adv T n t).2.2 := rfl
    rw [ee]
    omega
