/-! The reference: an INSTANCE from its parts on -/
set_option maxRecDepth 8000 in
theorem rp_inT {T : Nat → Int32} {n0 dep lv r cap mp A0 B0 SB d m mi j ip X EM : Nat} {t : Tok} {F : Nat → Prop} {ms : List Mdl} {sy : List (List Int32)} {Hb : mu_H} {Φ : mu_R → Prop} (hm0 : mdf Hb F lv m (mth ms mi)) (hw : mdw (mth ms mi)) (hF : ∀ p, F p → p < mu_z Hb) (ht0 : rtx Hb F lv r ms) (hX : 4000 ≤ X ∧ X + (mth ms mi).2.2.length ≤ EM) (hQ : mu_z Hb + A0 + 800 + 2 * EM + 400 ≤ 1000000) (hmt : ∀ k, k < (mth ms mi).2.2.length → tkd (nth (mth ms mi).2.2 k) = 73 → tkd (tkk (nth (mth ms mi).2.2 k) 0) = 72 → ∃ i, mtx ms (nam (tkk (nth (mth ms mi).2.2 k) 0)) = some i) {rec : Nat → Nat → Tre → Sg → Option (Option Sg)} {EX : mu_H → Prop} {s0 : Nat} (hrec : ∀ (k i m2 tq n : Nat) (c : Tre) (H : mu_H) (loc : Nat → Nat) (Iv : Nat → Ins) (pr : Nat → List (Tre × Nat)) (en : Nat) (rs : Option Sg), k < (mth ms mi).2.2.length → tkd (nth (mth ms mi).2.2 k) = 73 → c = tkk (nth (mth ms mi).2.2 k) 0 → tkd c = 72 → mtx ms (nam c) = some i → mu_r Hb r i = some m2 → nd Hb F lv tq c → bmk T n0 t dep F lv r ms cap sy Hb mp (A0 + 4 * n) (B0 + n * SB) loc n Iv pr en H → loc (9 + 4 * j) = ip → j < n → ivb (s0 + k + 1) pr en → en ≤ X + (mth ms mi).2.2.length → rec i j c (n, Iv, pr, en) = some rs → mu_TE 3 (mu_D (d + 6)) 458 [.inr (.inr (some 169)), .inr (.inr (some m2)), .inr (.inr (some ip)), .inr (.inr (some tq))] H (fun H1 => rs = none ∧ EX H1) (fun v H1 => ∃ n' Iv' pr' en' loc', rs = some (n', Iv', pr', en') ∧ v = some (.inr (.inr (some (loc' (9 + 4 * n))))) ∧ n < n' ∧ bmk T n0 t dep F lv r ms cap sy Hb mp (A0 + 4 * n') (B0 + n' * SB) loc' n' Iv' pr' en' H1 ∧ (∀ s, 9 ≤ s → s < 9 + 4 * n → loc' s = loc s) ∧ (∀ s, s < n → Iv' s = Iv s) ∧ ivb (s0 + k + 1) pr' en' ∧ en' ≤ 4000)) {R : Option Sg} {loc0 : Nat → Nat} {Iv0 : Nat → Ins} (hexc : R = none → ∀ H1, EX H1 → Φ (.inr 3, H1)) (hmany : ∀ H loc n Iv pr en, R = some (n, Iv, pr, en) → 4000 < en → bmk T n0 t dep F lv r ms cap sy Hb mp (A0 + 4 * n) (B0 + n * SB) loc n Iv pr en H → Φ (.inr 3, mu_ex H)) (hend : ∀ H loc n Iv pr en, R = some (n, Iv, pr, en) → en ≤ 4000 → bmk T n0 t dep F lv r ms cap sy Hb mp (A0 + 4 * n) (B0 + n * SB) loc n Iv (spl (mth ms mi).2.2 j (mth ms mi).2.2.length 0 pr) en H → loc (9 + 4 * j) = ip → j < n → (∀ s, 9 ≤ s → s < 9 + 4 * j → loc s = loc0 s) → (∀ s, s < j → Iv s = Iv0 s) → ivb (s0 + (mth ms mi).2.2.length) pr en → Φ (.inl (some (.inr (.inr (some ip)))), H)) {H : mu_H} {loc : Nat → Nat} {n en : Nat} {Iv : Nat → Ins} {pr : Nat → List (Tre × Nat)} (h : bmk T n0 t dep F lv r ms cap sy Hb mp (A0 + 4 * n) (B0 + n * SB) loc n Iv pr en H) (hip : loc (9 + 4 * j) = ip) (hj : j < n) (him : (Iv j).1 = mi) (hag : ∀ s, 9 ≤ s → s < 9 + 4 * j → loc s = loc0 s) (hgv : ∀ s, s < j → Iv s = Iv0 s) (hiv : ivb (s0 + 0) pr en) (hen : en ≤ X + 0) (hpe : ipl ms rec (mth ms mi).2.2 j (mth ms mi).2.2.length 0 (n, Iv, pr, en) = some R) : mu_W (mu_D (d + 6)) mu_m458 (118, [(4, .inr (.inr (some ip))), (1, .inr (.inr (some m))), (0, .inr (.inr (some 169)))], [], H) Φ := by
  refine mw_go mu_g458 (k := 2) (f1 := (121, [(5, .inl (0 : Int32)), (4, .inr (.inr (some ip))), (1, .inr (.inr (some m))), (0, .inr (.inr (some 169)))], [], H)) (C := []) rfl trivial ?_
  refine mw_sub (L' := [(5, .inl (nI 0)), (4, .inr (.inr (some ip))), (1, .inr (.inr (some m))), (0, .inr (.inr (some 169)))]) (by simp [nI]) ?_
  refine rp_in2 (s0 := s0) (R := R) (loc0 := loc0) (Iv0 := Iv0) (N0 := j) hm0 hw hF ht0 hX hQ hmt hrec (Nat.le_refl _) hexc (fun H2 loc2 n2 Iv2 pr2 en2 eR h2 hip2 hj2 him2 ag2 gv2 iv2 en2_ => ?_) (mth ms mi).2.2.length 0 H loc n Iv pr en (Nat.zero_add _) h hip hj him hag hgv hiv hen hpe
  have hn200 : n2 ≤ 200 := h2.2.1.2.2.1.2.2.1
  have hpx : plx pr2 + (mth ms mi).2.2.length ≤ 2 * en2 := by unfold plx; have := iv2.1; have := iv2.2; omega
  have m18_1 : mu_r H2 169 18 = some mp := h2.2.1.1.2.2
  have m0_1 : mu_r H2 mp 0 = some (loc2 0) := h2.2.1.2.1.1
  have m1_1 : mu_i H2 mp 1 = nI n2 := h2.2.1.2.1.2.1
  have m2_1 : mu_i H2 mp 2 = nI en2 := h2.2.1.2.1.2.2
  have mN0_1 : mu_r H2 mp 7 = some (loc2 1) := (h2.2.1.2.2.2.1 0 (by decide)).1.1
  have mI0_1 : mu_r H2 mp 8 = some (loc2 2) := (h2.2.1.2.2.2.1 0 (by decide)).1.2.1
  have mC0_1 : mu_i H2 mp 9 = nI (pr2 0).length := (h2.2.1.2.2.2.1 0 (by decide)).1.2.2
  have mN1_1 : mu_r H2 mp 4 = some (loc2 3) := (h2.2.1.2.2.2.1 1 (by decide)).1.1
  have mI1_1 : mu_r H2 mp 3 = some (loc2 4) := (h2.2.1.2.2.2.1 1 (by decide)).1.2.1
  have mC1_1 : mu_i H2 mp 5 = nI (pr2 1).length := (h2.2.1.2.2.2.1 1 (by decide)).1.2.2
  have mN2_1 : mu_r H2 mp 10 = some (loc2 5) := (h2.2.1.2.2.2.1 2 (by decide)).1.1
  have mI2_1 : mu_r H2 mp 11 = some (loc2 6) := (h2.2.1.2.2.2.1 2 (by decide)).1.2.1
  have mC2_1 : mu_i H2 mp 12 = nI (pr2 2).length := (h2.2.1.2.2.2.1 2 (by decide)).1.2.2
  have mN3_1 : mu_r H2 mp 13 = some (loc2 7) := (h2.2.1.2.2.2.1 3 (by decide)).1.1
  have mI3_1 : mu_r H2 mp 14 = some (loc2 8) := (h2.2.1.2.2.2.1 3 (by decide)).1.2.1
  have mC3_1 : mu_i H2 mp 15 = nI (pr2 3).length := (h2.2.1.2.2.2.1 3 (by decide)).1.2.2
  have rz1 := h2.rz
  refine mw_go mu_g458 (k := 3) (f1 := (389, [(4, .inr (.inr (some ip))), (1, .inr (.inr (some m))), (0, .inr (.inr (some 169)))], [.inr (.inr (mu_r H2 169 18)), .inr (.inr (some 169))], H2)) (C := [mu_is H2 (some 169) 1]) rfl (show mu_is H2 (some 169) 1 from h2.rz.2.2.2.2) ?_
  refine mw_fr (f' := (389, [(4, .inr (.inr (some ip))), (1, .inr (.inr (some m))), (0, .inr (.inr (some 169)))], [.inr (.inr (some mp)), .inr (.inr (some 169))], H2)) (by first | (rw [m18_1]; done) | (rw [m18_1]; rfl)) ?_
  refine mw_go mu_g458 (k := 1) (f1 := (392, [(4, .inr (.inr (some ip))), (1, .inr (.inr (some m))), (0, .inr (.inr (some 169)))], [.inl (mu_i H2 mp 2), .inr (.inr (some 169))], H2)) (C := [mu_is H2 (some mp) 16]) rfl (show mu_is H2 (some mp) 16 from h2.2.1.1.1) ?_
  refine mw_fr (f' := (392, [(4, .inr (.inr (some ip))), (1, .inr (.inr (some m))), (0, .inr (.inr (some 169)))], [.inl (nI en2), .inr (.inr (some 169))], H2)) (by first | (rw [m2_1]; done) | (rw [m2_1]; rfl)) ?_
  refine mw_go mu_g458 (k := 1) (f1 := (395, [(4, .inr (.inr (some ip))), (1, .inr (.inr (some m))), (0, .inr (.inr (some 169)))], [.inl (4000 : Int32), .inl (nI en2), .inr (.inr (some 169))], H2)) (C := []) rfl trivial ?_
  refine mw_if (P := (4000 : Int32) < (nI en2)) (a := 402) (b := 398) (fun _ => rfl) trivial (fun h1 => ?_) (fun h1 => ?_)
  · -- 402
    have hn : 4000 < en2 := nI_below (by decide) (by omega) (show nI 4000 < nI en2 from h1)
    refine mw_go mu_g458 (k := 1) (f1 := (403, [(4, .inr (.inr (some ip))), (1, .inr (.inr (some m))), (0, .inr (.inr (some 169)))], [.inl (0 : Int32), .inr (.inr (some 169))], H2)) (C := []) rfl trivial ?_
    exact mw_cE (as := [.inl (0 : Int32)]) (o := some 169) (S1 := []) rfl rfl rfl rfl (Nat.le_of_ble_eq_true rfl) (by decide) h2.rz.2.2.2.2 rfl (by decide) (rp_small (d := d + 5) (x := 0)) (fun H9 e9 => by rw [e9.2]; exact hmany H2 loc2 n2 Iv2 pr2 en2 eR.symm hn h2) (fun v9 H9 e9 => absurd rfl e9.1)
  · -- 398
    have hn : en2 ≤ 4000 := Decidable.byContradiction (fun z => h1 (show nI 4000 < nI en2 from nI_lt (by omega) (by omega)))
    refine mw_go mu_g458 (k := 2) (f1 := (403, [(4, .inr (.inr (some ip))), (1, .inr (.inr (some m))), (0, .inr (.inr (some 169)))], [.inl (1 : Int32), .inr (.inr (some 169))], H2)) (C := []) rfl trivial ?_
    refine mw_cE (as := [.inl (1 : Int32)]) (o := some 169) (S1 := []) rfl rfl rfl rfl (Nat.le_of_ble_eq_true rfl) (by decide) h2.rz.2.2.2.2 rfl (by decide) (rp_small (d := d + 5) (x := 1)) (fun H9 e9 => absurd e9.1 (by decide)) (fun v9 H9 e9 => ?_)
    obtain ⟨_, rfl, e9⟩ := e9
    rw [e9]
    clear e9 H9
    show mu_W _ mu_m458 (406, [(4, .inr (.inr (some ip))), (1, .inr (.inr (some m))), (0, .inr (.inr (some 169)))], [], H2) _
    refine mw_go mu_g458 (k := 2) (f1 := (409, [(5, .inl (0 : Int32)), (4, .inr (.inr (some ip))), (1, .inr (.inr (some m))), (0, .inr (.inr (some 169)))], [], H2)) (C := []) rfl trivial ?_
    refine mw_sub (L' := [(5, .inl (nI 0)), (4, .inr (.inr (some ip))), (1, .inr (.inr (some m))), (0, .inr (.inr (some 169)))]) (by simp [nI]) ?_
    refine rp_in3 (y := mth ms mi) (Q := 2 * en2) (PR := spl (mth ms mi).2.2 j (mth ms mi).2.2.length 0 pr2) (loc0 := loc2) hm0 hw.2 hF hj2 (by omega) (fun H3 loc3 h3 hip3 ag3 => hend H3 loc3 n2 Iv2 pr2 en2 eR.symm hn h3 hip3 hj2 (fun s hs hs2 => (ag3 s hs).trans (ag2 s hs hs2)) gv2 iv2) (mth ms mi).2.2.length 0 H2 loc2 pr2 (Nat.zero_add _) h2 hip2 (fun _ _ => rfl) (by omega) rfl
