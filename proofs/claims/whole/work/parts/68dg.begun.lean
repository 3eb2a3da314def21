/-! The reference: an INSTANCE is made -/
theorem gnw.new2 {T : Nat → Int32} {n dep lv r cap p : Nat} {t : Tok} {F : Nat → Prop} {ms : List Mdl} {sy : List (List Int32)} {H : mu_H} (h : gnw T n t dep F lv r ms cap sy H) (hp : mu_z H ≤ p) (hp2 : p < 1000000) : ¬ F p ∧ mu_r H 169 13 ≠ some p ∧ mu_r H 169 16 ≠ some p := by
  obtain ⟨h1, h2, h3⟩ := h
  refine ⟨fun z => by have := (h1.fz _ z).2.1.1; omega, fun e => ?_, fun e => ?_⟩
  · obtain ⟨q, q1, ⟨q2, _⟩, _⟩ := h1.2.2.2.2.2
    rw [q1] at e; cases e; omega
  · obtain ⟨q, q1, ⟨_, q2, _⟩, _⟩ := h3
    rw [q1] at e; cases e; omega
theorem bmk.newi {T : Nat → Int32} {n0 dep lv r cap mp A B n en b z mi : Nat} {t : Tok} {F : Nat → Prop} {ms : List Mdl} {sy : List (List Int32)} {Hb H H1 : mu_H} {loc : Nat → Nat} {Iv : Nat → Ins} {pr : Nat → List (Tre × Nat)} (h : bmk T n0 t dep F lv r ms cap sy Hb mp A B loc n Iv pr en H) (hn : n < 200) (hk : kep (fun _ => False) 4 b H H1) (hz : z = mu_z H ∧ mu_z H1 = z + 4 ∧ z + 4 ≤ 1000000) (hmi : mi < ms.length) (h15 : mu_is H1 (some z) 15) (h0 : mu_r H1 z 0 = mu_r H1 r mi) (hf : mu_r H1 z 3 = some (z + 1) ∧ mu_r H1 z 4 = some (z + 2) ∧ mu_r H1 z 5 = some (z + 3)) (h2 : mu_i H1 z 2 = nI 0) (hv : mu_is H1 (some (z + 1)) 100 ∧ mu_n H1 (z + 1) = (mth ms mi).2.2.length ∧ ∀ k, mu_i H1 (z + 1) k = 0) (hi : mu_is H1 (some (z + 2)) 110 ∧ mu_n H1 (z + 2) = (mth ms mi).2.2.length ∧ ∀ k, mu_r H1 (z + 2) k = none) (hd : mu_is H1 (some (z + 3)) 100 ∧ mu_n H1 (z + 3) = (mth ms mi).2.2.length ∧ ∀ k, mu_i H1 (z + 3) k = 0) : bmk T n0 t dep F lv r ms cap sy Hb mp (A + 4) (B + b) (lux loc n z) (n + 1) (iup Iv n (mi, 0, (fun _ => 0), (fun _ => none), (fun _ => 0))) pr en (mu_sr (mu_si H1 mp 1 (nI (n + 1))) (loc 0) n (some z)) := by
  have rz := h.rz
  have f1 := h.2.1.2.2.2.2.2.1
  have hcs : cps (mu_sr (mu_si H1 mp 1 (nI (n + 1))) (loc 0) n (some z)) (lux loc n z) = cps H loc := by
    have en : ∀ s, s < 9 → mu_n (mu_sr (mu_si H1 mp 1 (nI (n + 1))) (loc 0) n (some z)) (lux loc n z s) = mu_n H (loc s) := fun s hs => by
      rw [lux_lo (by omega)]; exact hk.len (Or.inl (f1 s (by omega)).1.1.2.1) id
    unfold cps
    rw [en 1 (by decide), en 2 (by decide), en 3 (by decide), en 4 (by decide), en 5 (by decide), en 6 (by decide), en 7 (by decide), en 8 (by decide)]
  have k2 : kep (fun p => p = mp ∨ p = loc 0) 4 b H (mu_sr (mu_si H1 mp 1 (nI (n + 1))) (loc 0) n (some z)) := ((hk.wk (W' := fun p => p = mp ∨ p = loc 0) (fun _ _ z => z.elim) (Nat.le_refl _) (Nat.le_refl _)).si (Or.inl (Or.inl rfl))).sr (Or.inl (Or.inr rfl))
  refine h.st k2 (fun p w => ?_) (h.2.1.newi hn rz.1 (Nat.lt_of_lt_of_le h.2.2.2.2 rz.2.2.2.1) hk hz (fun c hc => h.1.new2 (by omega) (by omega)) hmi h15 h0 hf h2 hv hi hd) (fun s hs => ?_) (by rw [hcs]; omega) (by rw [hcs]; omega)
  · rcases w with e | e
    · subst e; exact ⟨h.2.1.1.2.1, h.2.2.1.1⟩
    · exact h.slot (by omega) p e
  · by_cases e : s < 9 + 4 * n
    · rw [lux_lo e]; exact h.2.2.1.2 s e
    · unfold lux; rw [if_neg e]; have := rz.2.2.2.1; omega
theorem iup_gs {Iv : Nat → Ins} {n v : Nat} {x : Ins} : iup (iup Iv n x) n ((iup Iv n x n).1, v, (iup Iv n x n).2.2) = iup Iv n (x.1, v, x.2.2) := funext fun s => by
  unfold iup
  by_cases e : s = n
  · rw [if_pos e, if_pos e, if_pos rfl]
  · rw [if_neg e, if_neg e, if_neg e]
set_option maxRecDepth 8000 in
theorem rp_in0 {T : Nat → Int32} {n0 dep lv r cap mp A0 B0 SB d m mi n en : Nat} {t : Tok} {F : Nat → Prop} {ms : List Mdl} {sy : List (List Int32)} {Hb H : mu_H} {Φ : mu_R → Prop} {loc : Nat → Nat} {Iv : Nat → Ins} {pr : Nat → List (Tre × Nat)} {po tyo : Option Nat} (hm0 : mdf Hb F lv m (mth ms mi)) (hF : ∀ p, F p → p < mu_z Hb) (ht0 : rtx Hb F lv r ms) (hmi : mi < ms.length) (hm1 : mu_r Hb r mi = some m) (h : bmk T n0 t dep F lv r ms cap sy Hb mp (A0 + 4 * n) (B0 + n * SB) loc n Iv pr en H) (hQ : mu_z Hb + A0 + 800 + plx pr + 400 ≤ 1000000) (hSB : 3 * (mth ms mi).2.2.length + 6 ≤ SB) (hex : 200 ≤ n → Φ (.inr 3, mu_ex H)) (hnx : n < 200 → ∀ H1 loc1, bmk T n0 t dep F lv r ms cap sy Hb mp (A0 + 4 * (n + 1)) (B0 + (n + 1) * SB) loc1 (n + 1) (iup Iv n (mi, (pr 0).length, (fun _ => 0), (fun _ => none), (fun _ => 0))) pr en H1 → (∀ s, s < 9 + 4 * n → loc1 s = loc s) → mu_W (mu_D (d + 6)) mu_m458 (72, [(5, .inl (nI 0)), (4, .inr (.inr (some (loc1 (9 + 4 * n))))), (3, .inr (.inr tyo)), (2, .inr (.inr po)), (1, .inr (.inr (some m))), (0, .inr (.inr (some 169)))], [], H1) Φ) : mu_W (mu_D (d + 6)) mu_m458 (0, [(3, .inr (.inr tyo)), (2, .inr (.inr po)), (1, .inr (.inr (some m))), (0, .inr (.inr (some 169)))], [], H) Φ := by
  have hn200 : n ≤ 200 := h.2.1.2.2.1.2.2.1
  have hcb := h.cpb
  have m18_1 : mu_r H 169 18 = some mp := h.2.1.1.2.2
  have m0_1 : mu_r H mp 0 = some (loc 0) := h.2.1.2.1.1
  have m1_1 : mu_i H mp 1 = nI n := h.2.1.2.1.2.1
  have m2_1 : mu_i H mp 2 = nI en := h.2.1.2.1.2.2
  have mN0_1 : mu_r H mp 7 = some (loc 1) := (h.2.1.2.2.2.1 0 (by decide)).1.1
  have mI0_1 : mu_r H mp 8 = some (loc 2) := (h.2.1.2.2.2.1 0 (by decide)).1.2.1
  have mC0_1 : mu_i H mp 9 = nI (pr 0).length := (h.2.1.2.2.2.1 0 (by decide)).1.2.2
  have mN1_1 : mu_r H mp 4 = some (loc 3) := (h.2.1.2.2.2.1 1 (by decide)).1.1
  have mI1_1 : mu_r H mp 3 = some (loc 4) := (h.2.1.2.2.2.1 1 (by decide)).1.2.1
  have mC1_1 : mu_i H mp 5 = nI (pr 1).length := (h.2.1.2.2.2.1 1 (by decide)).1.2.2
  have mN2_1 : mu_r H mp 10 = some (loc 5) := (h.2.1.2.2.2.1 2 (by decide)).1.1
  have mI2_1 : mu_r H mp 11 = some (loc 6) := (h.2.1.2.2.2.1 2 (by decide)).1.2.1
  have mC2_1 : mu_i H mp 12 = nI (pr 2).length := (h.2.1.2.2.2.1 2 (by decide)).1.2.2
  have mN3_1 : mu_r H mp 13 = some (loc 7) := (h.2.1.2.2.2.1 3 (by decide)).1.1
  have mI3_1 : mu_r H mp 14 = some (loc 8) := (h.2.1.2.2.2.1 3 (by decide)).1.2.1
  have mC3_1 : mu_i H mp 15 = nI (pr 3).length := (h.2.1.2.2.2.1 3 (by decide)).1.2.2
  have rz1 := h.rz
  refine mw_go mu_g458 (k := 3) (f1 := (5, [(3, .inr (.inr tyo)), (2, .inr (.inr po)), (1, .inr (.inr (some m))), (0, .inr (.inr (some 169)))], [.inr (.inr (mu_r H 169 18)), .inr (.inr (some 169))], H)) (C := [mu_is H (some 169) 1]) rfl (show mu_is H (some 169) 1 from h.rz.2.2.2.2) ?_
  refine mw_fr (f' := (5, [(3, .inr (.inr tyo)), (2, .inr (.inr po)), (1, .inr (.inr (some m))), (0, .inr (.inr (some 169)))], [.inr (.inr (some mp)), .inr (.inr (some 169))], H)) (by first | (rw [m18_1]; done) | (rw [m18_1]; rfl)) ?_
  refine mw_go mu_g458 (k := 1) (f1 := (8, [(3, .inr (.inr tyo)), (2, .inr (.inr po)), (1, .inr (.inr (some m))), (0, .inr (.inr (some 169)))], [.inl (mu_i H mp 1), .inr (.inr (some 169))], H)) (C := [mu_is H (some mp) 16]) rfl (show mu_is H (some mp) 16 from h.2.1.1.1) ?_
  refine mw_fr (f' := (8, [(3, .inr (.inr tyo)), (2, .inr (.inr po)), (1, .inr (.inr (some m))), (0, .inr (.inr (some 169)))], [.inl (nI n), .inr (.inr (some 169))], H)) (by first | (rw [m1_1]; done) | (rw [m1_1]; rfl)) ?_
  refine mw_go mu_g458 (k := 1) (f1 := (11, [(3, .inr (.inr tyo)), (2, .inr (.inr po)), (1, .inr (.inr (some m))), (0, .inr (.inr (some 169)))], [.inl (200 : Int32), .inl (nI n), .inr (.inr (some 169))], H)) (C := []) rfl trivial ?_
  refine mw_if (P := (nI n) < (200 : Int32)) (a := 14) (b := 18) (fun _ => rfl) trivial (fun h1 => ?_) (fun h1 => ?_)
  · -- 14
    have hn : n < 200 := Decidable.byContradiction (fun z => by rw [show n = 200 by omega] at h1; exact absurd h1 (by decide))
    refine mw_go mu_g458 (k := 2) (f1 := (19, [(3, .inr (.inr tyo)), (2, .inr (.inr po)), (1, .inr (.inr (some m))), (0, .inr (.inr (some 169)))], [.inl (1 : Int32), .inr (.inr (some 169))], H)) (C := []) rfl trivial ?_
    refine mw_cE (as := [.inl (1 : Int32)]) (o := some 169) (S1 := []) rfl rfl rfl rfl (Nat.le_of_ble_eq_true rfl) (by decide) h.rz.2.2.2.2 rfl (by decide) (rp_small (d := d + 5) (x := 1)) (fun H9 e9 => absurd e9.1 (by decide)) (fun v9 H9 e9 => ?_)
    obtain ⟨_, rfl, e9⟩ := e9
    rw [e9]
    clear e9 H9
    show mu_W _ mu_m458 (22, [(3, .inr (.inr tyo)), (2, .inr (.inr po)), (1, .inr (.inr (some m))), (0, .inr (.inr (some 169)))], [], H) _
    refine mw_newo rfl (by decide) (by omega) ?_
    have kn : kep (fun _ => False) (0 + 1) (0 + 6) H (mu_nw H 15 0 6) := kep.rf.nw (by omega)
    have h15 : mu_is (mu_nw H 15 0 6) (some (mu_z H)) 15 := mu_is_new H 15 0 6
    have hmN : mdf (mu_nw H 15 0 6) F lv m (mth ms mi) := (h.mdk hm0 hF).kt (ktf.kp kn (fun _ z => z.elim))
    have h2N : mu_i (mu_nw H 15 0 6) (mu_z H) 2 = nI 0 := by rw [mu_i_nw, if_pos rfl]; rfl
    have zN : mu_z (mu_nw H 15 0 6) = mu_z H + 1 := rfl
    obtain ⟨z, ez⟩ : ∃ x, x = mu_z H := ⟨_, rfl⟩
    obtain ⟨N, eN⟩ : ∃ K, K = mu_nw H 15 0 6 := ⟨_, rfl⟩
    show mu_W _ mu_m458 (25, [(3, .inr (.inr tyo)), (2, .inr (.inr po)), (1, .inr (.inr (some m))), (0, .inr (.inr (some 169)))], [.inr (.inr (some (mu_z H)))], (mu_nw H 15 0 6)) _
    rw [← eN, ← ez]
    rw [← eN] at kn
    rw [← eN, ← ez] at h15 h2N
    rw [← eN] at hmN
    rw [← eN, ← ez] at zN
    show mu_W _ mu_m458 (25, [(3, .inr (.inr tyo)), (2, .inr (.inr po)), (1, .inr (.inr (some m))), (0, .inr (.inr (some 169)))], [.inr (.inr (some z))], N) _
    refine mw_go mu_g458 (k := 3) (f1 := (28, [(3, .inr (.inr tyo)), (2, .inr (.inr po)), (1, .inr (.inr (some m))), (0, .inr (.inr (some 169)))], [.inr (.inr po), .inr (.inr (some m)), .inr (.inr (some z)), .inr (.inr (some z))], N)) (C := []) rfl trivial ?_
    refine mw_cV (fun _ => rfl) ⟨rfl, h15.2.1⟩ (rp_iinit (d := d + 5) h15 hmN (by omega)) (fun H1 q1 => ?_)
    obtain ⟨k1, z1, i15, q0, qf, q2, qv, qi, qd⟩ := q1
    rw [zN] at z1 qf qv qi qd
    have k4 : kep (fun _ => False) 4 (6 + 3 * (mth ms mi).2.2.length) H H1 := (kn.tr k1 (W := fun _ => False) (fun p hp w => w.elim id (fun e => by omega))).wk (fun _ _ w => w) (by omega) (by omega)
    have rz := h.rz
    have mr : mu_r H1 r mi = some m := (k4.r (Or.inl rz.1) id mi).trans ((h.2.2.2.1.r (Or.inl ht0.2.1.2.1) (fun w => absurd w.1 (Nat.not_le.mpr ht0.2.1.2.1)) mi).trans hm1)
    have hnew := (h.newi hn k4 ⟨ez, by omega, by omega⟩ hmi i15 (q0.trans mr.symm) qf (q2.trans h2N) qv qi qd).wk (A' := A0 + 4 * (n + 1)) (B' := B0 + (n + 1) * SB) (by omega) (by rw [Nat.add_mul]; omega)
    have m18 : mu_r H1 169 18 = some mp := (k4.r (Or.inl rz.2.1) id 18).trans h.2.1.1.2.2
    have mpz : mp < mu_z H := h.2.1.1.1.2.1
    have m0 : mu_r H1 mp 0 = some (loc 0) := (k4.r (Or.inl mpz) id 0).trans h.2.1.2.1.1
    have m1 : mu_i H1 mp 1 = nI n := (k4.i (Or.inl mpz) id 1).trans h.2.1.2.1.2.1
    have mpi : mu_is H1 (some mp) 16 := k4.is h.2.1.1.1 id
    have i169 : mu_is H1 (some 169) 1 := k4.is rz.2.2.2.2 id
    have i0 : mu_is H1 (some (loc 0)) 110 := k4.is h.2.1.2.2.1.1 id
    have n0_ : mu_n H1 (loc 0) = 201 := (k4.len (Or.inl h.2.1.2.2.1.1.2.1) id).trans h.2.1.2.2.1.2.1
    have e1 : nI n + (1 : Int32) = nI (n + 1) := nI_add _ _
    show mu_W _ mu_m458 (31, [(3, .inr (.inr tyo)), (2, .inr (.inr po)), (1, .inr (.inr (some m))), (0, .inr (.inr (some 169)))], [.inr (.inr (some z))], H1) _
    refine mw_go mu_g458 (k := 3) (f1 := (37, [(4, .inr (.inr (some z))), (3, .inr (.inr tyo)), (2, .inr (.inr po)), (1, .inr (.inr (some m))), (0, .inr (.inr (some 169)))], [.inr (.inr (mu_r H1 169 18))], H1)) (C := [mu_is H1 (some 169) 1]) rfl (show mu_is H1 (some 169) 1 from i169) ?_
    refine mw_fr (f' := (37, [(4, .inr (.inr (some z))), (3, .inr (.inr tyo)), (2, .inr (.inr po)), (1, .inr (.inr (some m))), (0, .inr (.inr (some 169)))], [.inr (.inr (some mp))], H1)) (by first | (rw [m18]; done) | (rw [m18]; rfl)) ?_
    refine mw_go mu_g458 (k := 1) (f1 := (40, [(4, .inr (.inr (some z))), (3, .inr (.inr tyo)), (2, .inr (.inr po)), (1, .inr (.inr (some m))), (0, .inr (.inr (some 169)))], [.inr (.inr (mu_r H1 mp 0))], H1)) (C := [mu_is H1 (some mp) 16]) rfl (show mu_is H1 (some mp) 16 from mpi) ?_
    refine mw_fr (f' := (40, [(4, .inr (.inr (some z))), (3, .inr (.inr tyo)), (2, .inr (.inr po)), (1, .inr (.inr (some m))), (0, .inr (.inr (some 169)))], [.inr (.inr (some (loc 0)))], H1)) (by first | (rw [m0]; done) | (rw [m0]; rfl)) ?_
    refine mw_go mu_g458 (k := 2) (f1 := (44, [(4, .inr (.inr (some z))), (3, .inr (.inr tyo)), (2, .inr (.inr po)), (1, .inr (.inr (some m))), (0, .inr (.inr (some 169)))], [.inr (.inr (mu_r H1 169 18)), .inr (.inr (some (loc 0)))], H1)) (C := [mu_is H1 (some 169) 1]) rfl (show mu_is H1 (some 169) 1 from i169) ?_
    refine mw_fr (f' := (44, [(4, .inr (.inr (some z))), (3, .inr (.inr tyo)), (2, .inr (.inr po)), (1, .inr (.inr (some m))), (0, .inr (.inr (some 169)))], [.inr (.inr (some mp)), .inr (.inr (some (loc 0)))], H1)) (by first | (rw [m18]; done) | (rw [m18]; rfl)) ?_
    refine mw_go mu_g458 (k := 2) (f1 := (48, [(4, .inr (.inr (some z))), (3, .inr (.inr tyo)), (2, .inr (.inr po)), (1, .inr (.inr (some m))), (0, .inr (.inr (some 169)))], [.inl (mu_i H1 mp 1), .inr (.inr (some mp)), .inr (.inr (some (loc 0)))], H1)) (C := [mu_is H1 (some mp) 16]) rfl (show mu_is H1 (some mp) 16 from mpi) ?_
    refine mw_fr (f' := (48, [(4, .inr (.inr (some z))), (3, .inr (.inr tyo)), (2, .inr (.inr po)), (1, .inr (.inr (some m))), (0, .inr (.inr (some 169)))], [.inl (nI n), .inr (.inr (some mp)), .inr (.inr (some (loc 0)))], H1)) (by first | (rw [m1]; done) | (rw [m1]; rfl)) ?_
    refine mw_go mu_g458 (k := 3) (f1 := (51, [(4, .inr (.inr (some z))), (3, .inr (.inr tyo)), (2, .inr (.inr po)), (1, .inr (.inr (some m))), (0, .inr (.inr (some 169)))], [.inl ((nI n) + (1 : Int32)), .inr (.inr (some mp)), .inl (nI n), .inr (.inr (some (loc 0)))], H1)) (C := []) rfl trivial ?_
    refine mw_fr (f' := (51, [(4, .inr (.inr (some z))), (3, .inr (.inr tyo)), (2, .inr (.inr po)), (1, .inr (.inr (some m))), (0, .inr (.inr (some 169)))], [.inl (nI (n + 1)), .inr (.inr (some mp)), .inl (nI n), .inr (.inr (some (loc 0)))], H1)) (by first | (rw [e1]; done) | (rw [e1]; rfl)) ?_
    refine mw_go mu_g458 (k := 2) (f1 := (56, [(4, .inr (.inr (some z))), (3, .inr (.inr tyo)), (2, .inr (.inr po)), (1, .inr (.inr (some m))), (0, .inr (.inr (some 169)))], [.inr (.inr (some z)), .inl (nI n), .inr (.inr (some (loc 0)))], (mu_si H1 mp 1 (nI (n + 1))))) (C := [mu_is H1 (some mp) 16]) rfl (show mu_is H1 (some mp) 16 from mpi) ?_
    refine mw_aastO (t := 10) (ct := 15) rfl (show mu_is H1 (some (loc 0)) 110 from i0) (show mu_is H1 (some z) 15 from i15) (by decide) (show vp_in (nI n) (mu_n H1 (loc 0)) from vp_in_nI (by omega) (by omega)) ?_
    rw [show mu_p (some (loc 0)) = loc 0 from rfl, nI_clamp (show n < 2 ^ 31 by omega)]
    show mu_W _ mu_m458 (57, [(4, .inr (.inr (some z))), (3, .inr (.inr tyo)), (2, .inr (.inr po)), (1, .inr (.inr (some m))), (0, .inr (.inr (some 169)))], [], (mu_sr (mu_si H1 mp 1 (nI (n + 1))) (loc 0) n (some z))) _
    obtain ⟨K, eK⟩ : ∃ K, K = (mu_sr (mu_si H1 mp 1 (nI (n + 1))) (loc 0) n (some z)) := ⟨_, rfl⟩
    rw [← eK] at hnew ⊢
    have lz : lux loc n z (9 + 4 * n) = z := lux_hi (c := 0)
    have ll : ∀ s, s < 9 + 4 * n → lux loc n z s = loc s := fun s hs => lux_lo hs
    obtain ⟨loc1, el⟩ : ∃ l, l = lux loc n z := ⟨_, rfl⟩
    rw [← el] at hnew lz ll
    have kz : mu_is K (some z) 15 := by rw [← lz]; exact (hnew.2.1.2.2.2.2.1 n (by omega)).1
    show mu_W _ mu_m458 (57, [(4, .inr (.inr (some z))), (3, .inr (.inr tyo)), (2, .inr (.inr po)), (1, .inr (.inr (some m))), (0, .inr (.inr (some 169)))], [], K) _
    have m18_2 : mu_r K 169 18 = some mp := hnew.2.1.1.2.2
    have m0_2 : mu_r K mp 0 = some (loc1 0) := hnew.2.1.2.1.1
    have m1_2 : mu_i K mp 1 = nI (n + 1) := hnew.2.1.2.1.2.1
    have m2_2 : mu_i K mp 2 = nI en := hnew.2.1.2.1.2.2
    have mN0_2 : mu_r K mp 7 = some (loc1 1) := (hnew.2.1.2.2.2.1 0 (by decide)).1.1
    have mI0_2 : mu_r K mp 8 = some (loc1 2) := (hnew.2.1.2.2.2.1 0 (by decide)).1.2.1
    have mC0_2 : mu_i K mp 9 = nI (pr 0).length := (hnew.2.1.2.2.2.1 0 (by decide)).1.2.2
    have mN1_2 : mu_r K mp 4 = some (loc1 3) := (hnew.2.1.2.2.2.1 1 (by decide)).1.1
    have mI1_2 : mu_r K mp 3 = some (loc1 4) := (hnew.2.1.2.2.2.1 1 (by decide)).1.2.1
    have mC1_2 : mu_i K mp 5 = nI (pr 1).length := (hnew.2.1.2.2.2.1 1 (by decide)).1.2.2
    have mN2_2 : mu_r K mp 10 = some (loc1 5) := (hnew.2.1.2.2.2.1 2 (by decide)).1.1
    have mI2_2 : mu_r K mp 11 = some (loc1 6) := (hnew.2.1.2.2.2.1 2 (by decide)).1.2.1
    have mC2_2 : mu_i K mp 12 = nI (pr 2).length := (hnew.2.1.2.2.2.1 2 (by decide)).1.2.2
    have mN3_2 : mu_r K mp 13 = some (loc1 7) := (hnew.2.1.2.2.2.1 3 (by decide)).1.1
    have mI3_2 : mu_r K mp 14 = some (loc1 8) := (hnew.2.1.2.2.2.1 3 (by decide)).1.2.1
    have mC3_2 : mu_i K mp 15 = nI (pr 3).length := (hnew.2.1.2.2.2.1 3 (by decide)).1.2.2
    have rz2 := hnew.rz
    refine mw_go mu_g458 (k := 3) (f1 := (63, [(4, .inr (.inr (some z))), (3, .inr (.inr tyo)), (2, .inr (.inr po)), (1, .inr (.inr (some m))), (0, .inr (.inr (some 169)))], [.inr (.inr (mu_r K 169 18)), .inr (.inr (some z))], K)) (C := [mu_is K (some 169) 1]) rfl (show mu_is K (some 169) 1 from hnew.rz.2.2.2.2) ?_
    refine mw_fr (f' := (63, [(4, .inr (.inr (some z))), (3, .inr (.inr tyo)), (2, .inr (.inr po)), (1, .inr (.inr (some m))), (0, .inr (.inr (some 169)))], [.inr (.inr (some mp)), .inr (.inr (some z))], K)) (by first | (rw [m18_2]; done) | (rw [m18_2]; rfl)) ?_
    refine mw_go mu_g458 (k := 1) (f1 := (66, [(4, .inr (.inr (some z))), (3, .inr (.inr tyo)), (2, .inr (.inr po)), (1, .inr (.inr (some m))), (0, .inr (.inr (some 169)))], [.inl (mu_i K mp 9), .inr (.inr (some z))], K)) (C := [mu_is K (some mp) 16]) rfl (show mu_is K (some mp) 16 from hnew.2.1.1.1) ?_
    refine mw_fr (f' := (66, [(4, .inr (.inr (some z))), (3, .inr (.inr tyo)), (2, .inr (.inr po)), (1, .inr (.inr (some m))), (0, .inr (.inr (some 169)))], [.inl (nI (pr 0).length), .inr (.inr (some z))], K)) (by first | (rw [mC0_2]; done) | (rw [mC0_2]; rfl)) ?_
    refine mw_go mu_g458 (k := 1) (f1 := (69, [(4, .inr (.inr (some z))), (3, .inr (.inr tyo)), (2, .inr (.inr po)), (1, .inr (.inr (some m))), (0, .inr (.inr (some 169)))], [], (mu_si K z 2 (nI (pr 0).length)))) (C := [mu_is K (some z) 15]) rfl (show mu_is K (some z) 15 from kz) ?_
    have hg : bmk T n0 t dep F lv r ms cap sy Hb mp (A0 + 4 * (n + 1)) (B0 + (n + 1) * SB) loc1 (n + 1) (iup Iv n (mi, (pr 0).length, (fun _ => 0), (fun _ => none), (fun _ => 0))) pr en (mu_si K z 2 (nI (pr 0).length)) := by
      have w := hnew.gset (j := n) (v := (pr 0).length) (by omega)
      rw [iup_gs, lz] at w
      exact w
    obtain ⟨K2, eK2⟩ : ∃ K', K' = (mu_si K z 2 (nI (pr 0).length)) := ⟨_, rfl⟩
    rw [← eK2] at hg ⊢
    show mu_W _ mu_m458 (69, [(4, .inr (.inr (some z))), (3, .inr (.inr tyo)), (2, .inr (.inr po)), (1, .inr (.inr (some m))), (0, .inr (.inr (some 169)))], [], K2) _
    refine mw_go mu_g458 (k := 2) (f1 := (72, [(5, .inl (0 : Int32)), (4, .inr (.inr (some z))), (3, .inr (.inr tyo)), (2, .inr (.inr po)), (1, .inr (.inr (some m))), (0, .inr (.inr (some 169)))], [], K2)) (C := []) rfl trivial ?_
    rw [← lz]
    show mu_W _ mu_m458 (72, [(5, .inl (0 : Int32)), (4, .inr (.inr (some (loc1 (9 + 4 * n))))), (3, .inr (.inr tyo)), (2, .inr (.inr po)), (1, .inr (.inr (some m))), (0, .inr (.inr (some 169)))], [], K2) _
    refine mw_sub (L' := [(5, .inl (nI 0)), (4, .inr (.inr (some (loc1 (9 + 4 * n))))), (3, .inr (.inr tyo)), (2, .inr (.inr po)), (1, .inr (.inr (some m))), (0, .inr (.inr (some 169)))]) (by simp [nI]) ?_
    exact hnx hn K2 loc1 hg ll
  · -- 18
    have hn : 200 ≤ n := Decidable.byContradiction (fun z => h1 (show nI n < nI 200 from nI_lt (by omega) (by decide)))
    refine mw_go mu_g458 (k := 1) (f1 := (19, [(3, .inr (.inr tyo)), (2, .inr (.inr po)), (1, .inr (.inr (some m))), (0, .inr (.inr (some 169)))], [.inl (0 : Int32), .inr (.inr (some 169))], H)) (C := []) rfl trivial ?_
    exact mw_cE (as := [.inl (0 : Int32)]) (o := some 169) (S1 := []) rfl rfl rfl rfl (Nat.le_of_ble_eq_true rfl) (by decide) h.rz.2.2.2.2 rfl (by decide) (rp_small (d := d + 5) (x := 0)) (fun H9 e9 => by rw [e9.2]; exact hex hn) (fun v9 H9 e9 => absurd rfl e9.1)
