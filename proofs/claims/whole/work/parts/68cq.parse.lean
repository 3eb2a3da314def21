/-! The reference: parse -/
/-- PathProverModel.parse()V -/
abbrev mu_m50 : ev_M := (3, none, [], ev_b50)
theorem mu_g50 : mu_good mu_m50 := mu_goodk ev_k50
theorem rp_txc {d p z C m : Nat} {H : mu_H} {Φ : mu_R → Prop} (hs9 : mu_is H (some 169) 1) (hm15 : mu_i H 169 15 = nI m) (hp : mu_r H 169 14 = some p) (hpk : mu_is H (some p) 106) (hpz : ¬ p = z) (hz : mu_is H (some z) 106) (hst : ∀ i, i < m → ∃ s, mu_r H p i = some s ∧ mu_is H (some s) 17) (hml : m ≤ mu_n H p ∧ mu_n H p ≤ 2 ^ 30) (hcz : m ≤ C ∧ C ≤ 2 ^ 30) (hfin : ∀ Hk, rcp 106 H p z C m Hk → mu_W (mu_D d) mu_m50 (80, [(1, .inr (.inr (some z))), (0, .inr (.inr (some 169)))], [], Hk) Φ) : ∀ e j Hk, j + e = m → rcp 106 H p z C j Hk → mu_W (mu_D d) mu_m50 (57, [(2, .inl (nI j)), (1, .inr (.inr (some z))), (0, .inr (.inr (some 169)))], [], Hk) Φ
  | 0, j, Hk, hm, hc => by
    obtain ⟨c1, c2, c3, c4⟩ := hc
    have h9 : ¬ 169 = z := fun e => by rw [← e] at hz; exact absurd ((show mu_k H 169 = 1 from hs9.2.2).symm.trans (show mu_k H 169 = 106 from hz.2.2)) (by decide)
    have g9 : mu_is Hk (some 169) 1 := c1.is hs9 h9
    have gm : mu_i Hk 169 15 = nI m := (c1.i (Or.inl hs9.2.1) h9 15).trans hm15
    have gp : mu_r Hk 169 14 = some p := (c1.r (Or.inl hs9.2.1) h9 14).trans hp
    refine mw_go mu_g50 (k := 3) (f1 := (62, [(2, .inl (nI j)), (1, .inr (.inr (some z))), (0, .inr (.inr (some 169)))], [.inl (mu_i Hk 169 15), .inl (nI j)], Hk)) (C := [mu_is Hk (some 169) 1]) rfl (show mu_is Hk (some 169) 1 from g9) ?_
    refine mw_fr (f' := (62, [(2, .inl (nI j)), (1, .inr (.inr (some z))), (0, .inr (.inr (some 169)))], [.inl (nI m), .inl (nI j)], Hk)) (by first | (rw [gm]; done) | (rw [gm]; rfl)) ?_
    refine mw_if (P := (nI j) < (nI m)) (a := 65) (b := 80) (fun _ => rfl) trivial (fun h1 => absurd h1 (by rw [show j = m by omega]; exact Int32.lt_irrefl)) (fun h1 => ?_)
    refine mw_sub (L' := [(1, .inr (.inr (some z))), (0, .inr (.inr (some 169)))]) (by simp) ?_
    exact hfin Hk ⟨c1, fun i hi => c2 i (by omega), c3, c4⟩
  | e + 1, j, Hk, hm, hc => by
    obtain ⟨c1, c2, c3, c4⟩ := hc
    have h9 : ¬ 169 = z := fun e => by rw [← e] at hz; exact absurd ((show mu_k H 169 = 1 from hs9.2.2).symm.trans (show mu_k H 169 = 106 from hz.2.2)) (by decide)
    have g9 : mu_is Hk (some 169) 1 := c1.is hs9 h9
    have gm : mu_i Hk 169 15 = nI m := (c1.i (Or.inl hs9.2.1) h9 15).trans hm15
    have gp : mu_r Hk 169 14 = some p := (c1.r (Or.inl hs9.2.1) h9 14).trans hp
    have hj : j < m := by omega
    have ga0 : mu_is Hk (some p) 106 := c1.is hpk hpz
    have gan : mu_n Hk p = mu_n H p := c1.len (Or.inl hpk.2.1) hpz
    obtain ⟨ga, ga2, ga3, ga4⟩ := ar_at ga0 (by decide) (show j < mu_n Hk p by omega) (by omega)
    have g6 : mu_r Hk p (nI j).toNatClampNeg = mu_r H p j := by rw [ga4]; exact c1.r (Or.inl hpk.2.1) hpz j
    obtain ⟨sj, e1, e2⟩ := hst j hj
    have gsg : mu_is Hk (mu_r H p j) 17 := by
      rw [e1]
      refine c1.is e2 (fun e => ?_)
      have e : sj = z := e
      rw [e] at e2
      exact absurd ((show mu_k H z = 17 from e2.2.2).symm.trans (show mu_k H z = 106 from hz.2.2)) (by decide)
    have gzn : vp_in (nI j) (mu_n Hk z) := by rw [c4]; exact vp_in_nI (by omega) (by omega)
    refine mw_go mu_g50 (k := 3) (f1 := (62, [(2, .inl (nI j)), (1, .inr (.inr (some z))), (0, .inr (.inr (some 169)))], [.inl (mu_i Hk 169 15), .inl (nI j)], Hk)) (C := [mu_is Hk (some 169) 1]) rfl (show mu_is Hk (some 169) 1 from g9) ?_
    refine mw_fr (f' := (62, [(2, .inl (nI j)), (1, .inr (.inr (some z))), (0, .inr (.inr (some 169)))], [.inl (nI m), .inl (nI j)], Hk)) (by first | (rw [gm]; done) | (rw [gm]; rfl)) ?_
    refine mw_if (P := (nI j) < (nI m)) (a := 65) (b := 80) (fun _ => rfl) trivial (fun h1 => ?_) (fun h1 => absurd (show nI j < nI m from nI_lt hj (by omega)) h1)
    refine mw_go mu_g50 (k := 5) (f1 := (72, [(2, .inl (nI j)), (1, .inr (.inr (some z))), (0, .inr (.inr (some 169)))], [.inl (nI j), .inr (.inr (mu_r Hk 169 14)), .inl (nI j), .inr (.inr (some z))], Hk)) (C := [mu_is Hk (some 169) 1]) rfl (show mu_is Hk (some 169) 1 from g9) ?_
    refine mw_fr (f' := (72, [(2, .inl (nI j)), (1, .inr (.inr (some z))), (0, .inr (.inr (some 169)))], [.inl (nI j), .inr (.inr (some p)), .inl (nI j), .inr (.inr (some z))], Hk)) (by first | (rw [gp]; done) | (rw [gp]; rfl)) ?_
    refine mw_go mu_g50 (k := 1) (f1 := (73, [(2, .inl (nI j)), (1, .inr (.inr (some z))), (0, .inr (.inr (some 169)))], [.inr (.inr (mu_r Hk p (nI j).toNatClampNeg)), .inl (nI j), .inr (.inr (some z))], Hk)) (C := [mu_is Hk (some p) (mu_k Hk p), 103 ≤ mu_k Hk p ∧ mu_k Hk p ≤ 110 ∧ mu_k Hk p ≠ 108, vp_in (nI j) (mu_n Hk p)]) rfl (show (mu_is Hk (some p) (mu_k Hk p)) ∧ (103 ≤ mu_k Hk p ∧ mu_k Hk p ≤ 110 ∧ mu_k Hk p ≠ 108) ∧ (vp_in (nI j) (mu_n Hk p)) from ⟨ga, ga2, ga3⟩) ?_
    refine mw_fr (f' := (73, [(2, .inl (nI j)), (1, .inr (.inr (some z))), (0, .inr (.inr (some 169)))], [.inr (.inr (mu_r H p j)), .inl (nI j), .inr (.inr (some z))], Hk)) (by first | (rw [g6]; done) | (rw [g6]; rfl)) ?_
    refine mw_aastO (t := 6) (ct := 17) rfl c3 gsg (by decide) gzn ?_
    rw [show mu_p (some z) = z from rfl, nI_clamp (show j < 2 ^ 31 by omega)]
    refine mw_go mu_g50 (k := 2) (f1 := (57, [(2, .inl ((nI j) + 1)), (1, .inr (.inr (some z))), (0, .inr (.inr (some 169)))], [], (mu_sr Hk z j (mu_r H p j)))) (C := []) rfl trivial ?_
    refine mw_sub (L' := [(2, .inl (nI (j + 1))), (1, .inr (.inr (some z))), (0, .inr (.inr (some 169)))]) (by simp [← nI_add, show (1 : Int32) = nI 1 from rfl]) ?_
    refine rp_txc hs9 hm15 hp hpk hpz hz hst hml hcz hfin e (j + 1) _ (by omega) ⟨c1.sr (Or.inl rfl), fun i hi => ?_, c3, c4⟩
    rw [mu_r_sr]
    by_cases e : i = j
    · rw [if_pos ⟨rfl, e⟩, e]
    · rw [if_neg (fun y => e y.2)]
      exact c2 i (by omega)
/-- the row of Modules is made twice as long -/
theorem rp_txg {d n dep r cap lv : Nat} {T : Nat → Int32} {t : Tok} {F : Nat → Prop} {H : mu_H} {ms : List Mdl} {Φ : mu_R → Prop} (hs : pst T n t dep F H) (hw : txw H F r cap) (hm : txm H F lv r ms) (hc : mu_i H 169 15 = nI ms.length) (hl : ms.length = cap) (hz : mu_z H + 1 ≤ 1000000) (hl2 : cap ≤ 1000000) (hfin : ∀ H1 r1, xfr cap H H1 → txw H1 F r1 (2 * cap) → txm H1 F lv r1 ms → mu_i H1 169 15 = nI ms.length → mu_W (mu_D d) mu_m50 (85, [(0, .inr (.inr (some 169)))], [], H1) Φ) : mu_W (mu_D d) mu_m50 (45, [(0, .inr (.inr (some 169)))], [], H) Φ := by
  have hw0 := hw
  obtain ⟨w1, ⟨w2, w2'⟩, w3, ⟨w4, w5⟩, w6, w7, w8, w9⟩ := hw
  have g2l : (2 : Int32) * mu_i H 169 15 = nI (2 * ms.length) := by rw [hc]; exact (Int32.ofNat_mul 2 ms.length).symm
  have gcl : (nI (2 * ms.length)).toNatClampNeg = 2 * ms.length := nI_clamp (by omega)
  have gnn : ¬ nI (2 * ms.length) < 0 := nI_nn (by omega)
  have gby : (nI (2 * ms.length)).toNatClampNeg * ev_bytes 6 ≤ 536870912 := by rw [gcl]; exact Nat.le_trans (Nat.mul_le_mul (Nat.le_refl _) (show ev_bytes 6 ≤ 8 by decide)) (by omega)
  have g200 := hs.1.1
  have zF : ¬ F (mu_z H) := fun y => by have := (hs.fz _ y).2.1.1; omega
  refine mw_go mu_g50 (k := 4) (f1 := (51, [(0, .inr (.inr (some 169)))], [.inl ((2 : Int32) * (mu_i H 169 15))], H)) (C := [mu_is H (some 169) 1]) rfl (show mu_is H (some 169) 1 from hs.is) ?_
  refine mw_fr (f' := (51, [(0, .inr (.inr (some 169)))], [.inl (nI (2 * ms.length))], H)) (by first | (rw [g2l]; done) | (rw [g2l]; rfl)) ?_
  refine mw_go mu_g50 (k := 4) (f1 := (57, [(2, .inl (0 : Int32)), (1, .inr (.inr (some (mu_z H)))), (0, .inr (.inr (some 169)))], [], (mu_nw H 106 (nI (2 * ms.length)).toNatClampNeg (nI (2 * ms.length)).toNatClampNeg))) (C := [¬ (nI (2 * ms.length)) < 0, (nI (2 * ms.length)).toNatClampNeg * ev_bytes 6 ≤ 536870912, mu_z H + 1 ≤ 1000000]) rfl (show (¬ (nI (2 * ms.length)) < 0) ∧ ((nI (2 * ms.length)).toNatClampNeg * ev_bytes 6 ≤ 536870912) ∧ (mu_z H + 1 ≤ 1000000) from ⟨gnn, gby, hz⟩) ?_
  refine mw_fr (f' := (57, [(2, .inl (0 : Int32)), (1, .inr (.inr (some (mu_z H)))), (0, .inr (.inr (some 169)))], [], (mu_nw H 106 (2 * ms.length) (2 * ms.length)))) (by first | (rw [gcl]; done) | (rw [gcl]; rfl)) ?_
  have k0 : kep (fun _ => False) (0 + 1) (0 + 2 * ms.length) H (mu_nw H 106 (2 * ms.length) (2 * ms.length)) := kep.rf.nw (by omega)
  refine mw_sub (L' := [(2, .inl (nI 0)), (1, .inr (.inr (some (mu_z H)))), (0, .inr (.inr (some 169)))]) (by simp [nI]) ?_
  refine rp_txc (p := r) (C := 2 * ms.length) (k0.is hs.is id) ((k0.i (Or.inl (by omega)) id 15).trans hc) ((k0.r (Or.inl (by omega)) id 14).trans w1) (k0.is hw0.is id) (by omega) (mu_is_new H 106 _ _) (fun i hi => ?_) ⟨?_, ?_⟩ ⟨by omega, by omega⟩ (fun Hk hk => ?_) ms.length 0 _ (by omega) ⟨kep.rf, fun i hi => absurd hi (Nat.not_lt_zero _), mu_is_new H 106 _ _, by rw [mu_n_nw, if_pos rfl]⟩
  · obtain ⟨s, s1, w', p', q', s2, _⟩ := hm i hi
    exact ⟨s, (k0.r (Or.inl w2) id i).trans s1, k0.is s2.2.1.1 id⟩
  · rw [k0.len (Or.inl w2) id]; omega
  · rw [k0.len (Or.inl w2) id]; omega
  obtain ⟨c1, c2, c3, c4⟩ := hk
  have k1 : kep (fun _ => False) (0 + 1 + 0) (0 + 2 * ms.length + 0) H Hk := k0.tr c1 (fun x h y => y.elim id (fun e => by have e : x = mu_z H := e; omega))
  have s9 : mu_is Hk (some 169) 1 := k1.is hs.is id
  show mu_W _ mu_m50 (80, [(1, .inr (.inr (some (mu_z H)))), (0, .inr (.inr (some 169)))], [], Hk) _
  refine mw_go mu_g50 (k := 3) (f1 := (85, [(1, .inr (.inr (some (mu_z H)))), (0, .inr (.inr (some 169)))], [], (mu_sr Hk 169 14 (some (mu_z H))))) (C := [mu_is Hk (some 169) 1]) rfl (show mu_is Hk (some 169) 1 from s9) ?_
  have zk : mu_z H < mu_z Hk := c3.2.1
  have f2 : xfr cap H (mu_sr Hk 169 14 (some (mu_z H))) := by
    refine ⟨⟨(k1.wk (W' := fun x => x = 169 ∨ mu_r H 169 14 = some x) (fun x hx y => y.elim) (by omega) (by omega)).sr (Or.inl (Or.inl rfl)), fun x hx => ?_, fun x hx => ?_, ?_⟩, Or.inr ⟨mu_z H, by rw [mu_r_sr, if_pos ⟨rfl, rfl⟩], Nat.le_refl _, by omega⟩⟩
    · exact k1.i (Or.inl (by omega)) id x
    · rw [mu_r_sr, if_neg (fun y => hx (by rw [y.2]; decide))]
      exact k1.r (Or.inl (by omega)) id x
    · exact k1.k (Or.inl (by omega)) id
  have kt := ktf.xf hs hw0 f2
  have x2 : txw (mu_sr Hk 169 14 (some (mu_z H))) F (mu_z H) (2 * cap) := by
    refine ⟨by rw [mu_r_sr, if_pos ⟨rfl, rfl⟩], ⟨zk, by omega⟩, ?_, ⟨zF, ?_⟩, c3.2.2, c4.trans (by omega), by omega, by omega⟩
    · simp only [List.mem_cons, List.not_mem_nil, or_false]
      omega
    · rw [mu_r_sr, if_neg (fun y => absurd y.2 (by decide)), k1.r (Or.inl (by omega)) id 13]
      intro e
      obtain ⟨r0, r01, ⟨r02, r03⟩, _⟩ := hs.2.2.2.2.2
      rw [r01] at e
      cases e
      omega
  have m2 : txm (mu_sr Hk 169 14 (some (mu_z H))) F lv (mu_z H) ms := fun i hi => by
    obtain ⟨s, s1, s2⟩ := hm i hi
    refine ⟨s, ?_, s2.kt kt⟩
    rw [mu_r_sr, if_neg (fun y => by have := y.1; omega), c2 i hi, k0.r (Or.inl w2) id i]
    exact s1
  refine mw_sub (L' := [(0, .inr (.inr (some 169)))]) (by simp) ?_
  exact hfin _ _ f2 x2 m2 ((k1.i (Or.inl (by omega)) id 15).trans hc)
theorem rp_par1 {T : Nat → Int32} {n f ff d dep B cap0 : Nat} {F0 : Nat → Prop} {H0 : mu_H} {res : Nat ⊕ (List Mdl × List (List Int32))} (hff : f + 3 ≤ ff) (hz : mu_z H0 + B + 600 ≤ 1000000) (g200 : 200 < mu_z H0) {g : Nat} (ih : ∀ A F H t sy scap r cap ms, pst T n t dep F H → syr H F scap sy → txw H F r cap → txm H F (ff + 1) r ms → (mu_i H 169 15 = nI ms.length ∧ ms.length ≤ cap) → tfr A F0 F H0 H → (A + 10 * ms.length + 2 * sy.length + pot n t + cap0 ≤ B + scap + cap ∧ (cap = cap0 ∨ cap ≤ 2 * ms.length)) → mxQ T n f dep g ms sy t = some res → mu_W (mu_D (d + 6 * (150 - dep) + 17)) mu_m50 (33, [(0, .inr (.inr (some 169)))], [], H) (fun r => (∃ H1, r = (.inr 0, H1) ∧ ∃ e, res = .inl e ∧ tbd T n e (B + 400) H0 H1) ∨ ∃ v H1, r = (.inl v, H1) ∧ ∃ ms1 sy1 F1 scap1 r1 cap1 t1 A1, v = none ∧ res = .inr (ms1, sy1) ∧ pst T n t1 dep F1 H1 ∧ syr H1 F1 scap1 sy1 ∧ txw H1 F1 r1 cap1 ∧ txm H1 F1 (ff + 1) r1 ms1 ∧ (mu_i H1 169 15 = nI ms1.length ∧ ms1.length ≤ cap1) ∧ tfr A1 F0 F1 H0 H1 ∧ A1 ≤ B + 100)) {A r cap scap : Nat} {F : Nat → Prop} {H : mu_H} {t : Tok} {sy : List (List Int32)} {ms : List Mdl} (hs : pst T n t dep F H) (hy : syr H F scap sy) (hw : txw H F r cap) (hm : txm H F (ff + 1) r ms) (hc : mu_i H 169 15 = nI ms.length ∧ ms.length ≤ cap) (hl : ms.length < cap) (ht : tfr A F0 F H0 H) (hA : A + 10 * ms.length + 2 * sy.length + pot n t + cap0 ≤ B + scap + cap ∧ (cap = cap0 ∨ cap ≤ 2 * ms.length)) (hpx : mxQ T n f dep (g + 1) ms sy t = some res) : mu_W (mu_D (d + 6 * (150 - dep) + 17)) mu_m50 (85, [(0, .inr (.inr (some 169)))], [], H) (fun r => (∃ H1, r = (.inr 0, H1) ∧ ∃ e, res = .inl e ∧ tbd T n e (B + 400) H0 H1) ∨ ∃ v H1, r = (.inl v, H1) ∧ ∃ ms1 sy1 F1 scap1 r1 cap1 t1 A1, v = none ∧ res = .inr (ms1, sy1) ∧ pst T n t1 dep F1 H1 ∧ syr H1 F1 scap1 sy1 ∧ txw H1 F1 r1 cap1 ∧ txm H1 F1 (ff + 1) r1 ms1 ∧ (mu_i H1 169 15 = nI ms1.length ∧ ms1.length ≤ cap1) ∧ tfr A1 F0 F1 H0 H1 ∧ A1 ≤ B + 100) := by
  rw [mxQ] at hpx
  have e1 : nI ms.length + (1 : Int32) = nI (ms.length + 1) := nI_add _ _
  have hzt := ht.z
  have hcy := hy.cp
  have hw9 := hw.2.2.2.2.2.2
  refine mw_go mu_g50 (k := 10) (f1 := (101, [(0, .inr (.inr (some 169)))], [.inr (.inr (some 169)), .inl (mu_i H 169 15), .inr (.inr (mu_r H 169 14))], (mu_si H 169 15 ((mu_i H 169 15) + (1 : Int32))))) (C := [mu_is H (some 169) 1, mu_is H (some 169) 1, mu_is H (some 169) 1]) rfl (show (mu_is H (some 169) 1) ∧ (mu_is H (some 169) 1) ∧ (mu_is H (some 169) 1) from ⟨hs.is, hs.is, hs.is⟩) ?_
  refine mw_fr (f' := (101, [(0, .inr (.inr (some 169)))], [.inr (.inr (some 169)), .inl (nI ms.length), .inr (.inr (some r))], (mu_si H 169 15 (nI (ms.length + 1))))) (by first | (rw [hc.1, hw.1, e1]; done) | (rw [hc.1, hw.1, e1]; rfl)) ?_
  have x1 : xfr 0 H (mu_si H 169 15 (nI (ms.length + 1))) := ⟨rfr.rf.si (by decide), Or.inl rfl⟩
  have s1 := hs.xf hw x1
  have y1 := syr.xf hs hy hw x1
  have kt1 := ktf.xf hs hw x1
  have w1 : txw (mu_si H 169 15 (nI (ms.length + 1))) F r cap := hw
  have m1 : txm (mu_si H 169 15 (nI (ms.length + 1))) F (ff + 1) r ms := fun i hi => by
    obtain ⟨s, s1, s2⟩ := hm i hi
    exact ⟨s, s1, s2.kt kt1⟩
  have c1 : mu_i (mu_si H 169 15 (nI (ms.length + 1))) 169 15 = nI (ms.length + 1) := by rw [mu_i_si, if_pos ⟨rfl, rfl⟩]
  have t1 := ht.xf x1
  obtain ⟨Ha, eH⟩ : ∃ K, K = mu_si H 169 15 (nI (ms.length + 1)) := ⟨_, rfl⟩
  have zH : mu_z Ha = mu_z H := by rw [eH]; rfl
  rw [← eH] at s1 y1 w1 m1 c1 t1 ⊢
  clear x1 kt1 eH
  obtain ⟨rr, hrr⟩ := mbi_some hpx
  refine mw_cX (as := []) (o := some 169) (S1 := [.inl (nI ms.length), .inr (.inr (some r))]) rfl rfl rfl rfl (Nat.le_of_ble_eq_true rfl) (by decide) s1.is rfl (rp_module hff s1 y1 (by omega) hrr) (fun Hb e => ?_) (fun v Hb e => ?_)
  · obtain ⟨e', e1, e2⟩ := e
    rw [hrr, e1] at hpx
    exact Or.inl ⟨_, rfl, _, mbi_inl hpx, (t1.bdq e2).wk (by omega)⟩
  obtain ⟨y, sy1, tt, F1, m, A1, cap1, rfl, e2, s2, y2, md2, q2, hA2⟩ := e
  rw [hrr, e2] at hpx
  have hpx := mbi_inr hpx
  have w2 := txw.qf s1 y1 w1 q2
  have m2 := txm.qf s1 y1 w1 m1 q2
  have t2 := t1.qf q2
  have c2 : mu_i Hb 169 15 = nI (ms.length + 1) := (q2.1.2.1 15 (by decide)).trans c1
  have hy2 := y2.cp
  have mi : mu_is Hb (some m) 17 := by
    obtain ⟨w', p', q', z, _⟩ := md2
    exact z.2.1.1
  show mu_W _ mu_m50 (104, [(0, .inr (.inr (some 169)))], [.inr (.inr (some m)), .inl (nI ms.length), .inr (.inr (some r))], Hb) _
  refine mw_aastO (t := 6) (ct := 17) rfl w2.is mi (by decide) (by show vp_in (nI ms.length) (mu_n Hb r); rw [w2.2.2.2.2.2.1]; exact vp_in_nI hl (by omega)) ?_
  rw [show mu_p (some r) = r from rfl, nI_clamp (show ms.length < 2 ^ 31 by omega)]
  have rn : r ≠ 169 := fun e => w2.2.2.1 (by rw [e]; decide)
  have x3 : xfr 0 Hb (mu_sr Hb r ms.length (some m)) := by
    refine ⟨⟨kep.rf.sr (Or.inl (Or.inr w2.1)), fun x hx => rfl, fun x hx => ?_, rfl⟩, Or.inl ?_⟩
    · rw [mu_r_sr, if_neg (fun z => rn z.1.symm)]
    · rw [mu_r_sr, if_neg (fun z => rn z.1.symm)]
  have s3 := s2.xf w2 x3
  have y3 := syr.xf s2 y2 w2 x3
  have kt3 := ktf.xf s2 w2 x3
  have t3 := t2.xf x3
  have z3 := t3.z
  have w3 : txw (mu_sr Hb r ms.length (some m)) F1 r cap := by
    obtain ⟨v1, v2, v3, ⟨v4, v5⟩, v6⟩ := w2
    exact ⟨by rw [mu_r_sr, if_neg (fun z => rn z.1.symm)]; exact v1, v2, v3, ⟨v4, by rw [mu_r_sr, if_neg (fun z => rn z.1.symm)]; exact v5⟩, v6⟩
  have m3 : txm (mu_sr Hb r ms.length (some m)) F1 (ff + 1) r (ms ++ [y]) := fun i hi => by
    rw [List.length_append] at hi
    have hi : i < ms.length + 1 := hi
    by_cases e : i = ms.length
    · subst e
      refine ⟨m, by rw [mu_r_sr, if_pos ⟨rfl, rfl⟩], ?_⟩
      rw [show (ms ++ [y]).getD ms.length ([], [], []) = y by simp [List.getD_eq_getElem?_getD]]
      exact md2.kt kt3
    · obtain ⟨u, u1, u2⟩ := m2 i (by omega)
      refine ⟨u, by rw [mu_r_sr, if_neg (fun z => e z.2)]; exact u1, ?_⟩
      rw [show (ms ++ [y]).getD i ([], [], []) = ms.getD i ([], [], []) by simp [List.getD_eq_getElem?_getD, List.getElem?_append_left (show i < ms.length by omega)]]
      exact u2.kt kt3
  have l3 : (ms ++ [y]).length = ms.length + 1 := by rw [List.length_append]; rfl
  have c3 : mu_i (mu_sr Hb r ms.length (some m)) 169 15 = nI (ms ++ [y]).length := by rw [l3]; exact c2
  obtain ⟨Hc, eHc⟩ : ∃ K, K = mu_sr Hb r ms.length (some m) := ⟨_, rfl⟩
  rw [← eHc] at s3 y3 t3 z3 w3 m3 c3 ⊢
  show mu_W _ mu_m50 (105, [(0, .inr (.inr (some 169)))], [], Hc) _
  refine mw_go mu_g50 (k := 2) (f1 := (109, [(0, .inr (.inr (some 169)))], [.inl (mu_i Hc 169 7)], Hc)) (C := [mu_is Hc (some 169) 1]) rfl (show mu_is Hc (some 169) 1 from s3.is) ?_
  refine mw_fr (f' := (109, [(0, .inr (.inr (some 169)))], [.inl tt.1], Hc)) (by first | (rw [s3.f7]; done) | (rw [s3.f7]; rfl)) ?_
  refine mw_if (P := tt.1 = 0) (a := 112) (b := 33) (fun _ => rfl) trivial (fun h1 => ?_) (fun h1 => ?_)
  · -- 112
    have hpx := gok_eq (ite_ye hpx h1)
    exact mw_of (fun _ => mu_ret rfl trivial (Or.inr ⟨_, _, rfl, _, _, F1, cap1, r, cap, tt, _, rfl, hpx, s3, y3, w3, m3, ⟨c3, by omega⟩, t3, by omega⟩))
  · -- 33
    have hpx := ite_no hpx h1
    exact ih _ _ _ _ _ _ _ _ _ s3 y3 w3 m3 ⟨c3, by omega⟩ t3 ⟨by omega, by omega⟩ hpx
theorem rp_parL {T : Nat → Int32} {n f ff d dep B cap0 : Nat} {F0 : Nat → Prop} {H0 : mu_H} {res : Nat ⊕ (List Mdl × List (List Int32))} (hff : f + 3 ≤ ff) (hz : mu_z H0 + B + 600 ≤ 1000000) (g200 : 200 < mu_z H0) : ∀ g A F H t sy scap r cap ms, pst T n t dep F H → syr H F scap sy → txw H F r cap → txm H F (ff + 1) r ms → (mu_i H 169 15 = nI ms.length ∧ ms.length ≤ cap) → tfr A F0 F H0 H → (A + 10 * ms.length + 2 * sy.length + pot n t + cap0 ≤ B + scap + cap ∧ (cap = cap0 ∨ cap ≤ 2 * ms.length)) → mxQ T n f dep g ms sy t = some res → mu_W (mu_D (d + 6 * (150 - dep) + 17)) mu_m50 (33, [(0, .inr (.inr (some 169)))], [], H) (fun r => (∃ H1, r = (.inr 0, H1) ∧ ∃ e, res = .inl e ∧ tbd T n e (B + 400) H0 H1) ∨ ∃ v H1, r = (.inl v, H1) ∧ ∃ ms1 sy1 F1 scap1 r1 cap1 t1 A1, v = none ∧ res = .inr (ms1, sy1) ∧ pst T n t1 dep F1 H1 ∧ syr H1 F1 scap1 sy1 ∧ txw H1 F1 r1 cap1 ∧ txm H1 F1 (ff + 1) r1 ms1 ∧ (mu_i H1 169 15 = nI ms1.length ∧ ms1.length ≤ cap1) ∧ tfr A1 F0 F1 H0 H1 ∧ A1 ≤ B + 100)
  | 0, _, _, _, _, _, _, _, _, _, _, _, _, _, _, _, _, hpx => by cases hpx
  | g + 1, A, F, H, t, sy, scap, r, cap, ms, hs, hy, hw, hm, hc, ht, hA, hpx => by
    have hzt := ht.z
    have hcy := hy.cp
    have hw9 := hw.2.2.2.2.2.2
    have gp : mu_isr H (some r) (mu_k H r) := ⟨rfl, Or.inl hw.2.1.1, rfl⟩
    have gp2 : 100 ≤ mu_k H r := by rw [hw.2.2.2.2.1]; decide
    have gl : Int32.ofNat (mu_n H r) = nI cap := by rw [hw.2.2.2.2.2.1]; rfl
    refine mw_go mu_g50 (k := 4) (f1 := (41, [(0, .inr (.inr (some 169)))], [.inr (.inr (mu_r H 169 14)), .inl (mu_i H 169 15)], H)) (C := [mu_is H (some 169) 1, mu_is H (some 169) 1]) rfl (show (mu_is H (some 169) 1) ∧ (mu_is H (some 169) 1) from ⟨hs.is, hs.is⟩) ?_
    refine mw_fr (f' := (41, [(0, .inr (.inr (some 169)))], [.inr (.inr (some r)), .inl (nI ms.length)], H)) (by first | (rw [hc.1, hw.1]; done) | (rw [hc.1, hw.1]; rfl)) ?_
    refine mw_go mu_g50 (k := 1) (f1 := (42, [(0, .inr (.inr (some 169)))], [.inl (Int32.ofNat (mu_n H r)), .inl (nI ms.length)], H)) (C := [mu_isr H (some r) (mu_k H r), 100 ≤ mu_k H r]) rfl (show (mu_isr H (some r) (mu_k H r)) ∧ (100 ≤ mu_k H r) from ⟨gp, gp2⟩) ?_
    refine mw_fr (f' := (42, [(0, .inr (.inr (some 169)))], [.inl (nI cap), .inl (nI ms.length)], H)) (by first | (rw [gl]; done) | (rw [gl]; rfl)) ?_
    refine mw_if (P := (nI ms.length) = (nI cap)) (a := 45) (b := 85) (fun _ => rfl) trivial (fun h1 => ?_) (fun h1 => ?_)
    · -- 45
      have hfl : ms.length = cap := rI_inj (by omega) (by omega) h1
      refine rp_txg hs hw hm hc.1 hfl (by omega) (by omega) (fun H1 r1 x1 w1 m1 c1 => ?_)
      exact rp_par1 (cap0 := cap0) hff hz g200 (fun A F H t sy scap r cap ms a1 a2 a3 a4 a5 a6 a7 a8 => rp_parL hff hz g200 g A F H t sy scap r cap ms a1 a2 a3 a4 a5 a6 a7 a8) (hs.xf hw x1) (syr.xf hs hy hw x1) w1 m1 ⟨c1, by omega⟩ (by omega) (ht.xf x1) ⟨by omega, by omega⟩ hpx
    · -- 85
      have hfl : ms.length ≠ cap := nI_ne (by omega) (by omega) h1
      exact rp_par1 (cap0 := cap0) hff hz g200 (fun A F H t sy scap r cap ms a1 a2 a3 a4 a5 a6 a7 a8 => rp_parL hff hz g200 g A F H t sy scap r cap ms a1 a2 a3 a4 a5 a6 a7 a8) hs hy hw hm hc (by omega) ht hA hpx
theorem rp_parse {T : Nat → Int32} {n f ff d dep B r cap : Nat} {F : Nat → Prop} {H : mu_H} {res : Nat ⊕ (List Mdl × List (List Int32))} (hff : f + 3 ≤ ff) (hF : ∀ p, F p → 200 < p ∧ (p < mu_z H ∧ p < 1000000) ∧ mu_r H 169 13 ≠ some p) (hg : rgd H) (htp : rtp H T n) (hpn : pnr H) (hw : txw H F r cap) (hB : B = 21 * n + 60) (hz0 : mu_z H + B + 600 ≤ 1000000) (hdep : dep = 0) (hpx : mxQ T n f dep f [] [] (tkz T n 0) = some res) : mu_TX (mu_D (d + 6 * (150 - dep) + 18)) 50 [.inr (.inr (some 169))] H (fun H1 => ∃ e, res = .inl e ∧ tbd T n e (B + 400) H H1) (fun v H1 => ∃ ms1 sy1 F1 scap1 r1 cap1 t1 A1, v = none ∧ res = .inr (ms1, sy1) ∧ pst T n t1 dep F1 H1 ∧ syr H1 F1 scap1 sy1 ∧ txw H1 F1 r1 cap1 ∧ txm H1 F1 (ff + 1) r1 ms1 ∧ (mu_i H1 169 15 = nI ms1.length ∧ ms1.length ≤ cap1) ∧ tfr A1 F F1 H H1 ∧ A1 ≤ B + 100) := by
  have g200 := hg.1
  have h9 : mu_is H (some 169) 1 := hg.is
  refine mu_meth (M := mu_m50) rfl rfl ?_
  refine mw_ht (mu_fn_of (show [0].Nodup by decide)) ?_
  refine mw_go mu_g50 (k := 5) (f1 := (8, [(0, .inr (.inr (some 169)))], [.inl (16 : Int32), .inr (.inr (some 169))], (mu_si H 169 15 (0 : Int32)))) (C := [mu_is H (some 169) 1]) rfl (show mu_is H (some 169) 1 from h9) ?_
  refine mw_go mu_g50 (k := 1) (f1 := (11, [(0, .inr (.inr (some 169)))], [.inr (.inr (some (mu_z H))), .inr (.inr (some 169))], (mu_nw (mu_si H 169 15 (0 : Int32)) 103 (16 : Int32).toNatClampNeg (16 : Int32).toNatClampNeg))) (C := [¬ (16 : Int32) < 0, (16 : Int32).toNatClampNeg * ev_bytes 3 ≤ 536870912, mu_z H + 1 ≤ 1000000]) rfl (show (¬ (16 : Int32) < 0) ∧ ((16 : Int32).toNatClampNeg * ev_bytes 3 ≤ 536870912) ∧ (mu_z H + 1 ≤ 1000000) from ⟨(by decide), (by decide), (by omega)⟩) ?_
  refine mw_fr (f' := (11, [(0, .inr (.inr (some 169)))], [.inr (.inr (some (mu_z H))), .inr (.inr (some 169))], (mu_nw (mu_si H 169 15 (0 : Int32)) 103 16 16))) (by first | (rw [(show (16 : Int32).toNatClampNeg = 16 from rfl)]; done) | (rw [(show (16 : Int32).toNatClampNeg = 16 from rfl)]; rfl)) ?_
  refine mw_go mu_g50 (k := 11) (f1 := (30, [(0, .inr (.inr (some 169)))], [.inr (.inr (some 169))], (mu_si (mu_si (mu_si (mu_sr (mu_nw (mu_si H 169 15 (0 : Int32)) 103 16 16) 169 16 (some (mu_z H))) 169 17 (0 : Int32)) 169 12 (0 : Int32)) 169 6 (0 : Int32)))) (C := [mu_is (mu_nw (mu_si H 169 15 (0 : Int32)) 103 16 16) (some 169) 1, mu_is (mu_nw (mu_si H 169 15 (0 : Int32)) 103 16 16) (some 169) 1, mu_is (mu_nw (mu_si H 169 15 (0 : Int32)) 103 16 16) (some 169) 1, mu_is (mu_nw (mu_si H 169 15 (0 : Int32)) 103 16 16) (some 169) 1]) rfl (show (mu_is (mu_nw (mu_si H 169 15 (0 : Int32)) 103 16 16) (some 169) 1) ∧ (mu_is (mu_nw (mu_si H 169 15 (0 : Int32)) 103 16 16) (some 169) 1) ∧ (mu_is (mu_nw (mu_si H 169 15 (0 : Int32)) 103 16 16) (some 169) 1) ∧ (mu_is (mu_nw (mu_si H 169 15 (0 : Int32)) 103 16 16) (some 169) 1) from ⟨(mu_is_nw h9), (mu_is_nw h9), (mu_is_nw h9), (mu_is_nw h9)⟩) ?_
  have hi : rfr [15, 17, 12, 6] [16] (fun _ => False) 1 16 H (mu_si (mu_si (mu_si (mu_sr (mu_nw (mu_si H 169 15 (0 : Int32)) 103 16 16) 169 16 (some (mu_z H))) 169 17 (0 : Int32)) 169 12 (0 : Int32)) 169 6 (0 : Int32)) := by
    refine rfr.si (rfr.si (rfr.si (rfr.sr (j := 16) ⟨?_, ?_⟩ (by decide)) (by decide)) (by decide)) (by decide)
    · exact (kep.rf.si (Or.inl (Or.inl rfl))).nw (by show mu_z H < 1000000; omega)
    · refine ⟨fun k hk => ?_, fun k hk => ?_, ?_⟩
      · rw [mu_i_nw, if_neg (show ¬ 169 = mu_z (mu_si H 169 15 0) from fun e => by have e : 169 = mu_z H := e; omega), mu_i_si, if_neg (fun z => hk (by rw [z.2]; decide))]
      · rw [mu_r_nw, if_neg (show ¬ 169 = mu_z (mu_si H 169 15 0) from fun e => by have e : 169 = mu_z H := e; omega)]; rfl
      · rw [mu_k_nw, if_neg (show ¬ 169 = mu_z (mu_si H 169 15 0) from fun e => by have e : 169 = mu_z H := e; omega)]; rfl
  have i16 : mu_r (mu_si (mu_si (mu_si (mu_sr (mu_nw (mu_si H 169 15 (0 : Int32)) 103 16 16) 169 16 (some (mu_z H))) 169 17 (0 : Int32)) 169 12 (0 : Int32)) 169 6 (0 : Int32)) 169 16 = some (mu_z H) := by
    show mu_r (mu_sr _ 169 16 (some (mu_z H))) 169 16 = _
    rw [mu_r_sr, if_pos ⟨rfl, rfl⟩]
  have izz : mu_z (mu_si (mu_si (mu_si (mu_sr (mu_nw (mu_si H 169 15 (0 : Int32)) 103 16 16) 169 16 (some (mu_z H))) 169 17 (0 : Int32)) 169 12 (0 : Int32)) 169 6 (0 : Int32)) = mu_z H + 1 := rfl
  have ik : mu_k (mu_si (mu_si (mu_si (mu_sr (mu_nw (mu_si H 169 15 (0 : Int32)) 103 16 16) 169 16 (some (mu_z H))) 169 17 (0 : Int32)) 169 12 (0 : Int32)) 169 6 (0 : Int32)) (mu_z H) = 103 ∧ mu_n (mu_si (mu_si (mu_si (mu_sr (mu_nw (mu_si H 169 15 (0 : Int32)) 103 16 16) 169 16 (some (mu_z H))) 169 17 (0 : Int32)) 169 12 (0 : Int32)) 169 6 (0 : Int32)) (mu_z H) = 16 := ⟨by show mu_k (mu_nw (mu_si H 169 15 0) 103 16 16) (mu_z H) = 103; rw [mu_k_nw]; exact if_pos rfl, by show mu_n (mu_nw (mu_si H 169 15 0) 103 16 16) (mu_z H) = 16; rw [mu_n_nw]; exact if_pos rfl⟩
  have i6 : mu_i (mu_si (mu_si (mu_si (mu_sr (mu_nw (mu_si H 169 15 (0 : Int32)) 103 16 16) 169 16 (some (mu_z H))) 169 17 (0 : Int32)) 169 12 (0 : Int32)) 169 6 (0 : Int32)) 169 6 = nI 0 := by rw [mu_i_si, if_pos ⟨rfl, rfl⟩]; rfl
  have i12 : mu_i (mu_si (mu_si (mu_si (mu_sr (mu_nw (mu_si H 169 15 (0 : Int32)) 103 16 16) 169 16 (some (mu_z H))) 169 17 (0 : Int32)) 169 12 (0 : Int32)) 169 6 (0 : Int32)) 169 12 = nI 0 := by rw [mu_i_si, if_neg (fun z => absurd z.2 (by decide)), mu_i_si, if_pos ⟨rfl, rfl⟩]; rfl
  have i17 : mu_i (mu_si (mu_si (mu_si (mu_sr (mu_nw (mu_si H 169 15 (0 : Int32)) 103 16 16) 169 16 (some (mu_z H))) 169 17 (0 : Int32)) 169 12 (0 : Int32)) 169 6 (0 : Int32)) 169 17 = nI 0 := by rw [mu_i_si, if_neg (fun z => absurd z.2 (by decide)), mu_i_si, if_neg (fun z => absurd z.2 (by decide)), mu_i_si, if_pos ⟨rfl, rfl⟩]; rfl
  have i15 : mu_i (mu_si (mu_si (mu_si (mu_sr (mu_nw (mu_si H 169 15 (0 : Int32)) 103 16 16) 169 16 (some (mu_z H))) 169 17 (0 : Int32)) 169 12 (0 : Int32)) 169 6 (0 : Int32)) 169 15 = nI 0 := by
    rw [mu_i_si, if_neg (fun z => absurd z.2 (by decide)), mu_i_si, if_neg (fun z => absurd z.2 (by decide)), mu_i_si, if_neg (fun z => absurd z.2 (by decide))]
    show mu_i (mu_nw (mu_si H 169 15 0) 103 16 16) 169 15 = _
    rw [mu_i_nw, if_neg (show ¬ 169 = mu_z (mu_si H 169 15 0) from fun e => by have e : 169 = mu_z H := e; omega), mu_i_si, if_pos ⟨rfl, rfl⟩]; rfl
  obtain ⟨Hi, eHi⟩ : ∃ K, K = (mu_si (mu_si (mu_si (mu_sr (mu_nw (mu_si H 169 15 (0 : Int32)) 103 16 16) 169 16 (some (mu_z H))) 169 17 (0 : Int32)) 169 12 (0 : Int32)) 169 6 (0 : Int32)) := ⟨_, rfl⟩
  rw [← eHi] at hi i16 izz ik i6 i12 i17 i15 ⊢
  have gi : rgd Hi := hg.keep hi (fun k z => by simp only [List.mem_cons, List.not_mem_nil, or_false] at z; subst z; decide) (fun p z => z.elim)
  have ti : rtp Hi T n := htp.keep hg hi (by decide) id
  have hfk := tkz_f (T := T) (Nat.zero_le n)
  have hnn : n ≤ 65536 := htp.2.1
  have hle := hfk.1.2
  have hpt : pot n (tkz T n 0) ≤ 20 * (n - (tkz T n 0).2.2) + 20 := by unfold pot; split <;> omega
  show mu_W _ mu_m50 (30, [(0, .inr (.inr (some 169)))], [.inr (.inr (some 169))], Hi) _
  refine mw_cV (fun _ => rfl) (show mu_is Hi (some 169) 1 from gi.is) (rf_advance gi ti i6 (Nat.zero_le _) (by omega)) (fun H1 q1 => ?_)
  obtain ⟨r1, r2, r3, r4⟩ := q1
  obtain ⟨F1, s1, y1, w1, c1, t1⟩ := pst_start hF hg hpn hw hi i16 izz ik i17 i12 i15 r1 r2 r3 r4 (by omega)
  have s1 : pst T n (tkz T n 0) dep F1 H1 := by rw [hdep]; exact s1
  have m1 : txm H1 F1 (ff + 1) r [] := fun i hi => absurd hi (Nat.not_lt_zero _)
  refine rp_parL (d := d) hff hz0 g200 f _ _ _ _ _ _ _ _ _ s1 y1 w1 m1 ⟨c1, Nat.zero_le _⟩ t1 ⟨?_, Or.inl rfl⟩ hpx
  simp only [List.length_nil]
  omega
