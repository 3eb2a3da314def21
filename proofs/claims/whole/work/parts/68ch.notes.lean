/-! The reference: noteSymbols -/
theorem rp_nsc {d q v p z C m k : Nat} {F : Nat → Prop} {H : mu_H} {Φ : mu_R → Prop} {nb : Nat → List Int32} (hs9 : mu_is H (some 169) 1) (hm17 : mu_i H 169 17 = nI m) (hp : mu_r H 169 16 = some p) (hpk : mu_is H (some p) 103) (hpz : ¬ p = z) (hz : mu_is H (some z) 103) (hzF : ¬ F z) (hz6 : z < 1000000) (hst : ∀ i, i < m → ∃ s, mu_r H p i = some s ∧ stf H F s (nb i)) (hml : m ≤ mu_n H p ∧ mu_n H p ≤ 2 ^ 30) (hcz : m ≤ C ∧ C ≤ 2 ^ 30) (hfin : ∀ Hk, pcp H p z C m Hk → mu_W (mu_D d) mu_m507 (106, [(4, .inr (.inr (some z))), (3, .inr (.inr (some v))), (2, .inl (nI k)), (1, .inr (.inr (some q))), (0, .inr (.inr (some 169)))], [], Hk) Φ) : ∀ e j Hk, j + e = m → pcp H p z C j Hk → mu_W (mu_D d) mu_m507 (79, [(5, .inl (nI j)), (4, .inr (.inr (some z))), (3, .inr (.inr (some v))), (2, .inl (nI k)), (1, .inr (.inr (some q))), (0, .inr (.inr (some 169)))], [], Hk) Φ
  | 0, j, Hk, hm, hc => by
    obtain ⟨c1, c2, c3, c4⟩ := hc
    have h9 : ¬ 169 = z := fun e => by rw [← e] at hz; exact absurd ((show mu_k H 169 = 1 from hs9.2.2).symm.trans (show mu_k H 169 = 103 from hz.2.2)) (by decide)
    have g9 : mu_is Hk (some 169) 1 := c1.is hs9 h9
    have gm : mu_i Hk 169 17 = nI m := (c1.i (Or.inl hs9.2.1) h9 17).trans hm17
    have gp : mu_r Hk 169 16 = some p := (c1.r (Or.inl hs9.2.1) h9 16).trans hp
    refine mw_go mu_g507 (k := 3) (f1 := (85, [(5, .inl (nI j)), (4, .inr (.inr (some z))), (3, .inr (.inr (some v))), (2, .inl (nI k)), (1, .inr (.inr (some q))), (0, .inr (.inr (some 169)))], [.inl (mu_i Hk 169 17), .inl (nI j)], Hk)) (C := [mu_is Hk (some 169) 1]) rfl (show mu_is Hk (some 169) 1 from g9) ?_
    refine mw_fr (f' := (85, [(5, .inl (nI j)), (4, .inr (.inr (some z))), (3, .inr (.inr (some v))), (2, .inl (nI k)), (1, .inr (.inr (some q))), (0, .inr (.inr (some 169)))], [.inl (nI m), .inl (nI j)], Hk)) (by first | (rw [gm]; done) | (rw [gm]; rfl)) ?_
    refine mw_if (P := (nI j) < (nI m)) (a := 88) (b := 106) (fun _ => rfl) trivial (fun h1 => absurd h1 (by rw [show j = m by omega]; exact Int32.lt_irrefl)) (fun h1 => ?_)
    refine mw_sub (L' := [(4, .inr (.inr (some z))), (3, .inr (.inr (some v))), (2, .inl (nI k)), (1, .inr (.inr (some q))), (0, .inr (.inr (some 169)))]) (by simp) ?_
    exact hfin Hk ⟨c1, fun i hi => c2 i (by omega), c3, c4⟩
  | e + 1, j, Hk, hm, hc => by
    obtain ⟨c1, c2, c3, c4⟩ := hc
    have h9 : ¬ 169 = z := fun e => by rw [← e] at hz; exact absurd ((show mu_k H 169 = 1 from hs9.2.2).symm.trans (show mu_k H 169 = 103 from hz.2.2)) (by decide)
    have g9 : mu_is Hk (some 169) 1 := c1.is hs9 h9
    have gm : mu_i Hk 169 17 = nI m := (c1.i (Or.inl hs9.2.1) h9 17).trans hm17
    have gp : mu_r Hk 169 16 = some p := (c1.r (Or.inl hs9.2.1) h9 16).trans hp
    have hj : j < m := by omega
    have ga0 : mu_is Hk (some p) 103 := c1.is hpk hpz
    have gan : mu_n Hk p = mu_n H p := c1.len (Or.inl hpk.2.1) hpz
    obtain ⟨ga, ga2, ga3, ga4⟩ := ar_at ga0 (by decide) (show j < mu_n Hk p by omega) (by omega)
    have g6 : mu_r Hk p (nI j).toNatClampNeg = mu_r H p j := by rw [ga4]; exact c1.r (Or.inl hpk.2.1) hpz j
    obtain ⟨sj, e1, e2⟩ := hst j hj
    have gsg : mu_sg Hk (mu_r H p j) := by rw [e1]; exact (e2.kp c1 (fun x e => by subst e; exact ⟨hzF, hz6⟩)).1.1
    have gzn : vp_in (nI j) (mu_n Hk z) := by rw [c4]; exact vp_in_nI (by omega) (by omega)
    refine mw_go mu_g507 (k := 3) (f1 := (85, [(5, .inl (nI j)), (4, .inr (.inr (some z))), (3, .inr (.inr (some v))), (2, .inl (nI k)), (1, .inr (.inr (some q))), (0, .inr (.inr (some 169)))], [.inl (mu_i Hk 169 17), .inl (nI j)], Hk)) (C := [mu_is Hk (some 169) 1]) rfl (show mu_is Hk (some 169) 1 from g9) ?_
    refine mw_fr (f' := (85, [(5, .inl (nI j)), (4, .inr (.inr (some z))), (3, .inr (.inr (some v))), (2, .inl (nI k)), (1, .inr (.inr (some q))), (0, .inr (.inr (some 169)))], [.inl (nI m), .inl (nI j)], Hk)) (by first | (rw [gm]; done) | (rw [gm]; rfl)) ?_
    refine mw_if (P := (nI j) < (nI m)) (a := 88) (b := 106) (fun _ => rfl) trivial (fun h1 => ?_) (fun h1 => absurd (show nI j < nI m from nI_lt hj (by omega)) h1)
    refine mw_go mu_g507 (k := 5) (f1 := (98, [(5, .inl (nI j)), (4, .inr (.inr (some z))), (3, .inr (.inr (some v))), (2, .inl (nI k)), (1, .inr (.inr (some q))), (0, .inr (.inr (some 169)))], [.inl (nI j), .inr (.inr (mu_r Hk 169 16)), .inl (nI j), .inr (.inr (some z))], Hk)) (C := [mu_is Hk (some 169) 1]) rfl (show mu_is Hk (some 169) 1 from g9) ?_
    refine mw_fr (f' := (98, [(5, .inl (nI j)), (4, .inr (.inr (some z))), (3, .inr (.inr (some v))), (2, .inl (nI k)), (1, .inr (.inr (some q))), (0, .inr (.inr (some 169)))], [.inl (nI j), .inr (.inr (some p)), .inl (nI j), .inr (.inr (some z))], Hk)) (by first | (rw [gp]; done) | (rw [gp]; rfl)) ?_
    refine mw_go mu_g507 (k := 1) (f1 := (99, [(5, .inl (nI j)), (4, .inr (.inr (some z))), (3, .inr (.inr (some v))), (2, .inl (nI k)), (1, .inr (.inr (some q))), (0, .inr (.inr (some 169)))], [.inr (.inr (mu_r Hk p (nI j).toNatClampNeg)), .inl (nI j), .inr (.inr (some z))], Hk)) (C := [mu_is Hk (some p) (mu_k Hk p), 103 ≤ mu_k Hk p ∧ mu_k Hk p ≤ 110 ∧ mu_k Hk p ≠ 108, vp_in (nI j) (mu_n Hk p)]) rfl (show (mu_is Hk (some p) (mu_k Hk p)) ∧ (103 ≤ mu_k Hk p ∧ mu_k Hk p ≤ 110 ∧ mu_k Hk p ≠ 108) ∧ (vp_in (nI j) (mu_n Hk p)) from ⟨ga, ga2, ga3⟩) ?_
    refine mw_fr (f' := (99, [(5, .inl (nI j)), (4, .inr (.inr (some z))), (3, .inr (.inr (some v))), (2, .inl (nI k)), (1, .inr (.inr (some q))), (0, .inr (.inr (some 169)))], [.inr (.inr (mu_r H p j)), .inl (nI j), .inr (.inr (some z))], Hk)) (by first | (rw [g6]; done) | (rw [g6]; rfl)) ?_
    refine mw_aastS rfl c3 gsg gzn ?_
    rw [show mu_p (some z) = z from rfl, nI_clamp (show j < 2 ^ 31 by omega)]
    refine mw_go mu_g507 (k := 2) (f1 := (79, [(5, .inl ((nI j) + 1)), (4, .inr (.inr (some z))), (3, .inr (.inr (some v))), (2, .inl (nI k)), (1, .inr (.inr (some q))), (0, .inr (.inr (some 169)))], [], (mu_sr Hk z j (mu_r H p j)))) (C := []) rfl trivial ?_
    refine mw_sub (L' := [(5, .inl (nI (j + 1))), (4, .inr (.inr (some z))), (3, .inr (.inr (some v))), (2, .inl (nI k)), (1, .inr (.inr (some q))), (0, .inr (.inr (some 169)))]) (by simp [← nI_add, show (1 : Int32) = nI 1 from rfl]) ?_
    refine rp_nsc hs9 hm17 hp hpk hpz hz hzF hz6 hst hml hcz hfin e (j + 1) _ (by omega) ⟨c1.sr (Or.inl rfl), fun i hi => ?_, c3, c4⟩
    rw [mu_r_sr]
    by_cases e : i = j
    · rw [if_pos ⟨rfl, e⟩, e]
    · rw [if_neg (fun y => e y.2)]
      exact c2 i (by omega)
/-- the row of symbols is made twice as long -/
theorem rp_nsg {d n dep q v cap k : Nat} {T : Nat → Int32} {t : Tok} {F : Nat → Prop} {H : mu_H} {sy : List (List Int32)} {Φ : mu_R → Prop} (hs : pst T n t dep F H) (hy : syr H F cap sy) (hl : sy.length = cap) (hz : mu_z H + 1 ≤ 1000000) (hl2 : cap ≤ 1000000) (hfin : ∀ H1, sfr (cap * 2 - cap) H H1 → syr H1 F (cap * 2) sy → mu_W (mu_D d) mu_m507 (112, [(3, .inr (.inr (some v))), (2, .inl (nI k)), (1, .inr (.inr (some q))), (0, .inr (.inr (some 169)))], [], H1) Φ) : mu_W (mu_D d) mu_m507 (65, [(3, .inr (.inr (some v))), (2, .inl (nI k)), (1, .inr (.inr (some q))), (0, .inr (.inr (some 169)))], [], H) Φ := by
  have hy0 := hy
  obtain ⟨p, r1, ⟨r2, r3, r4⟩, ⟨r5, r6⟩, ⟨r7, r8⟩, ⟨r9, r10, r11, r11'⟩, r12, r13⟩ := hy
  have g2l : (2 : Int32) * mu_i H 169 17 = nI (2 * sy.length) := by rw [r12]; exact (Int32.ofNat_mul 2 sy.length).symm
  have gcl : (nI (2 * sy.length)).toNatClampNeg = 2 * sy.length := nI_clamp (by omega)
  have gnn : ¬ nI (2 * sy.length) < 0 := nI_nn (by omega)
  have gby : (nI (2 * sy.length)).toNatClampNeg * ev_bytes 3 ≤ 536870912 := by rw [gcl]; exact Nat.le_trans (Nat.mul_le_mul (Nat.le_refl _) (show ev_bytes 3 ≤ 8 by decide)) (by omega)
  have g200 := hs.1.1
  have zF : ¬ F (mu_z H) := fun y => by have := (hs.fz _ y).2.1.1; omega
  refine mw_go mu_g507 (k := 4) (f1 := (71, [(3, .inr (.inr (some v))), (2, .inl (nI k)), (1, .inr (.inr (some q))), (0, .inr (.inr (some 169)))], [.inl ((2 : Int32) * (mu_i H 169 17))], H)) (C := [mu_is H (some 169) 1]) rfl (show mu_is H (some 169) 1 from hs.is) ?_
  refine mw_fr (f' := (71, [(3, .inr (.inr (some v))), (2, .inl (nI k)), (1, .inr (.inr (some q))), (0, .inr (.inr (some 169)))], [.inl (nI (2 * sy.length))], H)) (by first | (rw [g2l]; done) | (rw [g2l]; rfl)) ?_
  refine mw_go mu_g507 (k := 4) (f1 := (79, [(5, .inl (0 : Int32)), (4, .inr (.inr (some (mu_z H)))), (3, .inr (.inr (some v))), (2, .inl (nI k)), (1, .inr (.inr (some q))), (0, .inr (.inr (some 169)))], [], (mu_nw H 103 (nI (2 * sy.length)).toNatClampNeg (nI (2 * sy.length)).toNatClampNeg))) (C := [¬ (nI (2 * sy.length)) < 0, (nI (2 * sy.length)).toNatClampNeg * ev_bytes 3 ≤ 536870912, mu_z H + 1 ≤ 1000000]) rfl (show (¬ (nI (2 * sy.length)) < 0) ∧ ((nI (2 * sy.length)).toNatClampNeg * ev_bytes 3 ≤ 536870912) ∧ (mu_z H + 1 ≤ 1000000) from ⟨gnn, gby, hz⟩) ?_
  refine mw_fr (f' := (79, [(5, .inl (0 : Int32)), (4, .inr (.inr (some (mu_z H)))), (3, .inr (.inr (some v))), (2, .inl (nI k)), (1, .inr (.inr (some q))), (0, .inr (.inr (some 169)))], [], (mu_nw H 103 (2 * sy.length) (2 * sy.length)))) (by first | (rw [gcl]; done) | (rw [gcl]; rfl)) ?_
  have k0 : kep (fun _ => False) (0 + 1) (0 + 2 * sy.length) H (mu_nw H 103 (2 * sy.length) (2 * sy.length)) := kep.rf.nw (by omega)
  have pk : mu_is H (some p) 103 := ⟨rfl, r3, r7⟩
  refine mw_sub (L' := [(5, .inl (nI 0)), (4, .inr (.inr (some (mu_z H)))), (3, .inr (.inr (some v))), (2, .inl (nI k)), (1, .inr (.inr (some q))), (0, .inr (.inr (some 169)))]) (by simp [nI]) ?_
  refine rp_nsc (p := p) (C := 2 * sy.length) (F := F) (nb := fun i => sy.getD i []) (k0.is hs.is id) ((k0.i (Or.inl (by omega)) id 17).trans r12) ((k0.r (Or.inl (by omega)) id 16).trans r1) (k0.is pk id) (by omega) (mu_is_new H 103 _ _) zF (by omega) (fun i hi => ?_) ⟨?_, ?_⟩ ⟨by omega, by omega⟩ (fun Hk hk => ?_) sy.length 0 _ (by omega) ⟨kep.rf, fun i hi => absurd hi (Nat.not_lt_zero _), mu_is_new H 103 _ _, by rw [mu_n_nw, if_pos rfl]⟩
  · obtain ⟨s, s1, s2⟩ := r13 i hi
    exact ⟨s, (k0.r (Or.inl r3) id i).trans s1, s2.kp k0 (fun _ y => y.elim)⟩
  · rw [k0.len (Or.inl r3) id]; omega
  · rw [k0.len (Or.inl r3) id]; omega
  obtain ⟨c1, c2, c3, c4⟩ := hk
  have k1 : kep (fun _ => False) (0 + 1 + 0) (0 + 2 * sy.length + 0) H Hk := k0.tr c1 (fun x h y => y.elim id (fun e => by have e : x = mu_z H := e; omega))
  have s9 : mu_is Hk (some 169) 1 := k1.is hs.is id
  show mu_W _ mu_m507 (106, [(4, .inr (.inr (some (mu_z H)))), (3, .inr (.inr (some v))), (2, .inl (nI k)), (1, .inr (.inr (some q))), (0, .inr (.inr (some 169)))], [], Hk) _
  refine mw_go mu_g507 (k := 3) (f1 := (112, [(4, .inr (.inr (some (mu_z H)))), (3, .inr (.inr (some v))), (2, .inl (nI k)), (1, .inr (.inr (some q))), (0, .inr (.inr (some 169)))], [], (mu_sr Hk 169 16 (some (mu_z H))))) (C := [mu_is Hk (some 169) 1]) rfl (show mu_is Hk (some 169) 1 from s9) ?_
  have zk : mu_z H < mu_z Hk := c3.2.1
  have f2 : sfr (cap * 2 - cap) H (mu_sr Hk 169 16 (some (mu_z H))) := by
    refine ⟨⟨(k1.wk (W' := fun x => x = 169 ∨ mu_r H 169 16 = some x) (fun x hx y => y.elim) (by omega) (by omega)).sr (Or.inl (Or.inl rfl)), fun x hx => ?_, fun x hx => ?_, ?_⟩, Or.inr ⟨mu_z H, by rw [mu_r_sr, if_pos ⟨rfl, rfl⟩], Nat.le_refl _, by omega⟩⟩
    · exact k1.i (Or.inl (by omega)) id x
    · rw [mu_r_sr, if_neg (fun y => hx (by rw [y.2]; decide))]
      exact k1.r (Or.inl (by omega)) id x
    · exact k1.k (Or.inl (by omega)) id
  have hn := sfr.nF hs hy0
  have y2 : syr (mu_sr Hk 169 16 (some (mu_z H))) F (cap * 2) sy := by
    refine ⟨mu_z H, by rw [mu_r_sr, if_pos ⟨rfl, rfl⟩], ⟨by omega, zk, by omega⟩, ⟨zF, ?_⟩, ⟨c3.2.2, c4.trans (by omega)⟩, ⟨by omega, by omega, by omega, by omega⟩, (k1.i (Or.inl (by omega)) id 17).trans r12, fun i hi => ?_⟩
    · rw [mu_r_sr, if_neg (fun y => absurd y.2 (by decide)), k1.r (Or.inl (by omega)) id 13]
      intro e
      obtain ⟨r0, r01, ⟨r02, r03⟩, _⟩ := hs.2.2.2.2.2
      rw [r01] at e
      cases e
      omega
    · obtain ⟨s, s1, s2⟩ := r13 i hi
      refine ⟨s, ?_, s2.kp f2.1.1 hn⟩
      rw [mu_r_sr, if_neg (fun y => by have := y.1; omega), c2 i hi, k0.r (Or.inl r3) id i]
      exact s1
  refine mw_sub (L' := [(3, .inr (.inr (some v))), (2, .inl (nI k)), (1, .inr (.inr (some q))), (0, .inr (.inr (some 169)))]) (by simp) ?_
  exact hfin _ f2 y2
/-- a symbol is laid behind the others -/
theorem rp_nsw {d n dep q v cap k e : Nat} {T : Nat → Int32} {t : Tok} {F : Nat → Prop} {H : mu_H} {sy : List (List Int32)} {cv : Tre} {Φ : mu_R → Prop} (hs : pst T n t dep F H) (hy : syr H F cap sy) (hl : sy.length < cap) (hv : nd H F e v cv) (hv0 : 0 < (tns cv).length) (hfin : ∀ H1, sfr 0 H H1 → syr H1 F cap (sy ++ [(tns cv).getD 0 []]) → mu_W (mu_D d) mu_m507 (134, [(3, .inr (.inr (some v))), (2, .inl (nI k)), (1, .inr (.inr (some q))), (0, .inr (.inr (some 169)))], [], H1) Φ) : mu_W (mu_D d) mu_m507 (112, [(3, .inr (.inr (some v))), (2, .inl (nI k)), (1, .inr (.inr (some q))), (0, .inr (.inr (some 169)))], [], H) Φ := by
  have hy0 := hy
  obtain ⟨p, r1, ⟨r2, r3, r4⟩, ⟨r5, r6⟩, ⟨r7, r8⟩, ⟨r9, r10, r11, r11'⟩, r12, r13⟩ := hy
  obtain ⟨nb, n1, n2, n3, n4, n5, n6⟩ := hv.rd.2.2.2.2.1.rd hv0
  have iv := hv.rd.2.1.1
  obtain ⟨a1, a2, a3, a4⟩ := ar_at n3 (by decide) (show 0 < mu_n H nb by omega) (by omega)
  obtain ⟨s, s1, s2⟩ := n6 0 hv0
  have s3 : mu_r H nb (0 : Int32).toNatClampNeg = some s := s1
  have e1 : nI sy.length + (1 : Int32) = nI (sy.length + 1) := nI_add _ _
  have g200 := hs.1.1
  have pn : p ≠ 169 := by omega
  refine mw_go mu_g507 (k := 11) (f1 := (131, [(3, .inr (.inr (some v))), (2, .inl (nI k)), (1, .inr (.inr (some q))), (0, .inr (.inr (some 169)))], [.inr (.inr (mu_r H v 4)), .inl (mu_i H 169 17), .inr (.inr (mu_r H 169 16))], (mu_si H 169 17 ((mu_i H 169 17) + (1 : Int32))))) (C := [mu_is H (some 169) 1, mu_is H (some 169) 1, mu_is H (some 169) 1, mu_is H (some v) 18]) rfl (show (mu_is H (some 169) 1) ∧ (mu_is H (some 169) 1) ∧ (mu_is H (some 169) 1) ∧ (mu_is H (some v) 18) from ⟨hs.is, hs.is, hs.is, iv⟩) ?_
  refine mw_fr (f' := (131, [(3, .inr (.inr (some v))), (2, .inl (nI k)), (1, .inr (.inr (some q))), (0, .inr (.inr (some 169)))], [.inr (.inr (some nb)), .inl (nI sy.length), .inr (.inr (some p))], (mu_si H 169 17 (nI (sy.length + 1))))) (by first | (rw [r12, r1, n1, e1]; done) | (rw [r12, r1, n1, e1]; rfl)) ?_
  refine mw_go mu_g507 (k := 2) (f1 := (133, [(3, .inr (.inr (some v))), (2, .inl (nI k)), (1, .inr (.inr (some q))), (0, .inr (.inr (some 169)))], [.inr (.inr (mu_r H nb (0 : Int32).toNatClampNeg)), .inl (nI sy.length), .inr (.inr (some p))], (mu_si H 169 17 (nI (sy.length + 1))))) (C := [mu_is H (some nb) (mu_k H nb), 103 ≤ mu_k (mu_si H 169 17 (nI (sy.length + 1))) nb ∧ mu_k (mu_si H 169 17 (nI (sy.length + 1))) nb ≤ 110 ∧ mu_k (mu_si H 169 17 (nI (sy.length + 1))) nb ≠ 108, vp_in (0 : Int32) (mu_n H nb)]) rfl (show (mu_is H (some nb) (mu_k H nb)) ∧ (103 ≤ mu_k (mu_si H 169 17 (nI (sy.length + 1))) nb ∧ mu_k (mu_si H 169 17 (nI (sy.length + 1))) nb ≤ 110 ∧ mu_k (mu_si H 169 17 (nI (sy.length + 1))) nb ≠ 108) ∧ (vp_in (0 : Int32) (mu_n H nb)) from ⟨a1, a2, a3⟩) ?_
  refine mw_fr (f' := (133, [(3, .inr (.inr (some v))), (2, .inl (nI k)), (1, .inr (.inr (some q))), (0, .inr (.inr (some 169)))], [.inr (.inr (some s)), .inl (nI sy.length), .inr (.inr (some p))], (mu_si H 169 17 (nI (sy.length + 1))))) (by first | (rw [s3]; done) | (rw [s3]; rfl)) ?_
  have gp : mu_is (mu_si H 169 17 (nI (sy.length + 1))) (some p) 103 := ⟨rfl, r3, r7⟩
  have gs : mu_sg (mu_si H 169 17 (nI (sy.length + 1))) (some s) := s2.1.1
  refine mw_aastS rfl gp gs (by show vp_in (nI sy.length) (mu_n H p); rw [r8]; exact vp_in_nI (by omega) (by omega)) ?_
  rw [show mu_p (some p) = p from rfl, nI_clamp (show sy.length < 2 ^ 31 by omega)]
  show mu_W _ mu_m507 (134, [(3, .inr (.inr (some v))), (2, .inl (nI k)), (1, .inr (.inr (some q))), (0, .inr (.inr (some 169)))], [], (mu_sr (mu_si H 169 17 (nI (sy.length + 1))) p sy.length (some s))) _
  have f2 : sfr 0 H (mu_sr (mu_si H 169 17 (nI (sy.length + 1))) p sy.length (some s)) := by
    refine ⟨⟨(kep.rf.si (Or.inl (Or.inl rfl))).sr (Or.inl (Or.inr r1)), fun x hx => ?_, fun x hx => ?_, rfl⟩, Or.inl ?_⟩
    · show mu_i (mu_si H 169 17 (nI (sy.length + 1))) 169 x = _
      rw [mu_i_si, if_neg (fun y => hx (by rw [y.2]; decide))]
    · rw [mu_r_sr, if_neg (fun y => pn y.1.symm)]; rfl
    · rw [mu_r_sr, if_neg (fun y => pn y.1.symm)]; rfl
  have hn := sfr.nF hs hy0
  have y2 : syr (mu_sr (mu_si H 169 17 (nI (sy.length + 1))) p sy.length (some s)) F cap (sy ++ [(tns cv).getD 0 []]) := by
    refine ⟨p, ?_, ⟨r2, r3, r4⟩, ⟨r5, ?_⟩, ⟨r7, r8⟩, ?_, ?_, fun i hi => ?_⟩
    · rw [mu_r_sr, if_neg (fun y => pn y.1.symm)]; exact r1
    · rw [mu_r_sr, if_neg (fun y => pn y.1.symm)]; exact r6
    · rw [List.length_append]
      show sy.length + 1 ≤ cap ∧ 16 ≤ cap ∧ cap ≤ 2 * (sy.length + 1) + 16 ∧ _
      omega
    · rw [List.length_append]
      show mu_i (mu_si H 169 17 (nI (sy.length + 1))) 169 17 = _
      rw [mu_i_si, if_pos ⟨rfl, rfl⟩]
      rfl
    · rw [List.length_append] at hi
      have hi : i < sy.length + 1 := hi
      by_cases e : i = sy.length
      · subst e
        refine ⟨s, by rw [mu_r_sr, if_pos ⟨rfl, rfl⟩], ?_⟩
        rw [show (sy ++ [(tns cv).getD 0 []]).getD sy.length [] = (tns cv).getD 0 [] by simp [List.getD_eq_getElem?_getD]]
        exact s2.kp f2.1.1 hn
      · obtain ⟨u, u1, u2⟩ := r13 i (by omega)
        refine ⟨u, by rw [mu_r_sr, if_neg (fun y => e y.2)]; exact u1, ?_⟩
        rw [show (sy ++ [(tns cv).getD 0 []]).getD i [] = sy.getD i [] by simp [List.getD_eq_getElem?_getD, List.getElem?_append_left (show i < sy.length by omega)]]
        exact u2.kp f2.1.1 hn
  exact hfin _ f2 y2
theorem rp_nsl {d n dep q dd : Nat} {T : Nat → Int32} {t : Tok} {F : Nat → Prop} {c : Tre} {H : mu_H} {cap : Nat} {sy : List (List Int32)} (hs : pst T n t dep F H) (hy : syr H F cap sy) (hq : nd H F dd q c) (hkd : tkd c = 69) (hvs : ∀ i, i < tsn c → tkd (tkk c i) = 70 → 0 < (tns (tkk c i)).length) (hz : mu_z H + 2 * sy.length + 20 ≤ 1000000 + cap) : ∀ m k, k + m = tsn c → mu_z H + 2 * sy.length + 2 * m + 20 ≤ 1000000 + cap → mu_W (mu_D (d + 3)) mu_m507 (2, [(2, .inl (nI k)), (1, .inr (.inr (some q))), (0, .inr (.inr (some 169)))], [], H) (fun r => ∃ H1 : mu_H, r = (.inl none, H1) ∧ ∃ cap1, syr H1 F cap1 (nsl c m k sy) ∧ cap ≤ cap1 ∧ sfr (cap1 - cap) H H1)
  | 0, k, hm, hz2 => by
    have iq := hq.rd.2.1.1
    have n2 := hq.rd.2.2.2.1.1
    refine mw_go mu_g507 (k := 3) (f1 := (7, [(2, .inl (nI k)), (1, .inr (.inr (some q))), (0, .inr (.inr (some 169)))], [.inl (mu_i H q 2), .inl (nI k)], H)) (C := [mu_is H (some q) 18]) rfl (show mu_is H (some q) 18 from iq) ?_
    refine mw_fr (f' := (7, [(2, .inl (nI k)), (1, .inr (.inr (some q))), (0, .inr (.inr (some 169)))], [.inl (nI (tsn c)), .inl (nI k)], H)) (by first | (rw [n2]; done) | (rw [n2]; rfl)) ?_
    refine mw_if (P := (nI k) < (nI (tsn c))) (a := 10) (b := 140) (fun _ => rfl) trivial (fun h1 => absurd h1 (by rw [show k = tsn c by omega]; exact Int32.lt_irrefl)) (fun h1 => ?_)
    exact mw_of (fun _ => mu_ret rfl trivial ⟨_, rfl, cap, hy, Nat.le_refl _, by rw [Nat.sub_self]; exact sfr.rf⟩)
  | m + 1, k, hm, hz2 => by
    have h26 := hq.s26
    obtain ⟨_, ⟨iq, _, _⟩, _, ⟨n2, _, _⟩, _, a, qa, aF, ai, ⟨al, _, al2⟩, ach, hd0⟩ := hq.rd
    obtain ⟨v, v1, hv⟩ := ach k (by omega)
    obtain ⟨a1, a2, a3, a4⟩ := ar_at ai (by decide) (show k < mu_n H a by omega) (by omega)
    have v2 : mu_r H a (nI k).toNatClampNeg = some v := by rw [a4]; exact v1
    have iv := hv.rd.2.1.1
    have hsl := nsa_len (v := tkk c k) (sy := sy)
    have hcp := hy.cp
    refine mw_go mu_g507 (k := 3) (f1 := (7, [(2, .inl (nI k)), (1, .inr (.inr (some q))), (0, .inr (.inr (some 169)))], [.inl (mu_i H q 2), .inl (nI k)], H)) (C := [mu_is H (some q) 18]) rfl (show mu_is H (some q) 18 from iq) ?_
    refine mw_fr (f' := (7, [(2, .inl (nI k)), (1, .inr (.inr (some q))), (0, .inr (.inr (some 169)))], [.inl (nI (tsn c)), .inl (nI k)], H)) (by first | (rw [n2]; done) | (rw [n2]; rfl)) ?_
    refine mw_if (P := (nI k) < (nI (tsn c))) (a := 10) (b := 140) (fun _ => rfl) trivial (fun h1 => ?_) (fun h1 => absurd (nI_lt (show k < tsn c by omega) (by omega)) h1)
    refine mw_go mu_g507 (k := 2) (f1 := (14, [(2, .inl (nI k)), (1, .inr (.inr (some q))), (0, .inr (.inr (some 169)))], [.inr (.inr (some 1000069)), .inr (.inr (some q))], H)) (C := []) rfl trivial ?_
    refine mw_cIe (fun _ => rfl) (show mu_is H (some q) 18 from iq) (hq.isL (e := d) (j := 69) (by decide)) ?_
    refine mw_if (P := (if tkd c = 69 then 1 else 0) = 0) (a := 140) (b := 20) (fun _ => rfl) trivial (fun h2 => absurd h2 (by rw [if_pos hkd]; decide)) (fun h2 => ?_)
    refine mw_go mu_g507 (k := 3) (f1 := (25, [(2, .inl (nI k)), (1, .inr (.inr (some q))), (0, .inr (.inr (some 169)))], [.inl (nI k), .inr (.inr (mu_r H q 1))], H)) (C := [mu_is H (some q) 18]) rfl (show mu_is H (some q) 18 from iq) ?_
    refine mw_fr (f' := (25, [(2, .inl (nI k)), (1, .inr (.inr (some q))), (0, .inr (.inr (some 169)))], [.inl (nI k), .inr (.inr (some a))], H)) (by first | (rw [qa]; done) | (rw [qa]; rfl)) ?_
    refine mw_go mu_g507 (k := 4) (f1 := (31, [(3, .inr (.inr (mu_r H a (nI k).toNatClampNeg))), (2, .inl (nI k)), (1, .inr (.inr (some q))), (0, .inr (.inr (some 169)))], [.inr (.inr (some 1000070)), .inr (.inr (mu_r H a (nI k).toNatClampNeg))], H)) (C := [mu_is H (some a) (mu_k H a), 103 ≤ mu_k H a ∧ mu_k H a ≤ 110 ∧ mu_k H a ≠ 108, vp_in (nI k) (mu_n H a)]) rfl (show (mu_is H (some a) (mu_k H a)) ∧ (103 ≤ mu_k H a ∧ mu_k H a ≤ 110 ∧ mu_k H a ≠ 108) ∧ (vp_in (nI k) (mu_n H a)) from ⟨a1, a2, a3⟩) ?_
    refine mw_fr (f' := (31, [(3, .inr (.inr (some v))), (2, .inl (nI k)), (1, .inr (.inr (some q))), (0, .inr (.inr (some 169)))], [.inr (.inr (some 1000070)), .inr (.inr (some v))], H)) (by first | (rw [v2]; done) | (rw [v2]; rfl)) ?_
    refine mw_cIe (fun _ => rfl) (show mu_is H (some v) 18 from iv) (hv.isL (e := d) (j := 70) (by decide)) ?_
    refine mw_if (P := (if tkd (tkk c k) = 70 then 1 else 0) = 0) (a := 134) (b := 37) (fun _ => rfl) trivial (fun h3 => ?_) (fun h3 => ?_)
    · -- 134
      refine mw_go mu_g507 (k := 2) (f1 := (2, [(2, .inl ((nI k) + 1)), (3, .inr (.inr (some v))), (1, .inr (.inr (some q))), (0, .inr (.inr (some 169)))], [], H)) (C := []) rfl trivial ?_
      have e9 : ¬ tkd (tkk c k) = 70 := fun e => by rw [if_pos e] at h3; exact absurd h3 (by decide)
      have en : nsa (tkk c k) sy = sy := if_neg e9
      refine mw_sub (L' := [(2, .inl (nI (k + 1))), (1, .inr (.inr (some q))), (0, .inr (.inr (some 169)))]) (by intro x hx; simp only [List.mem_cons, List.not_mem_nil, or_false] at hx ⊢; rcases hx with rfl | rfl | rfl <;> simp [nI_add, show (1 : Int32) = nI 1 from rfl]) ?_
      refine mw_imp (fun r hr => ?_) (rp_nsl (d := d) (cap := cap) hs hy hq hkd hvs (by omega) m (k + 1) (by omega) (by omega))
      obtain ⟨H1, e1, cap1, e2, e3, e4⟩ := hr
      rw [nsl, en]
      exact ⟨H1, e1, cap1, e2, by omega, e4⟩
    · -- 37
      have e9 : tkd (tkk c k) = 70 := Decidable.byContradiction (fun e => h3 (if_neg e))
      have hv0 := hvs k (by omega) e9
      obtain ⟨nb, n1, nF, n3, n4, n5, n6⟩ := hv.rd.2.2.2.2.1.rd hv0
      obtain ⟨b1, b2, b3, b4⟩ := ar_at n3 (by decide) (show 0 < mu_n H nb by omega) (by omega)
      obtain ⟨s, s1, s2⟩ := n6 0 hv0
      have s3 : mu_r H nb (0 : Int32).toNatClampNeg = some s := s1
      refine mw_go mu_g507 (k := 4) (f1 := (43, [(3, .inr (.inr (some v))), (2, .inl (nI k)), (1, .inr (.inr (some q))), (0, .inr (.inr (some 169)))], [.inl (0 : Int32), .inr (.inr (mu_r H v 4)), .inr (.inr (some 169))], H)) (C := [mu_is H (some v) 18]) rfl (show mu_is H (some v) 18 from iv) ?_
      refine mw_fr (f' := (43, [(3, .inr (.inr (some v))), (2, .inl (nI k)), (1, .inr (.inr (some q))), (0, .inr (.inr (some 169)))], [.inl (0 : Int32), .inr (.inr (some nb)), .inr (.inr (some 169))], H)) (by first | (rw [n1]; done) | (rw [n1]; rfl)) ?_
      refine mw_go mu_g507 (k := 1) (f1 := (44, [(3, .inr (.inr (some v))), (2, .inl (nI k)), (1, .inr (.inr (some q))), (0, .inr (.inr (some 169)))], [.inr (.inr (mu_r H nb (0 : Int32).toNatClampNeg)), .inr (.inr (some 169))], H)) (C := [mu_is H (some nb) (mu_k H nb), 103 ≤ mu_k H nb ∧ mu_k H nb ≤ 110 ∧ mu_k H nb ≠ 108, vp_in (0 : Int32) (mu_n H nb)]) rfl (show (mu_is H (some nb) (mu_k H nb)) ∧ (103 ≤ mu_k H nb ∧ mu_k H nb ≤ 110 ∧ mu_k H nb ≠ 108) ∧ (vp_in (0 : Int32) (mu_n H nb)) from ⟨b1, b2, b3⟩) ?_
      refine mw_fr (f' := (44, [(3, .inr (.inr (some v))), (2, .inl (nI k)), (1, .inr (.inr (some q))), (0, .inr (.inr (some 169)))], [.inr (.inr (some s)), .inr (.inr (some 169))], H)) (by first | (rw [s3]; done) | (rw [s3]; rfl)) ?_
      refine mw_cIe (fun _ => rfl) (show mu_is H (some 169) 1 from hs.is) (rp_symbol (d := d) hs.is hy.syl s2.1 (Nat.lt_trans s2.2.2 (by decide))) ?_
      refine mw_if (P := (fid (fun i => decide (sy.getD i [] = (tns (tkk c k)).getD 0 [])) sy.length 0) < 0) (a := 53) (b := 50) (fun _ => rfl) trivial (fun h4 => ?_) (fun h4 => ?_)
      · -- 53
        have en : nsa (tkk c k) sy = sy ++ [(tns (tkk c k)).getD 0 []] := by unfold nsa; rw [if_pos e9, if_pos h4]
        have hsl2 : (sy ++ [(tns (tkk c k)).getD 0 []]).length = sy.length + 1 := by rw [List.length_append]; rfl
        have hy0 := hy
        obtain ⟨p, r1, ⟨r2, r3, r4⟩, ⟨r5, r6⟩, ⟨r7, r8⟩, ⟨r9, r10, r11, r11'⟩, r12, r13⟩ := hy
        have gp : mu_isr H (some p) (mu_k H p) := ⟨rfl, Or.inl r3, rfl⟩
        have gp2 : 100 ≤ mu_k H p := by rw [r7]; decide
        have gl : Int32.ofNat (mu_n H p) = nI cap := by rw [r8]; rfl
        refine mw_go mu_g507 (k := 4) (f1 := (61, [(3, .inr (.inr (some v))), (2, .inl (nI k)), (1, .inr (.inr (some q))), (0, .inr (.inr (some 169)))], [.inr (.inr (mu_r H 169 16)), .inl (mu_i H 169 17)], H)) (C := [mu_is H (some 169) 1, mu_is H (some 169) 1]) rfl (show (mu_is H (some 169) 1) ∧ (mu_is H (some 169) 1) from ⟨hs.is, hs.is⟩) ?_
        refine mw_fr (f' := (61, [(3, .inr (.inr (some v))), (2, .inl (nI k)), (1, .inr (.inr (some q))), (0, .inr (.inr (some 169)))], [.inr (.inr (some p)), .inl (nI sy.length)], H)) (by first | (rw [r12, r1]; done) | (rw [r12, r1]; rfl)) ?_
        refine mw_go mu_g507 (k := 1) (f1 := (62, [(3, .inr (.inr (some v))), (2, .inl (nI k)), (1, .inr (.inr (some q))), (0, .inr (.inr (some 169)))], [.inl (Int32.ofNat (mu_n H p)), .inl (nI sy.length)], H)) (C := [mu_isr H (some p) (mu_k H p), 100 ≤ mu_k H p]) rfl (show (mu_isr H (some p) (mu_k H p)) ∧ (100 ≤ mu_k H p) from ⟨gp, gp2⟩) ?_
        refine mw_fr (f' := (62, [(3, .inr (.inr (some v))), (2, .inl (nI k)), (1, .inr (.inr (some q))), (0, .inr (.inr (some 169)))], [.inl (nI cap), .inl (nI sy.length)], H)) (by first | (rw [gl]; done) | (rw [gl]; rfl)) ?_
        refine mw_if (P := (nI sy.length) = (nI cap)) (a := 65) (b := 112) (fun _ => rfl) trivial (fun h5 => ?_) (fun h5 => ?_)
        · -- 65
          have hfl : sy.length = cap := rI_inj (by omega) (by omega) h5
          refine mw_sub (L' := [(3, .inr (.inr (some v))), (2, .inl (nI k)), (1, .inr (.inr (some q))), (0, .inr (.inr (some 169)))]) (by simp) ?_
          refine rp_nsg hs hy0 hfl (by omega) (by omega) (fun H1 f1 y1 => ?_)
          have z1 := f1.1.1.2.2.1.1
          have s1' := hs.sfr hy0 f1
          refine rp_nsw s1' y1 (by omega) (hv.sfr hs hy0 f1) hv0 (fun H2 f2 y2 => ?_)
          have z2 := f2.1.1.2.2.1.1
          have sx := s1'.sfr y1 f2
          have qx := (hq.sfr hs hy0 f1).sfr s1' y1 f2
          show mu_W _ mu_m507 (134, [(3, .inr (.inr (some v))), (2, .inl (nI k)), (1, .inr (.inr (some q))), (0, .inr (.inr (some 169)))], [], H2) _
          refine mw_go mu_g507 (k := 2) (f1 := (2, [(2, .inl ((nI k) + 1)), (3, .inr (.inr (some v))), (1, .inr (.inr (some q))), (0, .inr (.inr (some 169)))], [], H2)) (C := []) rfl trivial ?_
          refine mw_sub (L' := [(2, .inl (nI (k + 1))), (1, .inr (.inr (some q))), (0, .inr (.inr (some 169)))]) (by intro x hx; simp only [List.mem_cons, List.not_mem_nil, or_false] at hx ⊢; rcases hx with rfl | rfl | rfl <;> simp [nI_add, show (1 : Int32) = nI 1 from rfl]) ?_
          refine mw_imp (fun r hr => ?_) (rp_nsl (d := d) (cap := cap * 2) sx y2 qx hkd hvs (by omega) m (k + 1) (by omega) (by omega))
          obtain ⟨H1, e1, cap1, e2, e3, e4⟩ := hr
          rw [nsl, en]
          exact ⟨H1, e1, cap1, e2, by omega, ((f1.tr f2).tr e4).wk (by omega)⟩
        · -- 112
          have hfl : sy.length ≠ cap := nI_ne (by omega) (by omega) h5
          refine mw_sub (L' := [(3, .inr (.inr (some v))), (2, .inl (nI k)), (1, .inr (.inr (some q))), (0, .inr (.inr (some 169)))]) (by simp) ?_
          refine rp_nsw hs hy0 (by omega) hv hv0 (fun H2 f2 y2 => ?_)
          have z2 := f2.1.1.2.2.1.1
          have sx := hs.sfr hy0 f2
          have qx := hq.sfr hs hy0 f2
          show mu_W _ mu_m507 (134, [(3, .inr (.inr (some v))), (2, .inl (nI k)), (1, .inr (.inr (some q))), (0, .inr (.inr (some 169)))], [], H2) _
          refine mw_go mu_g507 (k := 2) (f1 := (2, [(2, .inl ((nI k) + 1)), (3, .inr (.inr (some v))), (1, .inr (.inr (some q))), (0, .inr (.inr (some 169)))], [], H2)) (C := []) rfl trivial ?_
          refine mw_sub (L' := [(2, .inl (nI (k + 1))), (1, .inr (.inr (some q))), (0, .inr (.inr (some 169)))]) (by intro x hx; simp only [List.mem_cons, List.not_mem_nil, or_false] at hx ⊢; rcases hx with rfl | rfl | rfl <;> simp [nI_add, show (1 : Int32) = nI 1 from rfl]) ?_
          refine mw_imp (fun r hr => ?_) (rp_nsl (d := d) (cap := cap) sx y2 qx hkd hvs (by omega) m (k + 1) (by omega) (by omega))
          obtain ⟨H1, e1, cap1, e2, e3, e4⟩ := hr
          rw [nsl, en]
          exact ⟨H1, e1, cap1, e2, by omega, (f2.tr e4).wk (by omega)⟩
      · -- 50
        refine mw_go mu_g507 (k := 3) (f1 := (2, [(2, .inl ((nI k) + 1)), (3, .inr (.inr (some v))), (1, .inr (.inr (some q))), (0, .inr (.inr (some 169)))], [], H)) (C := []) rfl trivial ?_
        have en : nsa (tkk c k) sy = sy := by unfold nsa; rw [if_pos e9, if_neg h4]
        refine mw_sub (L' := [(2, .inl (nI (k + 1))), (1, .inr (.inr (some q))), (0, .inr (.inr (some 169)))]) (by intro x hx; simp only [List.mem_cons, List.not_mem_nil, or_false] at hx ⊢; rcases hx with rfl | rfl | rfl <;> simp [nI_add, show (1 : Int32) = nI 1 from rfl]) ?_
        refine mw_imp (fun r hr => ?_) (rp_nsl (d := d) (cap := cap) hs hy hq hkd hvs (by omega) m (k + 1) (by omega) (by omega))
        obtain ⟨H1, e1, cap1, e2, e3, e4⟩ := hr
        rw [nsl, en]
        exact ⟨H1, e1, cap1, e2, by omega, e4⟩
theorem rp_noteSymbols {d n dep q dd cap : Nat} {T : Nat → Int32} {t : Tok} {F : Nat → Prop} {c : Tre} {H : mu_H} {sy : List (List Int32)} (hs : pst T n t dep F H) (hy : syr H F cap sy) (hq : nd H F dd q c) (hvs : tkd c = 69 → ∀ i, i < tsn c → tkd (tkk c i) = 70 → 0 < (tns (tkk c i)).length) (hz : mu_z H + 2 * sy.length + 2 * tsz c + 20 ≤ 1000000 + cap) : mu_TV (mu_D (d + 4)) 507 [.inr (.inr (some 169)), .inr (.inr (some q))] H (fun H1 => ∃ cap1, syr H1 F cap1 (nsy c sy) ∧ cap ≤ cap1 ∧ sfr (cap1 - cap) H H1) := by
  have iq := hq.rd.2.1.1
  have n2 := hq.rd.2.2.2.1.1
  have h26 := hq.s26
  have hcp := hy.cp
  refine mu_meth (M := mu_m507) rfl rfl ?_
  refine mw_ht (mu_fn_of (show [0, 1].Nodup by decide)) ?_
  refine mw_go mu_g507 (k := 2) (f1 := (2, [(2, .inl (0 : Int32)), (0, .inr (.inr (some 169))), (1, .inr (.inr (some q)))], [], H)) (C := []) rfl trivial ?_
  by_cases hkd : tkd c = 69
  · have ets : tsz c = tsn c := by rw [tsz_eq, if_pos hkd]
    refine mw_sub (L' := [(2, .inl (nI 0)), (1, .inr (.inr (some q))), (0, .inr (.inr (some 169)))]) (by simp [nI]) ?_
    refine mw_imp (fun r hr => ?_) (rp_nsl (d := d) hs hy hq hkd (hvs hkd) (by omega) (tsn c) 0 (Nat.zero_add _) (by omega))
    obtain ⟨H1, e1, cap1, e2, e3, e4⟩ := hr
    refine ⟨H1, e1, cap1, ?_, e3, e4⟩
    unfold nsy
    rw [if_pos hkd]
    exact e2
  · -- no set
    refine mw_go mu_g507 (k := 3) (f1 := (7, [(2, .inl (0 : Int32)), (0, .inr (.inr (some 169))), (1, .inr (.inr (some q)))], [.inl (mu_i H q 2), .inl (0 : Int32)], H)) (C := [mu_is H (some q) 18]) rfl (show mu_is H (some q) 18 from iq) ?_
    refine mw_fr (f' := (7, [(2, .inl (0 : Int32)), (0, .inr (.inr (some 169))), (1, .inr (.inr (some q)))], [.inl (nI (tsn c)), .inl (0 : Int32)], H)) (by first | (rw [n2]; done) | (rw [n2]; rfl)) ?_
    have en : nsy c sy = sy := if_neg hkd
    have fin : ∃ cap1, syr H F cap1 (nsy c sy) ∧ cap ≤ cap1 ∧ sfr (cap1 - cap) H H := ⟨cap, by rw [en]; exact hy, Nat.le_refl _, by rw [Nat.sub_self]; exact sfr.rf⟩
    refine mw_if (P := (0 : Int32) < (nI (tsn c))) (a := 10) (b := 140) (fun _ => rfl) trivial (fun h1 => ?_) (fun h1 => ?_)
    · -- 10
      refine mw_go mu_g507 (k := 2) (f1 := (14, [(2, .inl (0 : Int32)), (0, .inr (.inr (some 169))), (1, .inr (.inr (some q)))], [.inr (.inr (some 1000069)), .inr (.inr (some q))], H)) (C := []) rfl trivial ?_
      refine mw_cIe (fun _ => rfl) (show mu_is H (some q) 18 from iq) (hq.isL (e := d) (j := 69) (by decide)) ?_
      refine mw_if (P := (if tkd c = 69 then 1 else 0) = 0) (a := 140) (b := 20) (fun _ => rfl) trivial (fun h2 => ?_) (fun h2 => absurd (if_neg hkd) h2)
      exact mw_of (fun _ => mu_ret rfl trivial ⟨_, rfl, fin⟩)
    · -- 140
      exact mw_of (fun _ => mu_ret rfl trivial ⟨_, rfl, fin⟩)
