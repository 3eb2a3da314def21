/-! The reference: path, the names are given to the Node -/
theorem rp_pcq {d q p z C m : Nat} {F : Nat → Prop} {H : mu_H} {Φ : mu_R → Prop} {nb : Nat → List Int32} (hs9 : mu_is H (some 169) 1) (hq : mu_is H (some q) 18) (hq4 : mu_r H q 4 = some z) (hp : mu_r H 169 13 = some p) (hpk : mu_is H (some p) 103) (hpz : ¬ p = z) (hz : mu_is H (some z) 103) (hzF : ¬ F z) (hz6 : z < 1000000) (hst : ∀ i, i < m → ∃ s, mu_r H p i = some s ∧ stf H F s (nb i)) (hml : m ≤ mu_n H p ∧ mu_n H p ≤ 2 ^ 30) (hcz : m ≤ C ∧ C ≤ 2 ^ 30) (hfin : ∀ Hk, pcp H p z C m Hk → mu_W (mu_D d) mu_m501 (137, [(2, .inr (.inr (some q))), (0, .inr (.inr (some 169)))], [], Hk) Φ) : ∀ k j Hk, j + k = m → pcp H p z C j Hk → mu_W (mu_D d) mu_m501 (111, [(4, .inl (nI j)), (3, .inl (nI m)), (2, .inr (.inr (some q))), (0, .inr (.inr (some 169)))], [], Hk) Φ
  | 0, j, Hk, hm, hc => by
    obtain ⟨c1, c2, c3, c4⟩ := hc
    have h9 : ¬ 169 = z := fun e => by rw [← e] at hz; exact absurd ((show mu_k H 169 = 1 from hs9.2.2).symm.trans (show mu_k H 169 = 103 from hz.2.2)) (by decide)
    have hqz : ¬ q = z := fun e => by rw [← e] at hz; exact absurd ((show mu_k H q = 18 from hq.2.2).symm.trans (show mu_k H q = 103 from hz.2.2)) (by decide)
    have g9 : mu_is Hk (some 169) 1 := c1.is hs9 h9
    have gq : mu_is Hk (some q) 18 := c1.is hq hqz
    have gq4 : mu_r Hk q 4 = some z := (c1.r (Or.inl hq.2.1) hqz 4).trans hq4
    have gp : mu_r Hk 169 13 = some p := (c1.r (Or.inl hs9.2.1) h9 13).trans hp
    refine mw_go mu_g501 (k := 2) (f1 := (114, [(4, .inl (nI j)), (3, .inl (nI m)), (2, .inr (.inr (some q))), (0, .inr (.inr (some 169)))], [.inl (nI m), .inl (nI j)], Hk)) (C := []) rfl trivial ?_
    refine mw_if (P := (nI j) < (nI m)) (a := 117) (b := 137) (fun _ => rfl) trivial (fun h1 => absurd h1 (by rw [show j = m by omega]; exact Int32.lt_irrefl)) (fun h1 => ?_)
    refine mw_sub (L' := [(2, .inr (.inr (some q))), (0, .inr (.inr (some 169)))]) (by simp) ?_
    exact hfin Hk ⟨c1, fun i hi => c2 i (by omega), c3, c4⟩
  | k + 1, j, Hk, hm, hc => by
    obtain ⟨c1, c2, c3, c4⟩ := hc
    have h9 : ¬ 169 = z := fun e => by rw [← e] at hz; exact absurd ((show mu_k H 169 = 1 from hs9.2.2).symm.trans (show mu_k H 169 = 103 from hz.2.2)) (by decide)
    have hqz : ¬ q = z := fun e => by rw [← e] at hz; exact absurd ((show mu_k H q = 18 from hq.2.2).symm.trans (show mu_k H q = 103 from hz.2.2)) (by decide)
    have g9 : mu_is Hk (some 169) 1 := c1.is hs9 h9
    have gq : mu_is Hk (some q) 18 := c1.is hq hqz
    have gq4 : mu_r Hk q 4 = some z := (c1.r (Or.inl hq.2.1) hqz 4).trans hq4
    have gp : mu_r Hk 169 13 = some p := (c1.r (Or.inl hs9.2.1) h9 13).trans hp
    have hj : j < m := by omega
    have ga0 : mu_is Hk (some p) 103 := c1.is hpk hpz
    have ga : mu_is Hk (some p) (mu_k Hk p) := ⟨rfl, ga0.2.1, rfl⟩
    have ga2 : 103 ≤ mu_k Hk p ∧ mu_k Hk p ≤ 110 ∧ mu_k Hk p ≠ 108 := by rw [show mu_k Hk p = 103 from ga0.2.2]; decide
    have gan : mu_n Hk p = mu_n H p := c1.len (Or.inl hpk.2.1) hpz
    have ga3 : vp_in (nI j) (mu_n Hk p) := by rw [gan]; exact vp_in_nI (by omega) (by omega)
    have g6 : mu_r Hk p (nI j).toNatClampNeg = mu_r H p j := by rw [nI_clamp (by omega)]; exact c1.r (Or.inl hpk.2.1) hpz j
    obtain ⟨sj, e1, e2⟩ := hst j hj
    have gsg : mu_sg Hk (mu_r H p j) := by rw [e1]; exact (e2.kp c1 (fun x e => by subst e; exact ⟨hzF, hz6⟩)).1.1
    have gzn : vp_in (nI j) (mu_n Hk z) := by rw [c4]; exact vp_in_nI (by omega) (by omega)
    refine mw_go mu_g501 (k := 2) (f1 := (114, [(4, .inl (nI j)), (3, .inl (nI m)), (2, .inr (.inr (some q))), (0, .inr (.inr (some 169)))], [.inl (nI m), .inl (nI j)], Hk)) (C := []) rfl trivial ?_
    refine mw_if (P := (nI j) < (nI m)) (a := 117) (b := 137) (fun _ => rfl) trivial (fun h1 => ?_) (fun h1 => absurd (show nI j < nI m from nI_lt hj (by omega)) h1)
    refine mw_go mu_g501 (k := 6) (f1 := (129, [(4, .inl (nI j)), (3, .inl (nI m)), (2, .inr (.inr (some q))), (0, .inr (.inr (some 169)))], [.inl (nI j), .inr (.inr (mu_r Hk 169 13)), .inl (nI j), .inr (.inr (mu_r Hk q 4))], Hk)) (C := [mu_is Hk (some q) 18, mu_is Hk (some 169) 1]) rfl (show (mu_is Hk (some q) 18) ∧ (mu_is Hk (some 169) 1) from ⟨gq, g9⟩) ?_
    refine mw_fr (f' := (129, [(4, .inl (nI j)), (3, .inl (nI m)), (2, .inr (.inr (some q))), (0, .inr (.inr (some 169)))], [.inl (nI j), .inr (.inr (some p)), .inl (nI j), .inr (.inr (some z))], Hk)) (by first | (rw [gq4, gp]; done) | (rw [gq4, gp]; rfl)) ?_
    refine mw_go mu_g501 (k := 1) (f1 := (130, [(4, .inl (nI j)), (3, .inl (nI m)), (2, .inr (.inr (some q))), (0, .inr (.inr (some 169)))], [.inr (.inr (mu_r Hk p (nI j).toNatClampNeg)), .inl (nI j), .inr (.inr (some z))], Hk)) (C := [mu_is Hk (some p) (mu_k Hk p), 103 ≤ mu_k Hk p ∧ mu_k Hk p ≤ 110 ∧ mu_k Hk p ≠ 108, vp_in (nI j) (mu_n Hk p)]) rfl (show (mu_is Hk (some p) (mu_k Hk p)) ∧ (103 ≤ mu_k Hk p ∧ mu_k Hk p ≤ 110 ∧ mu_k Hk p ≠ 108) ∧ (vp_in (nI j) (mu_n Hk p)) from ⟨ga, ga2, ga3⟩) ?_
    refine mw_fr (f' := (130, [(4, .inl (nI j)), (3, .inl (nI m)), (2, .inr (.inr (some q))), (0, .inr (.inr (some 169)))], [.inr (.inr (mu_r H p j)), .inl (nI j), .inr (.inr (some z))], Hk)) (by first | (rw [g6]; done) | (rw [g6]; rfl)) ?_
    refine mw_aastS rfl c3 gsg gzn ?_
    rw [show mu_p (some z) = z from rfl, nI_clamp (show j < 2 ^ 31 by omega)]
    refine mw_go mu_g501 (k := 2) (f1 := (111, [(4, .inl ((nI j) + 1)), (3, .inl (nI m)), (2, .inr (.inr (some q))), (0, .inr (.inr (some 169)))], [], (mu_sr Hk z j (mu_r H p j)))) (C := []) rfl trivial ?_
    refine mw_sub (L' := [(4, .inl (nI (j + 1))), (3, .inl (nI m)), (2, .inr (.inr (some q))), (0, .inr (.inr (some 169)))]) (by simp [← nI_add, show (1 : Int32) = nI 1 from rfl]) ?_
    refine rp_pcq hs9 hq hq4 hp hpk hpz hz hzF hz6 hst hml hcz hfin k (j + 1) _ (by omega) ⟨c1.sr (Or.inl rfl), fun i hi => ?_, c3, c4⟩
    rw [mu_r_sr]
    by_cases e : i = j
    · rw [if_pos ⟨rfl, e⟩, e]
    · rw [if_neg (fun y => e y.2)]
      exact c2 i (by omega)
theorem rp_pend {d n dep q a c s k m A : Nat} {T : Nat → Int32} {t t0 : Tok} {F F0 : Nat → Prop} {H H0 : mu_H} {ns : List (List Int32)} {res : Nat ⊕ (Tre × Tok)} (h2 : 200 < mu_z H0) (hs : pst T n t dep F H) (hu : nu H0 H F 0 q a c s k 0 [] []) (hn : pnm H F ns) (hp : pfr A F0 F H0 H) (hm : ns.length = m ∧ 0 < m ∧ m ≤ 65536) (hz : mu_z H + 1 ≤ 1000000) (hA : A + m + pot n t + 12 ≤ pot n t0) (hpx : pok (tmk k 0 ns []) t = some res) : mu_W (mu_D d) mu_m501 (100, [(3, .inl (nI m)), (2, .inr (.inr (some q))), (0, .inr (.inr (some 169)))], [], H) (fun r => (∃ H1, r = (.inr 0, H1) ∧ ∃ e, res = .inl e ∧ pbd T n e (pot n t0 + 30) H0 H1) ∨ ∃ v H1, r = (.inl v, H1) ∧ ∃ c t1 q F1, v = some (.inr (.inr (some q))) ∧ res = .inr (c, t1) ∧ pst T n t1 dep F1 H1 ∧ nd H1 F1 1 q c ∧ pot n t1 + 12 ≤ pot n t0 ∧ pfr (pot n t0 - pot n t1 - 12) F0 F1 H0 H1) := by
  have gcl : (nI m).toNatClampNeg = m := nI_clamp (by omega)
  have gnn : ¬ nI m < 0 := nI_nn (by omega)
  have gby : (nI m).toNatClampNeg * ev_bytes 3 ≤ 536870912 := by rw [gcl]; exact Nat.le_trans (Nat.mul_le_mul (Nat.le_refl _) (show ev_bytes 3 ≤ 8 by decide)) (by omega)
  obtain ⟨p, r1, ⟨r2, r3⟩, r4, r5, r6⟩ := hs.2.2.2.2.2
  obtain ⟨m1, m2⟩ := hn p r1
  have hqz : q < mu_z H := hu.is.2.1
  have haz : a < mu_z H := hu.1.2.1.1.2.1
  have hq0 := hu.2.2.2.2.2.1
  have hpq : p ≠ q := fun e => hu.2.2.2.2.2.2.1 (by rw [r1, e])
  have hpa : p ≠ a := fun e => hu.2.2.2.2.2.2.2 (by rw [r1, e])
  have hpz := hp.z
  refine mw_go mu_g501 (k := 6) (f1 := (111, [(4, .inl (0 : Int32)), (3, .inl (nI m)), (2, .inr (.inr (some q))), (0, .inr (.inr (some 169)))], [], (mu_sr (mu_nw H 103 (nI m).toNatClampNeg (nI m).toNatClampNeg) q 4 (some (mu_z H))))) (C := [¬ (nI m) < 0, (nI m).toNatClampNeg * ev_bytes 3 ≤ 536870912, mu_z H + 1 ≤ 1000000, mu_is (mu_nw H 103 (nI m).toNatClampNeg (nI m).toNatClampNeg) (some q) 18]) rfl (show (¬ (nI m) < 0) ∧ ((nI m).toNatClampNeg * ev_bytes 3 ≤ 536870912) ∧ (mu_z H + 1 ≤ 1000000) ∧ (mu_is (mu_nw H 103 (nI m).toNatClampNeg (nI m).toNatClampNeg) (some q) 18) from ⟨gnn, gby, hz, (mu_is_nw hu.is)⟩) ?_
  refine mw_fr (f' := (111, [(4, .inl (0 : Int32)), (3, .inl (nI m)), (2, .inr (.inr (some q))), (0, .inr (.inr (some 169)))], [], (mu_sr (mu_nw H 103 m m) q 4 (some (mu_z H))))) (by first | (rw [gcl]; done) | (rw [gcl]; rfl)) ?_
  have k0 : kep (fun x => x = q ∨ x = mu_z H) (0 + 1) (0 + m) H (mu_sr (mu_nw H 103 m m) q 4 (some (mu_z H))) := (kep.rf.nw (by omega)).sr (Or.inl (Or.inl rfl))
  have zF : ¬ F (mu_z H) := fun y => by have := (hs.fz _ y).2.1.1; omega
  have q6 := hu.1.1.2
  have hW : ∀ x, (x = q ∨ x = mu_z H) → ¬ F x ∧ 200 < x ∧ x < 1000000 ∧ mu_r H 169 13 ≠ some x := by
    intro x y
    rcases y with y | y
    · subst y; exact ⟨hu.2.2.2.2.1.1, by omega, q6, hu.2.2.2.2.2.2.1⟩
    · subst y; exact ⟨zF, by omega, by omega, fun e => by rw [r1] at e; cases e; omega⟩
  have hW2 : ∀ x, (x = q ∨ x = mu_z H) → ¬ F x ∧ x < 1000000 := fun x y => ⟨(hW x y).1, (hW x y).2.2.1⟩
  have sn := hs.kp k0 hW
  have pk : mu_is H (some p) 103 := ⟨rfl, r2, r5⟩
  have pW : ¬ (p = q ∨ p = mu_z H) := fun y => by omega
  refine mw_sub (L' := [(4, .inl (nI 0)), (3, .inl (nI m)), (2, .inr (.inr (some q))), (0, .inr (.inr (some 169)))]) (by simp [nI]) ?_
  refine rp_pcq (p := p) (z := mu_z H) (C := m) (F := F) (nb := fun i => ns.getD i []) sn.is (mu_is_nw (len := m) (sl := m) hu.is) (by rw [mu_r_sr, if_pos ⟨rfl, rfl⟩]) ((k0.r (Or.inl (by omega)) (fun y => by omega) 13).trans r1) (k0.is pk pW) (by omega) (mu_is_new H 103 m m) zF (by omega) (fun i hi => ?_) ⟨?_, ?_⟩ ⟨by omega, by omega⟩ (fun Hk hk => ?_) m 0 _ (by omega) ⟨kep.rf, fun i hi => absurd hi (Nat.not_lt_zero _), mu_is_new H 103 m m, ?_⟩
  · obtain ⟨s, s1, s2⟩ := m2 i (by omega)
    exact ⟨s, (k0.r (Or.inl r2) pW i).trans s1, s2.kp k0 hW2⟩
  · rw [k0.len (Or.inl r2) pW]; omega
  · rw [k0.len (Or.inl r2) pW]; omega
  rotate_left
  · show mu_n (mu_nw H 103 m m) (mu_z H) = m
    rw [mu_n_nw, if_pos rfl]
  obtain ⟨c1, c2, c3, c4⟩ := hk
  have k1 : kep (fun x => x = q ∨ x = mu_z H) (0 + 1 + 0) (0 + m + 0) H Hk := k0.tr c1 (fun x _ y => y.elim id Or.inr)
  have sk := hs.kp k1 hW
  have qz : ¬ q = mu_z H := by omega
  have az : ¬ a = mu_z H := by omega
  obtain ⟨u1, u3, u4, ⟨u5, u6, u7⟩, ⟨u8, u9⟩, ⟨u10, u11⟩, u12, u13⟩ := hu
  have aq : ¬ (a = q ∨ a = mu_z H) := fun y => y.elim (fun e => u1.ne.1 e.symm) az
  have on : ndo Hk q a c s (txt k) [] := by
    obtain ⟨a1, a2, a3, a4, a5, a6, ⟨a7, a8⟩, a9⟩ := u1
    refine ⟨⟨c1.is (mu_is_nw (len := m) (sl := m) a1.1) qz, a1.2⟩, ⟨k1.is a2.1 aq, a2.2⟩, ?_, ?_, ?_, ?_, ⟨(k1.len (Or.inl a2.1.2.1) aq).trans a7, a8⟩, fun i hi => absurd hi (Nat.not_lt_zero _)⟩
    · rw [c1.r (p := q) (Or.inl (Nat.lt_succ_of_lt hqz)) qz 0, mu_r_sr, if_neg (fun y => absurd y.2 (by decide)), mu_r_nw, if_neg qz]; exact a3
    · rw [c1.r (p := q) (Or.inl (Nat.lt_succ_of_lt hqz)) qz 1, mu_r_sr, if_neg (fun y => absurd y.2 (by decide)), mu_r_nw, if_neg qz]; exact a4
    · rw [c1.i (p := q) (Or.inl (Nat.lt_succ_of_lt hqz)) qz 2]
      show mu_i (mu_nw H 103 m m) q 2 = _
      rw [mu_i_nw, if_neg qz]; exact a5
    · rw [c1.i (p := q) (Or.inl (Nat.lt_succ_of_lt hqz)) qz 7]
      show mu_i (mu_nw H 103 m m) q 7 = _
      rw [mu_i_nw, if_neg qz]; exact a6
  have x3 : mu_i Hk q 3 = 0 := by
    rw [c1.i (p := q) (Or.inl (Nat.lt_succ_of_lt hqz)) qz 3]
    show mu_i (mu_nw H 103 m m) q 3 = _
    rw [mu_i_nw, if_neg qz]; exact u5
  have x4 : mu_r Hk q 4 = some (mu_z H) := by rw [c1.r (p := q) (Or.inl (Nat.lt_succ_of_lt hqz)) qz 4, mu_r_sr, if_pos ⟨rfl, rfl⟩]
  have zk : mu_z H < mu_z Hk := c3.2.1
  have e13 : mu_r Hk 169 13 = some p := (k1.r (Or.inl (by omega)) (fun y => by omega) 13).trans r1
  have hm' : ∀ x, F x → F x ∨ x = q ∨ x = a ∨ x = mu_z H := fun x y => Or.inl y
  have sF : pst T n t dep (fun x => F x ∨ x = q ∨ x = a ∨ x = mu_z H) Hk := sk.mono hm' (fun x y => by
    rcases y with y | y | y | y
    · exact Or.inl y
    · subst y; exact Or.inr ⟨by omega, ⟨by omega, q6⟩, by rw [e13]; intro e; cases e; exact hpq rfl⟩
    · subst y; exact Or.inr ⟨by omega, ⟨by omega, u1.2.1.2⟩, by rw [e13]; intro e; cases e; exact hpa rfl⟩
    · subst y; exact Or.inr ⟨by omega, ⟨zk, by omega⟩, by rw [e13]; intro e; cases e; omega⟩)
  have nF : nd Hk (fun x => F x ∨ x = q ∨ x = a ∨ x = mu_z H) 1 q (tmk k 0 ns []) := by
    refine (nds.nil (d := 0)).done on u7 ((u4.kp k1 hW2).mono hm') x3 ?_ (Or.inr (Or.inl rfl)) (Or.inr (Or.inr (Or.inl rfl)))
    rw [x4]
    refine Or.inr ⟨mu_z H, rfl, Or.inr (Or.inr (Or.inr rfl)), c3, by rw [c4]; omega, by omega, fun i hi => ?_⟩
    obtain ⟨s', s1, s2⟩ := m2 i hi
    refine ⟨s', ?_, (s2.kp k1 hW2).mono hm'⟩
    rw [c2 i (by omega), k0.r (Or.inl r2) pW i]; exact s1
  have pF : pfr (A + m) F0 (fun x => F x ∨ x = q ∨ x = a ∨ x = mu_z H) H0 Hk := ((hp.kp (a2 := m) (k1.wk (W' := fun x => mu_z H0 ≤ x ∧ x < 1000000) (fun x _ y => by rcases y with y | y <;> subst y <;> omega) (by omega) (Nat.le_refl _)) (fun x y => y) (by omega) (by omega))).fz hm' (fun x y => by
    rcases y with y | y | y | y
    · exact Or.inl y
    · exact Or.inr (by omega)
    · exact Or.inr (by omega)
    · exact Or.inr (by omega))
  show mu_W _ mu_m501 (137, [(2, .inr (.inr (some q))), (0, .inr (.inr (some 169)))], [], Hk) _
  refine mw_go mu_g501 (k := 1) (f1 := (138, [(2, .inr (.inr (some q))), (0, .inr (.inr (some 169)))], [.inr (.inr (some q))], Hk)) (C := []) rfl trivial ?_
  exact mw_of (fun _ => mu_ret rfl trivial (Or.inr ⟨_, _, rfl, _, _, q, _, rfl, pok_eq hpx, sF, nF, by omega, pF.wk (by omega)⟩))
