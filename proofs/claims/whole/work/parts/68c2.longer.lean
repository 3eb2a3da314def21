/-! The reference: path, the row of names is made longer -/
/-- PathProverModel.path(Ljava/lang/String;)LPathProverModel$Node; -/
abbrev mu_m501 : ev_M := (6, (some (.object "PathProverModel$Node")), [], ev_b501)
theorem mu_g501 : mu_good mu_m501 := mu_goodk ev_k501
/-- another row of names -/
theorem pst.pns {T : Nat → Int32} {n dep z : Nat} {t : Tok} {F : Nat → Prop} {H : mu_H} (h : pst T n t dep F H) (hz : z < mu_z H ∧ z < 1000000) (h2 : 200 < z) (hF : ¬ F z) (hk : mu_k H z = 103) (hl : 16 ≤ mu_n H z ∧ mu_n H z ≤ 131072) : pst T n t dep F (mu_sr H 169 13 (some z)) := by
  have hn := h.nF
  have hsl := h.sl
  obtain ⟨g1, g2, ⟨k1, k4, k5, k6⟩, g4, g5, r⟩ := h
  have hr : rfr [] [13] (fun _ => False) 0 0 H (mu_sr H 169 13 (some z)) := rfr.rf.sr (by decide)
  refine ⟨g1.keep hr (by decide) (fun _ y => y.elim), g2, ⟨k1, k4, fun c => ?_, k6⟩, g4, fun x y => ⟨(g5 x y).1, (g5 x y).2.1, fun e => ?_⟩, z, ?_, hz, ?_, hk, hl⟩
  · obtain ⟨q, w, b1, b2, b3, b4, b5⟩ := k5 c
    have s1 : stf (mu_sr H 169 13 (some z)) F q (slc T t.2.1 t.2.2) := stf.kp ⟨b5, Or.inr ⟨b2, w, b3, b4⟩, hsl⟩ hr.1 (fun p y => hn p (y.elim Or.inl (fun y => y.elim)))
    rcases s1.2.1 with c | ⟨c1, w', c2, c3⟩
    · exact absurd c.1 (by have := (g5 q b2).2.1.2; omega)
    · exact ⟨q, w', b1, c1, c2, c3, s1.1⟩
  · rw [mu_r_sr, if_pos ⟨rfl, rfl⟩] at e
    cases e
    exact hF y
  · rw [mu_r_sr, if_pos ⟨rfl, rfl⟩]
  · simp only [List.mem_cons, List.not_mem_nil, or_false]
    omega
/-- j names are copied from the row p into the row z -/
def pcp (H : mu_H) (p z C j : Nat) (Hk : mu_H) : Prop := kep (fun x => x = z) 0 0 H Hk ∧ (∀ i, i < j → mu_r Hk z i = mu_r H p i) ∧ mu_is Hk (some z) 103 ∧ mu_n Hk z = C
theorem rp_pcp {d q p z C m : Nat} {F : Nat → Prop} {H : mu_H} {Φ : mu_R → Prop} {nb : Nat → List Int32} (hs9 : mu_is H (some 169) 1) (hp : mu_r H 169 13 = some p) (hpk : mu_is H (some p) 103) (hpz : ¬ p = z) (hz : mu_is H (some z) 103) (hzF : ¬ F z) (hz6 : z < 1000000) (hst : ∀ i, i < m → ∃ s, mu_r H p i = some s ∧ stf H F s (nb i)) (hml : m ≤ mu_n H p ∧ mu_n H p ≤ 2 ^ 30) (hcz : m ≤ C ∧ C ≤ 2 ^ 30) (hfin : ∀ Hk, pcp H p z C m Hk → mu_W (mu_D d) mu_m501 (78, [(4, .inr (.inr (some z))), (3, .inl (nI m)), (2, .inr (.inr (some q))), (0, .inr (.inr (some 169)))], [], Hk) Φ) : ∀ k j Hk, j + k = m → pcp H p z C j Hk → mu_W (mu_D d) mu_m501 (54, [(5, .inl (nI j)), (4, .inr (.inr (some z))), (3, .inl (nI m)), (2, .inr (.inr (some q))), (0, .inr (.inr (some 169)))], [], Hk) Φ
  | 0, j, Hk, hm, hc => by
    obtain ⟨c1, c2, c3, c4⟩ := hc
    have h9 : ¬ 169 = z := fun e => by rw [← e] at hz; exact absurd ((show mu_k H 169 = 1 from hs9.2.2).symm.trans (show mu_k H 169 = 103 from hz.2.2)) (by decide)
    have g9 : mu_is Hk (some 169) 1 := c1.is hs9 h9
    have gp : mu_r Hk 169 13 = some p := (c1.r (Or.inl hs9.2.1) h9 13).trans hp
    refine mw_go mu_g501 (k := 2) (f1 := (57, [(5, .inl (nI j)), (4, .inr (.inr (some z))), (3, .inl (nI m)), (2, .inr (.inr (some q))), (0, .inr (.inr (some 169)))], [.inl (nI m), .inl (nI j)], Hk)) (C := []) rfl trivial ?_
    refine mw_if (P := (nI j) < (nI m)) (a := 60) (b := 78) (fun _ => rfl) trivial (fun h1 => absurd h1 (by rw [show j = m by omega]; exact Int32.lt_irrefl)) (fun h1 => ?_)
    refine mw_sub (L' := [(4, .inr (.inr (some z))), (3, .inl (nI m)), (2, .inr (.inr (some q))), (0, .inr (.inr (some 169)))]) (by simp) ?_
    exact hfin Hk ⟨c1, fun i hi => c2 i (by omega), c3, c4⟩
  | k + 1, j, Hk, hm, hc => by
    obtain ⟨c1, c2, c3, c4⟩ := hc
    have h9 : ¬ 169 = z := fun e => by rw [← e] at hz; exact absurd ((show mu_k H 169 = 1 from hs9.2.2).symm.trans (show mu_k H 169 = 103 from hz.2.2)) (by decide)
    have g9 : mu_is Hk (some 169) 1 := c1.is hs9 h9
    have gp : mu_r Hk 169 13 = some p := (c1.r (Or.inl hs9.2.1) h9 13).trans hp
    have hj : j < m := by omega
    have ga0 : mu_is Hk (some p) 103 := c1.is hpk hpz
    have ga : mu_is Hk (some p) (mu_k Hk p) := ⟨rfl, ga0.2.1, rfl⟩
    have ga2 : 103 ≤ mu_k Hk p ∧ mu_k Hk p ≤ 110 ∧ mu_k Hk p ≠ 108 := by rw [show mu_k Hk p = 103 from ga0.2.2]; decide
    have gan : mu_n Hk p = mu_n H p := c1.len (Or.inl hpk.2.1) hpz
    have ga3 : vp_in (nI j) (mu_n Hk p) := by rw [gan]; exact vp_in_nI (by omega) (by omega)
    have g6 : mu_r Hk p (nI j).toNatClampNeg = mu_r H p j := by rw [nI_clamp (by omega)]; exact c1.r (Or.inl hpk.2.1) hpz j
    obtain ⟨sj, e1, e2⟩ := hst j hj
    have gsg : mu_sg Hk (mu_r H p j) := by rw [e1]; exact (e2.kp c1 (fun x e => by subst e; exact ⟨hzF, hz6⟩)).1.1
    have gzn : vp_in (nI j) (mu_n Hk z) := by rw [c4]; exact vp_in_nI (by omega) (by omega)
    refine mw_go mu_g501 (k := 2) (f1 := (57, [(5, .inl (nI j)), (4, .inr (.inr (some z))), (3, .inl (nI m)), (2, .inr (.inr (some q))), (0, .inr (.inr (some 169)))], [.inl (nI m), .inl (nI j)], Hk)) (C := []) rfl trivial ?_
    refine mw_if (P := (nI j) < (nI m)) (a := 60) (b := 78) (fun _ => rfl) trivial (fun h1 => ?_) (fun h1 => absurd (show nI j < nI m from nI_lt hj (by omega)) h1)
    refine mw_go mu_g501 (k := 5) (f1 := (70, [(5, .inl (nI j)), (4, .inr (.inr (some z))), (3, .inl (nI m)), (2, .inr (.inr (some q))), (0, .inr (.inr (some 169)))], [.inl (nI j), .inr (.inr (mu_r Hk 169 13)), .inl (nI j), .inr (.inr (some z))], Hk)) (C := [mu_is Hk (some 169) 1]) rfl (show mu_is Hk (some 169) 1 from g9) ?_
    refine mw_fr (f' := (70, [(5, .inl (nI j)), (4, .inr (.inr (some z))), (3, .inl (nI m)), (2, .inr (.inr (some q))), (0, .inr (.inr (some 169)))], [.inl (nI j), .inr (.inr (some p)), .inl (nI j), .inr (.inr (some z))], Hk)) (by first | (rw [gp]; done) | (rw [gp]; rfl)) ?_
    refine mw_go mu_g501 (k := 1) (f1 := (71, [(5, .inl (nI j)), (4, .inr (.inr (some z))), (3, .inl (nI m)), (2, .inr (.inr (some q))), (0, .inr (.inr (some 169)))], [.inr (.inr (mu_r Hk p (nI j).toNatClampNeg)), .inl (nI j), .inr (.inr (some z))], Hk)) (C := [mu_is Hk (some p) (mu_k Hk p), 103 ≤ mu_k Hk p ∧ mu_k Hk p ≤ 110 ∧ mu_k Hk p ≠ 108, vp_in (nI j) (mu_n Hk p)]) rfl (show (mu_is Hk (some p) (mu_k Hk p)) ∧ (103 ≤ mu_k Hk p ∧ mu_k Hk p ≤ 110 ∧ mu_k Hk p ≠ 108) ∧ (vp_in (nI j) (mu_n Hk p)) from ⟨ga, ga2, ga3⟩) ?_
    refine mw_fr (f' := (71, [(5, .inl (nI j)), (4, .inr (.inr (some z))), (3, .inl (nI m)), (2, .inr (.inr (some q))), (0, .inr (.inr (some 169)))], [.inr (.inr (mu_r H p j)), .inl (nI j), .inr (.inr (some z))], Hk)) (by first | (rw [g6]; done) | (rw [g6]; rfl)) ?_
    refine mw_aastS rfl c3 gsg gzn ?_
    rw [show mu_p (some z) = z from rfl, nI_clamp (show j < 2 ^ 31 by omega)]
    refine mw_go mu_g501 (k := 2) (f1 := (54, [(5, .inl ((nI j) + 1)), (4, .inr (.inr (some z))), (3, .inl (nI m)), (2, .inr (.inr (some q))), (0, .inr (.inr (some 169)))], [], (mu_sr Hk z j (mu_r H p j)))) (C := []) rfl trivial ?_
    refine mw_sub (L' := [(5, .inl (nI (j + 1))), (4, .inr (.inr (some z))), (3, .inl (nI m)), (2, .inr (.inr (some q))), (0, .inr (.inr (some 169)))]) (by simp [← nI_add, show (1 : Int32) = nI 1 from rfl]) ?_
    refine rp_pcp hs9 hp hpk hpz hz hzF hz6 hst hml hcz hfin k (j + 1) _ (by omega) ⟨c1.sr (Or.inl rfl), fun i hi => ?_, c3, c4⟩
    rw [mu_r_sr]
    by_cases e : i = j
    · rw [if_pos ⟨rfl, e⟩, e]
    · rw [if_neg (fun y => e y.2)]
      exact c2 i (by omega)
/-- the row is made twice as long -/
theorem rp_grow {d n dep q m : Nat} {T : Nat → Int32} {t : Tok} {F : Nat → Prop} {H : mu_H} {ns : List (List Int32)} {Φ : mu_R → Prop} (hs : pst T n t dep F H) (hn : pnm H F ns) (hm : ns.length = m ∧ 16 ≤ m ∧ m ≤ 65536) (hl : ∀ p, mu_r H 169 13 = some p → mu_n H p = m) (hz : mu_z H + 1 ≤ 1000000) (hfin : ∀ H1, pst T n t dep F H1 → pfr (1 + m) F F H H1 → pnm H1 F ns → (∀ p, mu_r H1 169 13 = some p → mu_n H1 p = 2 * m) → mu_W (mu_D d) mu_m501 (84, [(3, .inl (nI m)), (2, .inr (.inr (some q))), (0, .inr (.inr (some 169)))], [], H1) Φ) : mu_W (mu_D d) mu_m501 (43, [(3, .inl (nI m)), (2, .inr (.inr (some q))), (0, .inr (.inr (some 169)))], [], H) Φ := by
  have hm2 : m ≤ 65536 := by omega
  have g2l : (2 : Int32) * nI m = nI (2 * m) := (Int32.ofNat_mul 2 m).symm
  have gcl : (nI (2 * m)).toNatClampNeg = 2 * m := nI_clamp (by omega)
  have gnn : ¬ nI (2 * m) < 0 := nI_nn (by omega)
  have gby : (nI (2 * m)).toNatClampNeg * ev_bytes 3 ≤ 536870912 := by rw [gcl]; exact Nat.le_trans (Nat.mul_le_mul (Nat.le_refl _) (show ev_bytes 3 ≤ 8 by decide)) (by omega)
  obtain ⟨p, r1, ⟨r2, r3⟩, r4, r5, r6⟩ := hs.2.2.2.2.2
  obtain ⟨m1, m2⟩ := hn p r1
  have hpl : mu_n H p = m := hl p r1
  refine mw_go mu_g501 (k := 3) (f1 := (46, [(3, .inl (nI m)), (2, .inr (.inr (some q))), (0, .inr (.inr (some 169)))], [.inl ((2 : Int32) * (nI m))], H)) (C := []) rfl trivial ?_
  refine mw_fr (f' := (46, [(3, .inl (nI m)), (2, .inr (.inr (some q))), (0, .inr (.inr (some 169)))], [.inl (nI (2 * m))], H)) (by first | (rw [g2l]; done) | (rw [g2l]; rfl)) ?_
  refine mw_go mu_g501 (k := 4) (f1 := (54, [(5, .inl (0 : Int32)), (4, .inr (.inr (some (mu_z H)))), (3, .inl (nI m)), (2, .inr (.inr (some q))), (0, .inr (.inr (some 169)))], [], (mu_nw H 103 (nI (2 * m)).toNatClampNeg (nI (2 * m)).toNatClampNeg))) (C := [¬ (nI (2 * m)) < 0, (nI (2 * m)).toNatClampNeg * ev_bytes 3 ≤ 536870912, mu_z H + 1 ≤ 1000000]) rfl (show (¬ (nI (2 * m)) < 0) ∧ ((nI (2 * m)).toNatClampNeg * ev_bytes 3 ≤ 536870912) ∧ (mu_z H + 1 ≤ 1000000) from ⟨gnn, gby, hz⟩) ?_
  refine mw_fr (f' := (54, [(5, .inl (0 : Int32)), (4, .inr (.inr (some (mu_z H)))), (3, .inl (nI m)), (2, .inr (.inr (some q))), (0, .inr (.inr (some 169)))], [], (mu_nw H 103 (2 * m) (2 * m)))) (by first | (rw [gcl]; done) | (rw [gcl]; rfl)) ?_
  have k0 : kep (fun x => mu_z H ≤ x ∧ x < 1000000) (0 + 1) (0 + 2 * m) H (mu_nw H 103 (2 * m) (2 * m)) := kep.rf.nw (by omega)
  have g200 := hs.1.1
  have zF : ¬ F (mu_z H) := fun y => by have := (hs.fz _ y).2.1.1; omega
  have hW : ∀ x, (mu_z H ≤ x ∧ x < 1000000) → ¬ F x ∧ 200 < x ∧ x < 1000000 ∧ mu_r H 169 13 ≠ some x := fun x y => ⟨fun w => by have := (hs.fz _ w).2.1.1; omega, by omega, y.2, fun e => by rw [r1] at e; cases e; omega⟩
  have hW2 : ∀ x, (mu_z H ≤ x ∧ x < 1000000) → ¬ F x ∧ x < 1000000 := fun x y => ⟨(hW x y).1, y.2⟩
  have sn := hs.kp k0 hW
  have pk : mu_is H (some p) 103 := ⟨rfl, r2, r5⟩
  refine mw_sub (L' := [(5, .inl (nI 0)), (4, .inr (.inr (some (mu_z H)))), (3, .inl (nI m)), (2, .inr (.inr (some q))), (0, .inr (.inr (some 169)))]) (by simp [nI]) ?_
  refine rp_pcp (p := p) (C := 2 * m) (F := F) (nb := fun i => ns.getD i []) sn.is ((k0.r (Or.inl (by omega)) (fun y => by have := y.1; omega) 13).trans r1) (k0.is pk (fun y => by have : mu_z H ≤ p := y.1; omega)) (by omega) (mu_is_new H 103 _ _) zF (by omega) (fun i hi => ?_) ⟨?_, ?_⟩ ⟨by omega, by omega⟩ (fun Hk hk => ?_) m 0 _ (by omega) ⟨kep.rf, fun i hi => absurd hi (Nat.not_lt_zero _), mu_is_new H 103 _ _, by rw [mu_n_nw, if_pos rfl]⟩
  · obtain ⟨s, s1, s2⟩ := m2 i (by omega)
    exact ⟨s, (k0.r (Or.inl r2) (fun y => by have := y.1; omega) i).trans s1, s2.kp k0 hW2⟩
  · rw [k0.len (Or.inl r2) (fun y => by have := y.1; omega)]; omega
  · rw [k0.len (Or.inl r2) (fun y => by have := y.1; omega)]; omega
  obtain ⟨c1, c2, c3, c4⟩ := hk
  have k1 : kep (fun x => mu_z H ≤ x ∧ x < 1000000) (0 + 1 + 0) (0 + 2 * m + 0) H Hk := k0.tr c1 (fun x _ y => y.elim id (fun e => by have e : x = mu_z H := e; omega))
  have sk := hs.kp k1 hW
  have s9 : mu_is Hk (some 169) 1 := sk.is
  show mu_W _ mu_m501 (78, [(4, .inr (.inr (some (mu_z H)))), (3, .inl (nI m)), (2, .inr (.inr (some q))), (0, .inr (.inr (some 169)))], [], Hk) _
  refine mw_go mu_g501 (k := 3) (f1 := (84, [(4, .inr (.inr (some (mu_z H)))), (3, .inl (nI m)), (2, .inr (.inr (some q))), (0, .inr (.inr (some 169)))], [], (mu_sr Hk 169 13 (some (mu_z H))))) (C := [mu_is Hk (some 169) 1]) rfl (show mu_is Hk (some 169) 1 from s9) ?_
  have zk : mu_z H < mu_z Hk := c3.2.1
  have s2 := sk.pns (z := mu_z H) ⟨zk, by omega⟩ (by omega) zF c3.2.2 ⟨by omega, by omega⟩
  have f2 : pfr (1 + m) F F H (mu_sr Hk 169 13 (some (mu_z H))) := by
    refine ⟨⟨(k1.wk (W' := fun x => x = 169 ∨ mu_r H 169 13 = some x) (fun x hx y => by omega) (by omega) (by omega)).sr (Or.inl (Or.inl rfl)), fun x hx => ?_, fun x hx => ?_, ?_⟩, Or.inr ⟨mu_z H, by rw [mu_r_sr, if_pos ⟨rfl, rfl⟩], Nat.le_refl _, by omega⟩, fun _ y => y, fun _ y => Or.inl y⟩
    · exact k1.i (Or.inl (by omega)) (fun y => by have := y.1; omega) x
    · rw [mu_r_sr, if_neg (fun y => hx (by rw [y.2]; decide))]
      exact k1.r (Or.inl (by omega)) (fun y => by have := y.1; omega) x
    · exact k1.k (Or.inl (by omega)) (fun y => by have := y.1; omega)
  refine mw_sub (L' := [(3, .inl (nI m)), (2, .inr (.inr (some q))), (0, .inr (.inr (some 169)))]) (by simp) ?_
  refine hfin _ s2 f2 (fun p' e => ?_) (fun p' e => ?_)
  · rw [mu_r_sr, if_pos ⟨rfl, rfl⟩] at e
    cases e
    refine ⟨by show ns.length ≤ mu_n Hk (mu_z H); omega, fun i hi => ?_⟩
    obtain ⟨s, s1, s3⟩ := m2 i hi
    refine ⟨s, ?_, (s3.kp f2.1.1 hs.nF)⟩
    rw [mu_r_sr, if_neg (fun y => by have := y.1; omega), c2 i (by omega), k0.r (Or.inl r2) (fun y => by have := y.1; omega) i]
    exact s1
  · rw [mu_r_sr, if_pos ⟨rfl, rfl⟩] at e
    cases e
    exact c4
