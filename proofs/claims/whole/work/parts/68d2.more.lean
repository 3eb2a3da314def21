/-! The reference: small, more -/
/-- PathProverModel.small(Z)V -/
abbrev mu_m466 : ev_M := (2, none, [], ev_b466)
theorem mu_g466 : mu_good mu_m466 := mu_goodk ev_k466
theorem rp_small {d : Nat} {H : mu_H} {x : Int32} : mu_TE 3 (mu_D (d + 1)) 466 [.inr (.inr (some 169)), .inl x] H (fun H1 => x = 0 ∧ H1 = mu_ex H) (fun v H1 => ¬ x = 0 ∧ v = none ∧ H1 = H) := by
  refine mu_meth (M := mu_m466) rfl rfl ?_
  refine mw_ht (mu_fn_of (show [0, 1].Nodup by decide)) ?_
  refine mw_go mu_g466 (k := 1) (f1 := (1, [(0, .inr (.inr (some 169))), (1, .inl x)], [.inl x], H)) (C := []) rfl trivial ?_
  refine mw_if (P := x = 0) (a := 4) (b := 12) (fun _ => rfl) trivial (fun h1 => ?_) (fun h1 => ?_)
  · -- 4
    exact mw_of (fun _ => mu_throw rfl rfl rfl rfl (by decide) rfl (by decide) (Or.inl ⟨_, rfl, h1, rfl⟩))
  · -- 12
    exact mw_of (fun _ => mu_ret rfl trivial (Or.inr ⟨_, _, rfl, h1, rfl, rfl⟩))
/-- PathProverModel.more([LPathProverModel$Instance;I)[LPathProverModel$Instance; -/
abbrev mu_m480 : ev_M := (4, (some (.array (.object "PathProverModel$Instance"))), [], ev_b480)
theorem mu_g480 : mu_good mu_m480 := mu_goodk ev_k480
theorem rp_moreI0 {d p z cap : Nat} {H : mu_H} (hp : mu_is H (some p) 110) (hpz : ¬ p = z) (hn : mu_n H p = cap) (hcap : cap ≤ 2 ^ 24) (hz : mu_is H (some z) 110) (hel : ∀ i, i < cap → mu_is H (mu_r H p i) 15) : ∀ e j Hk, j + e = cap → rcp 110 H p z (2 * cap) j Hk → mu_W (mu_D d) mu_m480 (18, [(3, .inl (nI j)), (2, .inr (.inr (some z))), (0, .inr (.inr (some p)))], [], Hk) (fun r => ∃ y H1, r = (.inl (some (.inr (.inr y))), H1) ∧ y = some z ∧ rcp 110 H p z (2 * cap) cap H1)
  | 0, j, Hk, hm, hc => by
    obtain ⟨c1, c2, c3, c4⟩ := hc
    have gp0 : mu_is Hk (some p) 110 := c1.is hp hpz
    have gpn : mu_n Hk p = cap := (c1.len (p := p) (Or.inl hp.2.1) hpz).trans hn
    have gl : Int32.ofNat (mu_n Hk p) = nI cap := by rw [gpn]; rfl
    have gr : mu_isr Hk (some p) (mu_k Hk p) := ⟨rfl, Or.inl gp0.2.1, rfl⟩
    have gr2 : 100 ≤ mu_k Hk p := by rw [show mu_k Hk p = 110 from gp0.2.2]; decide
    refine mw_go mu_g480 (k := 3) (f1 := (21, [(3, .inl (nI j)), (2, .inr (.inr (some z))), (0, .inr (.inr (some p)))], [.inl (Int32.ofNat (mu_n Hk p)), .inl (nI j)], Hk)) (C := [mu_isr Hk (some p) (mu_k Hk p), 100 ≤ mu_k Hk p]) rfl (show (mu_isr Hk (some p) (mu_k Hk p)) ∧ (100 ≤ mu_k Hk p) from ⟨gr, gr2⟩) ?_
    refine mw_fr (f' := (21, [(3, .inl (nI j)), (2, .inr (.inr (some z))), (0, .inr (.inr (some p)))], [.inl (nI cap), .inl (nI j)], Hk)) (by first | (rw [gl]; done) | (rw [gl]; rfl)) ?_
    refine mw_if (P := (nI j) < (nI cap)) (a := 24) (b := 36) (fun _ => rfl) trivial (fun h1 => absurd h1 (by rw [show j = cap by omega]; exact Int32.lt_irrefl)) (fun h1 => ?_)
    refine mw_go mu_g480 (k := 1) (f1 := (37, [(3, .inl (nI j)), (2, .inr (.inr (some z))), (0, .inr (.inr (some p)))], [.inr (.inr (some z))], Hk)) (C := []) rfl trivial ?_
    exact mw_of (fun _ => mu_ret rfl trivial ⟨_, _, rfl, rfl, c1, fun i hi => c2 i (by omega), c3, c4⟩)
  | e + 1, j, Hk, hm, hc => by
    obtain ⟨c1, c2, c3, c4⟩ := hc
    have gp0 : mu_is Hk (some p) 110 := c1.is hp hpz
    have gpn : mu_n Hk p = cap := (c1.len (p := p) (Or.inl hp.2.1) hpz).trans hn
    have gl : Int32.ofNat (mu_n Hk p) = nI cap := by rw [gpn]; rfl
    have gr : mu_isr Hk (some p) (mu_k Hk p) := ⟨rfl, Or.inl gp0.2.1, rfl⟩
    have gr2 : 100 ≤ mu_k Hk p := by rw [show mu_k Hk p = 110 from gp0.2.2]; decide
    have hj : j < cap := by omega
    obtain ⟨ga, ga2, ga3, ga4⟩ := ar_at gp0 (by decide) (show j < mu_n Hk p by omega) (by omega)
    have g6 : mu_r Hk p (nI j).toNatClampNeg = mu_r H p j := by rw [ga4]; exact c1.r (p := p) (Or.inl hp.2.1) hpz j
    have gel : mu_is Hk (mu_r H p j) 15 := by
      refine c1.is (hel j hj) (fun e => ?_)
      have e : mu_p (mu_r H p j) = z := e
      have z1 : mu_k H z = 15 := by rw [← e]; exact (hel j hj).2.2
      exact absurd (z1.symm.trans (show mu_k H z = 110 from hz.2.2)) (by decide)
    have gzn : vp_in (nI j) (mu_n Hk z) := by rw [c4]; exact vp_in_nI (by omega) (by omega)
    refine mw_go mu_g480 (k := 3) (f1 := (21, [(3, .inl (nI j)), (2, .inr (.inr (some z))), (0, .inr (.inr (some p)))], [.inl (Int32.ofNat (mu_n Hk p)), .inl (nI j)], Hk)) (C := [mu_isr Hk (some p) (mu_k Hk p), 100 ≤ mu_k Hk p]) rfl (show (mu_isr Hk (some p) (mu_k Hk p)) ∧ (100 ≤ mu_k Hk p) from ⟨gr, gr2⟩) ?_
    refine mw_fr (f' := (21, [(3, .inl (nI j)), (2, .inr (.inr (some z))), (0, .inr (.inr (some p)))], [.inl (nI cap), .inl (nI j)], Hk)) (by first | (rw [gl]; done) | (rw [gl]; rfl)) ?_
    refine mw_if (P := (nI j) < (nI cap)) (a := 24) (b := 36) (fun _ => rfl) trivial (fun h1 => ?_) (fun h1 => absurd (show nI j < nI cap from nI_lt hj (by omega)) h1)
    refine mw_go mu_g480 (k := 4) (f1 := (28, [(3, .inl (nI j)), (2, .inr (.inr (some z))), (0, .inr (.inr (some p)))], [.inl (nI j), .inr (.inr (some p)), .inl (nI j), .inr (.inr (some z))], Hk)) (C := []) rfl trivial ?_
    refine mw_go mu_g480 (k := 1) (f1 := (29, [(3, .inl (nI j)), (2, .inr (.inr (some z))), (0, .inr (.inr (some p)))], [.inr (.inr (mu_r Hk p (nI j).toNatClampNeg)), .inl (nI j), .inr (.inr (some z))], Hk)) (C := [mu_is Hk (some p) (mu_k Hk p), 103 ≤ mu_k Hk p ∧ mu_k Hk p ≤ 110 ∧ mu_k Hk p ≠ 108, vp_in (nI j) (mu_n Hk p)]) rfl (show (mu_is Hk (some p) (mu_k Hk p)) ∧ (103 ≤ mu_k Hk p ∧ mu_k Hk p ≤ 110 ∧ mu_k Hk p ≠ 108) ∧ (vp_in (nI j) (mu_n Hk p)) from ⟨ga, ga2, ga3⟩) ?_
    refine mw_fr (f' := (29, [(3, .inl (nI j)), (2, .inr (.inr (some z))), (0, .inr (.inr (some p)))], [.inr (.inr (mu_r H p j)), .inl (nI j), .inr (.inr (some z))], Hk)) (by first | (rw [g6]; done) | (rw [g6]; rfl)) ?_
    refine mw_aastO (t := 10) (ct := 15) rfl c3 gel (by decide) gzn ?_
    rw [show mu_p (some z) = z from rfl, nI_clamp (show j < 2 ^ 31 by omega)]
    refine mw_go mu_g480 (k := 2) (f1 := (18, [(3, .inl ((nI j) + 1)), (2, .inr (.inr (some z))), (0, .inr (.inr (some p)))], [], (mu_sr Hk z j (mu_r H p j)))) (C := []) rfl trivial ?_
    refine mw_sub (L' := [(3, .inl (nI (j + 1))), (2, .inr (.inr (some z))), (0, .inr (.inr (some p)))]) (by simp [← nI_add, show (1 : Int32) = nI 1 from rfl]) ?_
    refine rp_moreI0 hp hpz hn hcap hz hel e (j + 1) _ (by omega) ⟨c1.sr (Or.inl rfl), fun i hi => ?_, c3, c4⟩
    rw [mu_r_sr]
    by_cases e : i = j
    · rw [if_pos ⟨rfl, e⟩, e]
    · rw [if_neg (fun y => e y.2)]
      exact c2 i (by omega)
theorem rp_moreI {d p n cap : Nat} {H : mu_H} (hp : mu_is H (some p) 110) (hn : mu_n H p = cap) (hcap : cap ≤ 2 ^ 24) (hn2 : n ≤ cap) (hel : n = cap → ∀ i, i < cap → mu_is H (mu_r H p i) 15) (hz : mu_z H + 1 ≤ 1000000) : mu_TA (mu_D (d + 1)) 480 [.inr (.inr (some p)), .inl (nI n)] H (fun y H1 => (n < cap ∧ y = some p ∧ H1 = H) ∨ (¬ n < cap ∧ y = some (mu_z H) ∧ kep (fun _ => False) 1 (2 * cap) H H1 ∧ mu_is H1 (some (mu_z H)) 110 ∧ mu_n H1 (mu_z H) = 2 * cap ∧ ∀ i, i < cap → mu_r H1 (mu_z H) i = mu_r H p i)) := by
  have gl : Int32.ofNat (mu_n H p) = nI cap := by rw [hn]; rfl
  have gr : mu_isr H (some p) (mu_k H p) := ⟨rfl, Or.inl hp.2.1, rfl⟩
  have gr2 : 100 ≤ mu_k H p := by rw [show mu_k H p = 110 from hp.2.2]; decide
  refine mu_meth (M := mu_m480) rfl rfl ?_
  refine mw_ht (mu_fn_of (show [0, 1].Nodup by decide)) ?_
  refine mw_go mu_g480 (k := 2) (f1 := (2, [(0, .inr (.inr (some p))), (1, .inl (nI n))], [.inr (.inr (some p)), .inl (nI n)], H)) (C := []) rfl trivial ?_
  refine mw_go mu_g480 (k := 1) (f1 := (3, [(0, .inr (.inr (some p))), (1, .inl (nI n))], [.inl (Int32.ofNat (mu_n H p)), .inl (nI n)], H)) (C := [mu_isr H (some p) (mu_k H p), 100 ≤ mu_k H p]) rfl (show (mu_isr H (some p) (mu_k H p)) ∧ (100 ≤ mu_k H p) from ⟨gr, gr2⟩) ?_
  refine mw_fr (f' := (3, [(0, .inr (.inr (some p))), (1, .inl (nI n))], [.inl (nI cap), .inl (nI n)], H)) (by first | (rw [gl]; done) | (rw [gl]; rfl)) ?_
  refine mw_if (P := (nI n) < (nI cap)) (a := 6) (b := 8) (fun _ => rfl) trivial (fun h1 => ?_) (fun h1 => ?_)
  · -- 6
    refine mw_go mu_g480 (k := 1) (f1 := (7, [(0, .inr (.inr (some p))), (1, .inl (nI n))], [.inr (.inr (some p))], H)) (C := []) rfl trivial ?_
    have hlt : n < cap := nI_below (by omega) (by omega) h1
    exact mw_of (fun _ => mu_ret rfl trivial ⟨_, _, rfl, Or.inl ⟨hlt, rfl, rfl⟩⟩)
  · -- 8
    have hge : ¬ n < cap := fun z => h1 (nI_lt z (by omega))
    have g2l : (2 : Int32) * nI cap = nI (2 * cap) := (Int32.ofNat_mul 2 cap).symm
    have gcl : (nI (2 * cap)).toNatClampNeg = 2 * cap := nI_clamp (by omega)
    have gnn : ¬ nI (2 * cap) < 0 := nI_nn (by omega)
    have gby : (nI (2 * cap)).toNatClampNeg * ev_bytes 10 ≤ 536870912 := by rw [gcl]; exact Nat.le_trans (Nat.mul_le_mul (Nat.le_refl _) (show ev_bytes 10 ≤ 8 by decide)) (by omega)
    refine mw_go mu_g480 (k := 2) (f1 := (10, [(0, .inr (.inr (some p))), (1, .inl (nI n))], [.inr (.inr (some p)), .inl (2 : Int32)], H)) (C := []) rfl trivial ?_
    refine mw_go mu_g480 (k := 1) (f1 := (11, [(0, .inr (.inr (some p))), (1, .inl (nI n))], [.inl (Int32.ofNat (mu_n H p)), .inl (2 : Int32)], H)) (C := [mu_isr H (some p) (mu_k H p), 100 ≤ mu_k H p]) rfl (show (mu_isr H (some p) (mu_k H p)) ∧ (100 ≤ mu_k H p) from ⟨gr, gr2⟩) ?_
    refine mw_fr (f' := (11, [(0, .inr (.inr (some p))), (1, .inl (nI n))], [.inl (nI cap), .inl (2 : Int32)], H)) (by first | (rw [gl]; done) | (rw [gl]; rfl)) ?_
    refine mw_go mu_g480 (k := 1) (f1 := (12, [(0, .inr (.inr (some p))), (1, .inl (nI n))], [.inl ((2 : Int32) * (nI cap))], H)) (C := []) rfl trivial ?_
    refine mw_fr (f' := (12, [(0, .inr (.inr (some p))), (1, .inl (nI n))], [.inl (nI (2 * cap))], H)) (by first | (rw [g2l]; done) | (rw [g2l]; rfl)) ?_
    refine mw_go mu_g480 (k := 4) (f1 := (18, [(3, .inl (0 : Int32)), (2, .inr (.inr (some (mu_z H)))), (0, .inr (.inr (some p))), (1, .inl (nI n))], [], (mu_nw H 110 (nI (2 * cap)).toNatClampNeg (nI (2 * cap)).toNatClampNeg))) (C := [¬ (nI (2 * cap)) < 0, (nI (2 * cap)).toNatClampNeg * ev_bytes 10 ≤ 536870912, mu_z H + 1 ≤ 1000000]) rfl (show (¬ (nI (2 * cap)) < 0) ∧ ((nI (2 * cap)).toNatClampNeg * ev_bytes 10 ≤ 536870912) ∧ (mu_z H + 1 ≤ 1000000) from ⟨gnn, gby, hz⟩) ?_
    refine mw_fr (f' := (18, [(3, .inl (0 : Int32)), (2, .inr (.inr (some (mu_z H)))), (0, .inr (.inr (some p))), (1, .inl (nI n))], [], (mu_nw H 110 (2 * cap) (2 * cap)))) (by first | (rw [gcl]; done) | (rw [gcl]; rfl)) ?_
    have k0 : kep (fun _ => False) (0 + 1) (0 + 2 * cap) H (mu_nw H 110 (2 * cap) (2 * cap)) := kep.rf.nw (by omega)
    have pz : ¬ p = mu_z H := by have : p < mu_z H := hp.2.1; omega
    refine mw_sub (L' := [(3, .inl (nI 0)), (2, .inr (.inr (some (mu_z H)))), (0, .inr (.inr (some p)))]) (by simp [nI]) ?_
    refine mw_imp (fun q hq => ?_) (rp_moreI0 (d := d) (p := p) (z := mu_z H) (cap := cap) (k0.is hp id) pz ((k0.len (p := p) (Or.inl hp.2.1) id).trans hn) (by omega) (mu_is_new H 110 _ _) (fun i hi => ?_) cap 0 _ (by omega) ⟨kep.rf, fun i hi => absurd hi (Nat.not_lt_zero _), mu_is_new H 110 _ _, by rw [mu_n_nw, if_pos rfl]⟩)
    · obtain ⟨y, H1, e1, e2, c1, c2, c3, c4⟩ := hq
      refine ⟨y, H1, e1, Or.inr ⟨hge, e2, ?_, c3, c4, fun i hi => ?_⟩⟩
      · exact (k0.tr c1 (W := fun _ => False) (fun x h y => y.elim id (fun e => by have e : x = mu_z H := e; omega))).wk (fun _ _ z => z) (by omega) (by omega)
      · rw [c2 i hi]; exact k0.r (p := p) (Or.inl hp.2.1) id i
    · rw [k0.r (p := p) (Or.inl hp.2.1) id i]
      exact k0.is (hel (by omega) i hi) id
/-- PathProverModel.more([LPathProverModel$Node;I)[LPathProverModel$Node; -/
abbrev mu_m481 : ev_M := (4, (some (.array (.object "PathProverModel$Node"))), [], ev_b481)
theorem mu_g481 : mu_good mu_m481 := mu_goodk ev_k481
theorem rp_moreN0 {d p z cap : Nat} {H : mu_H} (hp : mu_is H (some p) 109) (hpz : ¬ p = z) (hn : mu_n H p = cap) (hcap : cap ≤ 2 ^ 24) (hz : mu_is H (some z) 109) (hel : ∀ i, i < cap → mu_is H (mu_r H p i) 18) : ∀ e j Hk, j + e = cap → rcp 109 H p z (2 * cap) j Hk → mu_W (mu_D d) mu_m481 (18, [(3, .inl (nI j)), (2, .inr (.inr (some z))), (0, .inr (.inr (some p)))], [], Hk) (fun r => ∃ y H1, r = (.inl (some (.inr (.inr y))), H1) ∧ y = some z ∧ rcp 109 H p z (2 * cap) cap H1)
  | 0, j, Hk, hm, hc => by
    obtain ⟨c1, c2, c3, c4⟩ := hc
    have gp0 : mu_is Hk (some p) 109 := c1.is hp hpz
    have gpn : mu_n Hk p = cap := (c1.len (p := p) (Or.inl hp.2.1) hpz).trans hn
    have gl : Int32.ofNat (mu_n Hk p) = nI cap := by rw [gpn]; rfl
    have gr : mu_isr Hk (some p) (mu_k Hk p) := ⟨rfl, Or.inl gp0.2.1, rfl⟩
    have gr2 : 100 ≤ mu_k Hk p := by rw [show mu_k Hk p = 109 from gp0.2.2]; decide
    refine mw_go mu_g481 (k := 3) (f1 := (21, [(3, .inl (nI j)), (2, .inr (.inr (some z))), (0, .inr (.inr (some p)))], [.inl (Int32.ofNat (mu_n Hk p)), .inl (nI j)], Hk)) (C := [mu_isr Hk (some p) (mu_k Hk p), 100 ≤ mu_k Hk p]) rfl (show (mu_isr Hk (some p) (mu_k Hk p)) ∧ (100 ≤ mu_k Hk p) from ⟨gr, gr2⟩) ?_
    refine mw_fr (f' := (21, [(3, .inl (nI j)), (2, .inr (.inr (some z))), (0, .inr (.inr (some p)))], [.inl (nI cap), .inl (nI j)], Hk)) (by first | (rw [gl]; done) | (rw [gl]; rfl)) ?_
    refine mw_if (P := (nI j) < (nI cap)) (a := 24) (b := 36) (fun _ => rfl) trivial (fun h1 => absurd h1 (by rw [show j = cap by omega]; exact Int32.lt_irrefl)) (fun h1 => ?_)
    refine mw_go mu_g481 (k := 1) (f1 := (37, [(3, .inl (nI j)), (2, .inr (.inr (some z))), (0, .inr (.inr (some p)))], [.inr (.inr (some z))], Hk)) (C := []) rfl trivial ?_
    exact mw_of (fun _ => mu_ret rfl trivial ⟨_, _, rfl, rfl, c1, fun i hi => c2 i (by omega), c3, c4⟩)
  | e + 1, j, Hk, hm, hc => by
    obtain ⟨c1, c2, c3, c4⟩ := hc
    have gp0 : mu_is Hk (some p) 109 := c1.is hp hpz
    have gpn : mu_n Hk p = cap := (c1.len (p := p) (Or.inl hp.2.1) hpz).trans hn
    have gl : Int32.ofNat (mu_n Hk p) = nI cap := by rw [gpn]; rfl
    have gr : mu_isr Hk (some p) (mu_k Hk p) := ⟨rfl, Or.inl gp0.2.1, rfl⟩
    have gr2 : 100 ≤ mu_k Hk p := by rw [show mu_k Hk p = 109 from gp0.2.2]; decide
    have hj : j < cap := by omega
    obtain ⟨ga, ga2, ga3, ga4⟩ := ar_at gp0 (by decide) (show j < mu_n Hk p by omega) (by omega)
    have g6 : mu_r Hk p (nI j).toNatClampNeg = mu_r H p j := by rw [ga4]; exact c1.r (p := p) (Or.inl hp.2.1) hpz j
    have gel : mu_is Hk (mu_r H p j) 18 := by
      refine c1.is (hel j hj) (fun e => ?_)
      have e : mu_p (mu_r H p j) = z := e
      have z1 : mu_k H z = 18 := by rw [← e]; exact (hel j hj).2.2
      exact absurd (z1.symm.trans (show mu_k H z = 109 from hz.2.2)) (by decide)
    have gzn : vp_in (nI j) (mu_n Hk z) := by rw [c4]; exact vp_in_nI (by omega) (by omega)
    refine mw_go mu_g481 (k := 3) (f1 := (21, [(3, .inl (nI j)), (2, .inr (.inr (some z))), (0, .inr (.inr (some p)))], [.inl (Int32.ofNat (mu_n Hk p)), .inl (nI j)], Hk)) (C := [mu_isr Hk (some p) (mu_k Hk p), 100 ≤ mu_k Hk p]) rfl (show (mu_isr Hk (some p) (mu_k Hk p)) ∧ (100 ≤ mu_k Hk p) from ⟨gr, gr2⟩) ?_
    refine mw_fr (f' := (21, [(3, .inl (nI j)), (2, .inr (.inr (some z))), (0, .inr (.inr (some p)))], [.inl (nI cap), .inl (nI j)], Hk)) (by first | (rw [gl]; done) | (rw [gl]; rfl)) ?_
    refine mw_if (P := (nI j) < (nI cap)) (a := 24) (b := 36) (fun _ => rfl) trivial (fun h1 => ?_) (fun h1 => absurd (show nI j < nI cap from nI_lt hj (by omega)) h1)
    refine mw_go mu_g481 (k := 4) (f1 := (28, [(3, .inl (nI j)), (2, .inr (.inr (some z))), (0, .inr (.inr (some p)))], [.inl (nI j), .inr (.inr (some p)), .inl (nI j), .inr (.inr (some z))], Hk)) (C := []) rfl trivial ?_
    refine mw_go mu_g481 (k := 1) (f1 := (29, [(3, .inl (nI j)), (2, .inr (.inr (some z))), (0, .inr (.inr (some p)))], [.inr (.inr (mu_r Hk p (nI j).toNatClampNeg)), .inl (nI j), .inr (.inr (some z))], Hk)) (C := [mu_is Hk (some p) (mu_k Hk p), 103 ≤ mu_k Hk p ∧ mu_k Hk p ≤ 110 ∧ mu_k Hk p ≠ 108, vp_in (nI j) (mu_n Hk p)]) rfl (show (mu_is Hk (some p) (mu_k Hk p)) ∧ (103 ≤ mu_k Hk p ∧ mu_k Hk p ≤ 110 ∧ mu_k Hk p ≠ 108) ∧ (vp_in (nI j) (mu_n Hk p)) from ⟨ga, ga2, ga3⟩) ?_
    refine mw_fr (f' := (29, [(3, .inl (nI j)), (2, .inr (.inr (some z))), (0, .inr (.inr (some p)))], [.inr (.inr (mu_r H p j)), .inl (nI j), .inr (.inr (some z))], Hk)) (by first | (rw [g6]; done) | (rw [g6]; rfl)) ?_
    refine mw_aastO (t := 9) (ct := 18) rfl c3 gel (by decide) gzn ?_
    rw [show mu_p (some z) = z from rfl, nI_clamp (show j < 2 ^ 31 by omega)]
    refine mw_go mu_g481 (k := 2) (f1 := (18, [(3, .inl ((nI j) + 1)), (2, .inr (.inr (some z))), (0, .inr (.inr (some p)))], [], (mu_sr Hk z j (mu_r H p j)))) (C := []) rfl trivial ?_
    refine mw_sub (L' := [(3, .inl (nI (j + 1))), (2, .inr (.inr (some z))), (0, .inr (.inr (some p)))]) (by simp [← nI_add, show (1 : Int32) = nI 1 from rfl]) ?_
    refine rp_moreN0 hp hpz hn hcap hz hel e (j + 1) _ (by omega) ⟨c1.sr (Or.inl rfl), fun i hi => ?_, c3, c4⟩
    rw [mu_r_sr]
    by_cases e : i = j
    · rw [if_pos ⟨rfl, e⟩, e]
    · rw [if_neg (fun y => e y.2)]
      exact c2 i (by omega)
theorem rp_moreN {d p n cap : Nat} {H : mu_H} (hp : mu_is H (some p) 109) (hn : mu_n H p = cap) (hcap : cap ≤ 2 ^ 24) (hn2 : n ≤ cap) (hel : n = cap → ∀ i, i < cap → mu_is H (mu_r H p i) 18) (hz : mu_z H + 1 ≤ 1000000) : mu_TA (mu_D (d + 1)) 481 [.inr (.inr (some p)), .inl (nI n)] H (fun y H1 => (n < cap ∧ y = some p ∧ H1 = H) ∨ (¬ n < cap ∧ y = some (mu_z H) ∧ kep (fun _ => False) 1 (2 * cap) H H1 ∧ mu_is H1 (some (mu_z H)) 109 ∧ mu_n H1 (mu_z H) = 2 * cap ∧ ∀ i, i < cap → mu_r H1 (mu_z H) i = mu_r H p i)) := by
  have gl : Int32.ofNat (mu_n H p) = nI cap := by rw [hn]; rfl
  have gr : mu_isr H (some p) (mu_k H p) := ⟨rfl, Or.inl hp.2.1, rfl⟩
  have gr2 : 100 ≤ mu_k H p := by rw [show mu_k H p = 109 from hp.2.2]; decide
  refine mu_meth (M := mu_m481) rfl rfl ?_
  refine mw_ht (mu_fn_of (show [0, 1].Nodup by decide)) ?_
  refine mw_go mu_g481 (k := 2) (f1 := (2, [(0, .inr (.inr (some p))), (1, .inl (nI n))], [.inr (.inr (some p)), .inl (nI n)], H)) (C := []) rfl trivial ?_
  refine mw_go mu_g481 (k := 1) (f1 := (3, [(0, .inr (.inr (some p))), (1, .inl (nI n))], [.inl (Int32.ofNat (mu_n H p)), .inl (nI n)], H)) (C := [mu_isr H (some p) (mu_k H p), 100 ≤ mu_k H p]) rfl (show (mu_isr H (some p) (mu_k H p)) ∧ (100 ≤ mu_k H p) from ⟨gr, gr2⟩) ?_
  refine mw_fr (f' := (3, [(0, .inr (.inr (some p))), (1, .inl (nI n))], [.inl (nI cap), .inl (nI n)], H)) (by first | (rw [gl]; done) | (rw [gl]; rfl)) ?_
  refine mw_if (P := (nI n) < (nI cap)) (a := 6) (b := 8) (fun _ => rfl) trivial (fun h1 => ?_) (fun h1 => ?_)
  · -- 6
    refine mw_go mu_g481 (k := 1) (f1 := (7, [(0, .inr (.inr (some p))), (1, .inl (nI n))], [.inr (.inr (some p))], H)) (C := []) rfl trivial ?_
    have hlt : n < cap := nI_below (by omega) (by omega) h1
    exact mw_of (fun _ => mu_ret rfl trivial ⟨_, _, rfl, Or.inl ⟨hlt, rfl, rfl⟩⟩)
  · -- 8
    have hge : ¬ n < cap := fun z => h1 (nI_lt z (by omega))
    have g2l : (2 : Int32) * nI cap = nI (2 * cap) := (Int32.ofNat_mul 2 cap).symm
    have gcl : (nI (2 * cap)).toNatClampNeg = 2 * cap := nI_clamp (by omega)
    have gnn : ¬ nI (2 * cap) < 0 := nI_nn (by omega)
    have gby : (nI (2 * cap)).toNatClampNeg * ev_bytes 9 ≤ 536870912 := by rw [gcl]; exact Nat.le_trans (Nat.mul_le_mul (Nat.le_refl _) (show ev_bytes 9 ≤ 8 by decide)) (by omega)
    refine mw_go mu_g481 (k := 2) (f1 := (10, [(0, .inr (.inr (some p))), (1, .inl (nI n))], [.inr (.inr (some p)), .inl (2 : Int32)], H)) (C := []) rfl trivial ?_
    refine mw_go mu_g481 (k := 1) (f1 := (11, [(0, .inr (.inr (some p))), (1, .inl (nI n))], [.inl (Int32.ofNat (mu_n H p)), .inl (2 : Int32)], H)) (C := [mu_isr H (some p) (mu_k H p), 100 ≤ mu_k H p]) rfl (show (mu_isr H (some p) (mu_k H p)) ∧ (100 ≤ mu_k H p) from ⟨gr, gr2⟩) ?_
    refine mw_fr (f' := (11, [(0, .inr (.inr (some p))), (1, .inl (nI n))], [.inl (nI cap), .inl (2 : Int32)], H)) (by first | (rw [gl]; done) | (rw [gl]; rfl)) ?_
    refine mw_go mu_g481 (k := 1) (f1 := (12, [(0, .inr (.inr (some p))), (1, .inl (nI n))], [.inl ((2 : Int32) * (nI cap))], H)) (C := []) rfl trivial ?_
    refine mw_fr (f' := (12, [(0, .inr (.inr (some p))), (1, .inl (nI n))], [.inl (nI (2 * cap))], H)) (by first | (rw [g2l]; done) | (rw [g2l]; rfl)) ?_
    refine mw_go mu_g481 (k := 4) (f1 := (18, [(3, .inl (0 : Int32)), (2, .inr (.inr (some (mu_z H)))), (0, .inr (.inr (some p))), (1, .inl (nI n))], [], (mu_nw H 109 (nI (2 * cap)).toNatClampNeg (nI (2 * cap)).toNatClampNeg))) (C := [¬ (nI (2 * cap)) < 0, (nI (2 * cap)).toNatClampNeg * ev_bytes 9 ≤ 536870912, mu_z H + 1 ≤ 1000000]) rfl (show (¬ (nI (2 * cap)) < 0) ∧ ((nI (2 * cap)).toNatClampNeg * ev_bytes 9 ≤ 536870912) ∧ (mu_z H + 1 ≤ 1000000) from ⟨gnn, gby, hz⟩) ?_
    refine mw_fr (f' := (18, [(3, .inl (0 : Int32)), (2, .inr (.inr (some (mu_z H)))), (0, .inr (.inr (some p))), (1, .inl (nI n))], [], (mu_nw H 109 (2 * cap) (2 * cap)))) (by first | (rw [gcl]; done) | (rw [gcl]; rfl)) ?_
    have k0 : kep (fun _ => False) (0 + 1) (0 + 2 * cap) H (mu_nw H 109 (2 * cap) (2 * cap)) := kep.rf.nw (by omega)
    have pz : ¬ p = mu_z H := by have : p < mu_z H := hp.2.1; omega
    refine mw_sub (L' := [(3, .inl (nI 0)), (2, .inr (.inr (some (mu_z H)))), (0, .inr (.inr (some p)))]) (by simp [nI]) ?_
    refine mw_imp (fun q hq => ?_) (rp_moreN0 (d := d) (p := p) (z := mu_z H) (cap := cap) (k0.is hp id) pz ((k0.len (p := p) (Or.inl hp.2.1) id).trans hn) (by omega) (mu_is_new H 109 _ _) (fun i hi => ?_) cap 0 _ (by omega) ⟨kep.rf, fun i hi => absurd hi (Nat.not_lt_zero _), mu_is_new H 109 _ _, by rw [mu_n_nw, if_pos rfl]⟩)
    · obtain ⟨y, H1, e1, e2, c1, c2, c3, c4⟩ := hq
      refine ⟨y, H1, e1, Or.inr ⟨hge, e2, ?_, c3, c4, fun i hi => ?_⟩⟩
      · exact (k0.tr c1 (W := fun _ => False) (fun x h y => y.elim id (fun e => by have e : x = mu_z H := e; omega))).wk (fun _ _ z => z) (by omega) (by omega)
      · rw [c2 i hi]; exact k0.r (p := p) (Or.inl hp.2.1) id i
    · rw [k0.r (p := p) (Or.inl hp.2.1) id i]
      exact k0.is (hel (by omega) i hi) id
