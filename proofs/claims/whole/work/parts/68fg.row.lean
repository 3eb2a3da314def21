/-! The reference: Bits.<init>, row -/
/-- PathProverModel$Bits.<init>()V -/
abbrev mu_m23 : ev_M := (1, none, [], ev_b23)
theorem mu_g23 : mu_good mu_m23 := mu_goodk ev_k23
/-- PathProverModel.row()LPathProverModel$Bits; -/
abbrev mu_m406 : ev_M := (3, (some (.object "PathProverModel$Bits")), [], ev_b406)
theorem mu_g406 : mu_good mu_m406 := mu_goodk ev_k406
/-- the rows that row() lends: k lent, m made -/
def rwz (H : mu_H) (rb cap k m : Nat) (rr : Nat → Nat × Nat) : Prop := (mu_r H 169 51 = some rb ∧ mu_is H (some rb) 107 ∧ mu_n H rb = cap) ∧ mu_i H 169 52 = nI k ∧ (k ≤ m ∧ m ≤ cap ∧ cap ≤ 512 ∧ 1 ≤ cap) ∧ (∀ i, i < m → mu_r H rb i = some (rr i).1 ∧ btr H (rr i).1 (rr i).2) ∧ (∀ i, m ≤ i → i < cap → mu_r H rb i = none) ∧ ∀ i j, i < m → j < m → (rr i).2 = (rr j).2 → i = j
def rwx (m z : Nat) (rr : Nat → Nat × Nat) (i : Nat) : Nat × Nat := if i = m then (z, z + 1) else rr i
theorem rwx_m {m z i : Nat} {rr : Nat → Nat × Nat} (h : i = m) : rwx m z rr i = (z, z + 1) := if_pos h
theorem rwx_n {m z i : Nat} {rr : Nat → Nat × Nat} (h : ¬ i = m) : rwx m z rr i = rr i := if_neg h
theorem rp_binit {d z : Nat} {H : mu_H} (hz14 : mu_is H (some z) 14) (hz : mu_z H + 1 ≤ 1000000) : mu_TV (mu_D (d + 1)) 23 [.inr (.inr (some z))] H (fun H1 => kep (fun p => p = z) 1 512 H H1 ∧ mu_z H1 = mu_z H + 1 ∧ mu_r H1 z 0 = some (mu_z H) ∧ mu_is H1 (some (mu_z H)) 100 ∧ mu_n H1 (mu_z H) = 512 ∧ mu_is H1 (some z) 14) := by
  refine mu_meth (M := mu_m23) rfl rfl ?_
  refine mw_ht (mu_fn_of (show [0].Nodup by decide)) ?_
  have c512 : (512 : Int32).toNatClampNeg = 512 := rfl
  refine mw_go mu_g23 (k := 1) (f1 := (1, [(0, .inr (.inr (some z)))], [.inr (.inr (some z))], H)) (C := []) rfl trivial ?_
  refine mw_obj rfl ⟨rfl, hz14.2.1⟩ (by decide) ?_
  show mu_W _ mu_m23 (4, [(0, .inr (.inr (some z)))], [], H) _
  refine mw_go mu_g23 (k := 3) (f1 := (10, [(0, .inr (.inr (some z)))], [.inr (.inr (some (mu_z H))), .inr (.inr (some z))], (mu_nw H 100 (512 : Int32).toNatClampNeg (512 : Int32).toNatClampNeg))) (C := [¬ (512 : Int32) < 0, (512 : Int32).toNatClampNeg * ev_bytes 0 ≤ 536870912, mu_z H + 1 ≤ 1000000]) rfl (show (¬ (512 : Int32) < 0) ∧ ((512 : Int32).toNatClampNeg * ev_bytes 0 ≤ 536870912) ∧ (mu_z H + 1 ≤ 1000000) from ⟨(by decide), (by decide), hz⟩) ?_
  refine mw_fr (f' := (10, [(0, .inr (.inr (some z)))], [.inr (.inr (some (mu_z H))), .inr (.inr (some z))], (mu_nw H 100 512 512))) (by first | (rw [c512]; done) | (rw [c512]; rfl)) ?_
  -- (mu_nw H 100 512 512)
  have hzB : mu_is (mu_nw H 100 512 512) (some z) 14 := mu_is_nw (H := H) hz14
  refine mw_go mu_g23 (k := 1) (f1 := (13, [(0, .inr (.inr (some z)))], [], (mu_sr (mu_nw H 100 512 512) z 0 (some (mu_z H))))) (C := [mu_is (mu_nw H 100 512 512) (some z) 14]) rfl (show mu_is (mu_nw H 100 512 512) (some z) 14 from hzB) ?_
  have zz : ¬ z = mu_z H := by have : z < mu_z H := hz14.2.1; omega
  exact mw_of (fun _ => mu_ret rfl trivial ⟨_, rfl, (((kep.rf (W := fun p => p = z) (H := H)).nw (by omega)).sr (Or.inl rfl)).wk (fun _ _ z => z) (by omega) (by omega), rfl, by rw [mu_r_sr, if_pos ⟨rfl, rfl⟩], (mu_is_new H 100 512 512), (by show (if mu_z H = mu_z H then 512 else _) = 512; rw [if_pos rfl]), hzB⟩)
theorem rp_ro0 {d rb z cap : Nat} {H : mu_H} {Φ : mu_R → Prop} (h9 : mu_is H (some 169) 1) (h9z : ¬ 169 = z) (hr : mu_r H 169 51 = some rb) (hi : mu_i H 169 52 = nI cap) (hp : mu_is H (some rb) 107) (hpz : ¬ rb = z) (hn : mu_n H rb = cap) (hcap : cap ≤ 2 ^ 24) (hz : mu_is H (some z) 107) (hel : ∀ i, i < cap → mu_is H (mu_r H rb i) 14) (hend : ∀ Hk, rcp 107 H rb z (2 * cap) cap Hk → (∀ i, cap ≤ i → mu_r Hk z i = none) → mu_W (mu_D d) mu_m406 (47, [(1, .inr (.inr (some z))), (0, .inr (.inr (some 169)))], [], Hk) Φ) : ∀ e j Hk, j + e = cap → (rcp 107 H rb z (2 * cap) j Hk ∧ ∀ i, j ≤ i → mu_r Hk z i = none) → mu_W (mu_D d) mu_m406 (24, [(2, .inl (nI j)), (1, .inr (.inr (some z))), (0, .inr (.inr (some 169)))], [], Hk) Φ
  | 0, j, Hk, hm, hc => by
    obtain ⟨⟨c1, c2, c3, c4⟩, c5⟩ := hc
    have g9 : mu_is Hk (some 169) 1 := c1.is h9 h9z
    have gr : mu_r Hk 169 51 = some rb := (c1.r (p := 169) (Or.inl h9.2.1) h9z 51).trans hr
    have gi : mu_i Hk 169 52 = nI cap := (c1.i (p := 169) (Or.inl h9.2.1) h9z 52).trans hi
    have gb : mu_is Hk (some rb) 107 := c1.is hp hpz
    have gbn : mu_n Hk rb = cap := (c1.len (p := rb) (Or.inl hp.2.1) hpz).trans hn
    refine mw_go mu_g406 (k := 3) (f1 := (29, [(2, .inl (nI j)), (1, .inr (.inr (some z))), (0, .inr (.inr (some 169)))], [.inl (mu_i Hk 169 52), .inl (nI j)], Hk)) (C := [mu_is Hk (some 169) 1]) rfl (show mu_is Hk (some 169) 1 from g9) ?_
    refine mw_fr (f' := (29, [(2, .inl (nI j)), (1, .inr (.inr (some z))), (0, .inr (.inr (some 169)))], [.inl (nI cap), .inl (nI j)], Hk)) (by first | (rw [gi]; done) | (rw [gi]; rfl)) ?_
    refine mw_if (P := (nI j) < (nI cap)) (a := 32) (b := 47) (fun _ => rfl) trivial (fun h1 => absurd h1 (by rw [show j = cap by omega]; exact Int32.lt_irrefl)) (fun h1 => ?_)
    refine mw_sub (L' := [(1, .inr (.inr (some z))), (0, .inr (.inr (some 169)))]) (by simp) ?_
    exact hend _ ⟨c1, fun i hi => c2 i (by omega), c3, c4⟩ (fun i hi => c5 i (by omega))
  | e + 1, j, Hk, hm, hc => by
    obtain ⟨⟨c1, c2, c3, c4⟩, c5⟩ := hc
    have g9 : mu_is Hk (some 169) 1 := c1.is h9 h9z
    have gr : mu_r Hk 169 51 = some rb := (c1.r (p := 169) (Or.inl h9.2.1) h9z 51).trans hr
    have gi : mu_i Hk 169 52 = nI cap := (c1.i (p := 169) (Or.inl h9.2.1) h9z 52).trans hi
    have gb : mu_is Hk (some rb) 107 := c1.is hp hpz
    have gbn : mu_n Hk rb = cap := (c1.len (p := rb) (Or.inl hp.2.1) hpz).trans hn
    have hj : j < cap := by omega
    obtain ⟨ga, ga2, ga3, ga4⟩ := ar_at gb (by decide) (show j < mu_n Hk rb by omega) (by omega)
    have g6 : mu_r Hk rb (nI j).toNatClampNeg = mu_r H rb j := by rw [ga4]; exact c1.r (p := rb) (Or.inl hp.2.1) hpz j
    have gel : mu_is Hk (mu_r H rb j) 14 := by
      refine c1.is (hel j hj) (fun e => ?_)
      have e : mu_p (mu_r H rb j) = z := e
      have z1 : mu_k H z = 14 := by rw [← e]; exact (hel j hj).2.2
      exact absurd (z1.symm.trans (show mu_k H z = 107 from hz.2.2)) (by decide)
    have gzn : vp_in (nI j) (mu_n Hk z) := by rw [c4]; exact vp_in_nI (by omega) (by omega)
    refine mw_go mu_g406 (k := 3) (f1 := (29, [(2, .inl (nI j)), (1, .inr (.inr (some z))), (0, .inr (.inr (some 169)))], [.inl (mu_i Hk 169 52), .inl (nI j)], Hk)) (C := [mu_is Hk (some 169) 1]) rfl (show mu_is Hk (some 169) 1 from g9) ?_
    refine mw_fr (f' := (29, [(2, .inl (nI j)), (1, .inr (.inr (some z))), (0, .inr (.inr (some 169)))], [.inl (nI cap), .inl (nI j)], Hk)) (by first | (rw [gi]; done) | (rw [gi]; rfl)) ?_
    refine mw_if (P := (nI j) < (nI cap)) (a := 32) (b := 47) (fun _ => rfl) trivial (fun h1 => ?_) (fun h1 => absurd (show nI j < nI cap from nI_lt hj (by omega)) h1)
    refine mw_go mu_g406 (k := 4) (f1 := (38, [(2, .inl (nI j)), (1, .inr (.inr (some z))), (0, .inr (.inr (some 169)))], [.inr (.inr (mu_r Hk 169 51)), .inl (nI j), .inr (.inr (some z))], Hk)) (C := [mu_is Hk (some 169) 1]) rfl (show mu_is Hk (some 169) 1 from g9) ?_
    refine mw_fr (f' := (38, [(2, .inl (nI j)), (1, .inr (.inr (some z))), (0, .inr (.inr (some 169)))], [.inr (.inr (some rb)), .inl (nI j), .inr (.inr (some z))], Hk)) (by first | (rw [gr]; done) | (rw [gr]; rfl)) ?_
    refine mw_go mu_g406 (k := 2) (f1 := (40, [(2, .inl (nI j)), (1, .inr (.inr (some z))), (0, .inr (.inr (some 169)))], [.inr (.inr (mu_r Hk rb (nI j).toNatClampNeg)), .inl (nI j), .inr (.inr (some z))], Hk)) (C := [mu_is Hk (some rb) (mu_k Hk rb), 103 ≤ mu_k Hk rb ∧ mu_k Hk rb ≤ 110 ∧ mu_k Hk rb ≠ 108, vp_in (nI j) (mu_n Hk rb)]) rfl (show (mu_is Hk (some rb) (mu_k Hk rb)) ∧ (103 ≤ mu_k Hk rb ∧ mu_k Hk rb ≤ 110 ∧ mu_k Hk rb ≠ 108) ∧ (vp_in (nI j) (mu_n Hk rb)) from ⟨ga, ga2, ga3⟩) ?_
    refine mw_fr (f' := (40, [(2, .inl (nI j)), (1, .inr (.inr (some z))), (0, .inr (.inr (some 169)))], [.inr (.inr (mu_r H rb j)), .inl (nI j), .inr (.inr (some z))], Hk)) (by first | (rw [g6]; done) | (rw [g6]; rfl)) ?_
    refine mw_aastO (t := 7) (ct := 14) rfl c3 gel (by decide) gzn ?_
    rw [show mu_p (some z) = z from rfl, nI_clamp (show j < 2 ^ 31 by omega)]
    refine mw_go mu_g406 (k := 2) (f1 := (24, [(2, .inl ((nI j) + 1)), (1, .inr (.inr (some z))), (0, .inr (.inr (some 169)))], [], (mu_sr Hk z j (mu_r H rb j)))) (C := []) rfl trivial ?_
    refine mw_sub (L' := [(2, .inl (nI (j + 1))), (1, .inr (.inr (some z))), (0, .inr (.inr (some 169)))]) (by simp [← nI_add, show (1 : Int32) = nI 1 from rfl]) ?_
    refine rp_ro0 h9 h9z hr hi hp hpz hn hcap hz hel hend e (j + 1) _ (by omega) ⟨⟨c1.sr (Or.inl rfl), fun i hi => ?_, c3, c4⟩, fun i hi => ?_⟩
    · rw [mu_r_sr]
      by_cases e : i = j
      · rw [if_pos ⟨rfl, e⟩, e]
      · rw [if_neg (fun y => e y.2)]
        exact c2 i (by omega)
    · rw [mu_r_sr, if_neg (fun y => by have := y.2; omega)]
      exact c5 i (by omega)
theorem rp_ro1 {d rb cap k m : Nat} {rr : Nat → Nat × Nat} {H : mu_H} (h9 : mu_is H (some 169) 1) (hw : rwz H rb cap k m rr) (hk : k < m) (hz : mu_z H ≤ 1000000) : mu_W (mu_D d) mu_m406 (52, [(0, .inr (.inr (some 169)))], [], H) (fun r => ∃ q H1 m1 rr1, r = (.inl (some (.inr (.inr (some q)))), H1) ∧ rfr [52] [] (fun p => p = rb) 2 513 H H1 ∧ rwz H1 rb cap (k + 1) m1 rr1 ∧ q = (rr1 k).1 ∧ (∀ i, i < m → rr1 i = rr i) ∧ (k < m ∧ m1 = m ∧ rfr [52] [] (fun p => p = rb) 0 0 H H1 ∨ k = m ∧ m1 = m + 1 ∧ (rr1 m).1 = mu_z H ∧ (rr1 m).2 = mu_z H + 1)) := by
  obtain ⟨⟨hr, hp, hn⟩, hi, ⟨hkm, hmc, hc4, hc1⟩, hel, hno, hdi⟩ := hw
  obtain ⟨ga, ga2, ga3, ga4⟩ := ar_at hp (by decide) (show k < mu_n H rb by omega) (by omega)
  have rb9 : ¬ rb = 169 := fun e => by
    have z1 : mu_k H rb = 107 := hp.2.2
    rw [e, show mu_k H 169 = 1 from h9.2.2] at z1
    exact absurd z1 (by decide)
  have k1 : nI k + 1 = nI (k + 1) := by rw [show (1 : Int32) = nI 1 from rfl, ← nI_add]
  have g6 : mu_r H rb (nI k).toNatClampNeg = some (rr k).1 := by rw [ga4]; exact (hel k hk).1
  refine mw_go mu_g406 (k := 2) (f1 := (56, [(0, .inr (.inr (some 169)))], [.inr (.inr (mu_r H 169 51))], H)) (C := [mu_is H (some 169) 1]) rfl (show mu_is H (some 169) 1 from h9) ?_
  refine mw_fr (f' := (56, [(0, .inr (.inr (some 169)))], [.inr (.inr (some rb))], H)) (by first | (rw [hr]; done) | (rw [hr]; rfl)) ?_
  refine mw_go mu_g406 (k := 2) (f1 := (60, [(0, .inr (.inr (some 169)))], [.inl (mu_i H 169 52), .inr (.inr (some rb))], H)) (C := [mu_is H (some 169) 1]) rfl (show mu_is H (some 169) 1 from h9) ?_
  refine mw_fr (f' := (60, [(0, .inr (.inr (some 169)))], [.inl (nI k), .inr (.inr (some rb))], H)) (by first | (rw [hi]; done) | (rw [hi]; rfl)) ?_
  refine mw_go mu_g406 (k := 1) (f1 := (61, [(0, .inr (.inr (some 169)))], [.inr (.inr (mu_r H rb (nI k).toNatClampNeg))], H)) (C := [mu_is H (some rb) (mu_k H rb), 103 ≤ mu_k H rb ∧ mu_k H rb ≤ 110 ∧ mu_k H rb ≠ 108, vp_in (nI k) (mu_n H rb)]) rfl (show (mu_is H (some rb) (mu_k H rb)) ∧ (103 ≤ mu_k H rb ∧ mu_k H rb ≤ 110 ∧ mu_k H rb ≠ 108) ∧ (vp_in (nI k) (mu_n H rb)) from ⟨ga, ga2, ga3⟩) ?_
  refine mw_fr (f' := (61, [(0, .inr (.inr (some 169)))], [.inr (.inr (some (rr k).1))], H)) (by first | (rw [g6]; done) | (rw [g6]; rfl)) ?_
  refine mw_if (P := (some (rr k).1) = none) (a := 64) (b := 80) (fun _ => rfl) (fun e => by have e := Option.some.inj e; have := (hel k hk).2.1.2.1; have this : (rr k).1 < mu_z H := this; omega) (fun h1 => absurd h1 (by simp)) (fun h1 => ?_)
  refine mw_go mu_g406 (k := 2) (f1 := (84, [(0, .inr (.inr (some 169)))], [.inr (.inr (mu_r H 169 51))], H)) (C := [mu_is H (some 169) 1]) rfl (show mu_is H (some 169) 1 from h9) ?_
  refine mw_fr (f' := (84, [(0, .inr (.inr (some 169)))], [.inr (.inr (some rb))], H)) (by first | (rw [hr]; done) | (rw [hr]; rfl)) ?_
  refine mw_go mu_g406 (k := 3) (f1 := (89, [(0, .inr (.inr (some 169)))], [.inl (mu_i H 169 52), .inr (.inr (some 169)), .inr (.inr (some rb))], H)) (C := [mu_is H (some 169) 1]) rfl (show mu_is H (some 169) 1 from h9) ?_
  refine mw_fr (f' := (89, [(0, .inr (.inr (some 169)))], [.inl (nI k), .inr (.inr (some 169)), .inr (.inr (some rb))], H)) (by first | (rw [hi]; done) | (rw [hi]; rfl)) ?_
  refine mw_go mu_g406 (k := 5) (f1 := (96, [(0, .inr (.inr (some 169)))], [.inr (.inr (mu_r H rb (nI k).toNatClampNeg))], (mu_si H 169 52 ((nI k) + (1 : Int32))))) (C := [mu_is H (some 169) 1, mu_is H (some rb) (mu_k H rb), 103 ≤ mu_k (mu_si H 169 52 ((nI k) + (1 : Int32))) rb ∧ mu_k (mu_si H 169 52 ((nI k) + (1 : Int32))) rb ≤ 110 ∧ mu_k (mu_si H 169 52 ((nI k) + (1 : Int32))) rb ≠ 108, vp_in (nI k) (mu_n H rb)]) rfl (show (mu_is H (some 169) 1) ∧ (mu_is H (some rb) (mu_k H rb)) ∧ (103 ≤ mu_k (mu_si H 169 52 ((nI k) + (1 : Int32))) rb ∧ mu_k (mu_si H 169 52 ((nI k) + (1 : Int32))) rb ≤ 110 ∧ mu_k (mu_si H 169 52 ((nI k) + (1 : Int32))) rb ≠ 108) ∧ (vp_in (nI k) (mu_n H rb)) from ⟨h9, ga, ga2, ga3⟩) ?_
  refine mw_fr (f' := (96, [(0, .inr (.inr (some 169)))], [.inr (.inr (some (rr k).1))], (mu_si H 169 52 ((nI k) + (1 : Int32))))) (by first | (rw [g6]; done) | (rw [g6]; rfl)) ?_
  -- [('A', '(some (rr k).1)')] (mu_si H 169 52 ((nI k) + (1 : Int32)))
  have ne9 : ∀ i, i < m → ¬ (rr i).1 = 169 ∧ ¬ (rr i).2 = 169 := fun i hi => ⟨fun e => by
    have z1 : mu_k H (rr i).1 = 14 := (hel i hi).2.1.2.2
    rw [e, show mu_k H 169 = 1 from h9.2.2] at z1
    exact absurd z1 (by decide), fun e => by
    have z1 : mu_k H (rr i).2 = 100 := (hel i hi).2.2.2.1.2.2
    rw [e, show mu_k H 169 = 1 from h9.2.2] at z1
    exact absurd z1 (by decide)⟩
  exact mw_of (fun _ => mu_ret rfl trivial ⟨_, _, m, rr, rfl, (rfr.rf.si (by simp)).wk (fun _ z => z) (fun _ z => z) (fun _ _ z => z) (by omega) (by omega), ⟨⟨hr, hp, hn⟩, by rw [mu_i_si, if_pos ⟨rfl, rfl⟩, k1], ⟨by omega, hmc, hc4, hc1⟩, hel, hno, hdi⟩, rfl, fun _ _ => rfl, Or.inl ⟨hk, rfl, rfr.rf.si (by simp)⟩⟩)
theorem rp_ro2 {d rb cap k m : Nat} {rr : Nat → Nat × Nat} {H : mu_H} (h9 : mu_is H (some 169) 1) (hw : rwz H rb cap k m rr) (hkm' : k = m) (hk : k < cap) (hz : mu_z H + 2 ≤ 1000000) : mu_W (mu_D (d + 1)) mu_m406 (52, [(0, .inr (.inr (some 169)))], [], H) (fun r => ∃ q H1 m1 rr1, r = (.inl (some (.inr (.inr (some q)))), H1) ∧ rfr [52] [] (fun p => p = rb) 2 513 H H1 ∧ rwz H1 rb cap (k + 1) m1 rr1 ∧ q = (rr1 k).1 ∧ (∀ i, i < m → rr1 i = rr i) ∧ (k < m ∧ m1 = m ∧ rfr [52] [] (fun p => p = rb) 0 0 H H1 ∨ k = m ∧ m1 = m + 1 ∧ (rr1 m).1 = mu_z H ∧ (rr1 m).2 = mu_z H + 1)) := by
  obtain ⟨⟨hr, hp, hn⟩, hi, ⟨hkm, hmc, hc4, hc1⟩, hel, hno, hdi⟩ := hw
  obtain ⟨ga, ga2, ga3, ga4⟩ := ar_at hp (by decide) (show k < mu_n H rb by omega) (by omega)
  have rb9 : ¬ rb = 169 := fun e => by
    have z1 : mu_k H rb = 107 := hp.2.2
    rw [e, show mu_k H 169 = 1 from h9.2.2] at z1
    exact absurd z1 (by decide)
  have k1 : nI k + 1 = nI (k + 1) := by rw [show (1 : Int32) = nI 1 from rfl, ← nI_add]
  have g6 : mu_r H rb (nI k).toNatClampNeg = none := by rw [ga4]; exact hno k (by omega) hk
  refine mw_go mu_g406 (k := 2) (f1 := (56, [(0, .inr (.inr (some 169)))], [.inr (.inr (mu_r H 169 51))], H)) (C := [mu_is H (some 169) 1]) rfl (show mu_is H (some 169) 1 from h9) ?_
  refine mw_fr (f' := (56, [(0, .inr (.inr (some 169)))], [.inr (.inr (some rb))], H)) (by first | (rw [hr]; done) | (rw [hr]; rfl)) ?_
  refine mw_go mu_g406 (k := 2) (f1 := (60, [(0, .inr (.inr (some 169)))], [.inl (mu_i H 169 52), .inr (.inr (some rb))], H)) (C := [mu_is H (some 169) 1]) rfl (show mu_is H (some 169) 1 from h9) ?_
  refine mw_fr (f' := (60, [(0, .inr (.inr (some 169)))], [.inl (nI k), .inr (.inr (some rb))], H)) (by first | (rw [hi]; done) | (rw [hi]; rfl)) ?_
  refine mw_go mu_g406 (k := 1) (f1 := (61, [(0, .inr (.inr (some 169)))], [.inr (.inr (mu_r H rb (nI k).toNatClampNeg))], H)) (C := [mu_is H (some rb) (mu_k H rb), 103 ≤ mu_k H rb ∧ mu_k H rb ≤ 110 ∧ mu_k H rb ≠ 108, vp_in (nI k) (mu_n H rb)]) rfl (show (mu_is H (some rb) (mu_k H rb)) ∧ (103 ≤ mu_k H rb ∧ mu_k H rb ≤ 110 ∧ mu_k H rb ≠ 108) ∧ (vp_in (nI k) (mu_n H rb)) from ⟨ga, ga2, ga3⟩) ?_
  refine mw_fr (f' := (61, [(0, .inr (.inr (some 169)))], [.inr (.inr none)], H)) (by first | (rw [g6]; done) | (rw [g6]; rfl)) ?_
  refine mw_if (P := none = none) (a := 64) (b := 80) (fun _ => rfl) (fun e => nomatch e) (fun h1 => ?_) (fun h1 => absurd rfl h1)
  refine mw_go mu_g406 (k := 2) (f1 := (68, [(0, .inr (.inr (some 169)))], [.inr (.inr (mu_r H 169 51))], H)) (C := [mu_is H (some 169) 1]) rfl (show mu_is H (some 169) 1 from h9) ?_
  refine mw_fr (f' := (68, [(0, .inr (.inr (some 169)))], [.inr (.inr (some rb))], H)) (by first | (rw [hr]; done) | (rw [hr]; rfl)) ?_
  refine mw_go mu_g406 (k := 2) (f1 := (72, [(0, .inr (.inr (some 169)))], [.inl (mu_i H 169 52), .inr (.inr (some rb))], H)) (C := [mu_is H (some 169) 1]) rfl (show mu_is H (some 169) 1 from h9) ?_
  refine mw_fr (f' := (72, [(0, .inr (.inr (some 169)))], [.inl (nI k), .inr (.inr (some rb))], H)) (by first | (rw [hi]; done) | (rw [hi]; rfl)) ?_
  refine mw_newo rfl (by decide) (by omega) ?_
  show mu_W _ mu_m406 (75, [(0, .inr (.inr (some 169)))], [.inr (.inr (some (mu_z H))), .inl (nI k), .inr (.inr (some rb))], (mu_nw H 14 0 1)) _
  refine mw_go mu_g406 (k := 1) (f1 := (76, [(0, .inr (.inr (some 169)))], [.inr (.inr (some (mu_z H))), .inr (.inr (some (mu_z H))), .inl (nI k), .inr (.inr (some rb))], (mu_nw H 14 0 1))) (C := []) rfl trivial ?_
  have hn14 : mu_is (mu_nw H 14 0 1) (some (mu_z H)) 14 := mu_is_new H 14 0 1
  have k0 : kep (fun _ => False) (0 + 1) (0 + 1) H (mu_nw H 14 0 1) := kep.rf.nw (by omega)
  refine mw_cV (fun _ => rfl) ⟨rfl, hn14.2.1⟩ (rp_binit (d := d) hn14 (by show mu_z H + 1 + 1 ≤ 1000000; omega)) (fun H1 q1 => ?_)
  obtain ⟨q1, q2, q3, q4, q5, q6⟩ := q1
  have q2 : mu_z H1 = mu_z H + 1 + 1 := q2
  have q3 : mu_r H1 (mu_z H) 0 = some (mu_z H + 1) := q3
  have q4 : mu_is H1 (some (mu_z H + 1)) 100 := q4
  have q5 : mu_n H1 (mu_z H + 1) = 512 := q5
  have kk : kep (fun _ => False) (0 + 1 + 1) (0 + 1 + 512) H H1 := k0.tr q1 (W := fun _ => False) (fun x h y => y.elim id (fun e => by have e : x = mu_z H := e; omega))
  have b9 : mu_is H1 (some 169) 1 := kk.is h9 id
  have brb : mu_is H1 (some rb) 107 := kk.is hp id
  have bn : mu_n H1 rb = cap := (kk.len (p := rb) (Or.inl hp.2.1) id).trans hn
  have br : mu_r (mu_sr H1 rb k (some (mu_z H))) 169 51 = some rb := by rw [mu_r_sr, if_neg (fun y => rb9 y.1.symm)]; exact (kk.r (p := 169) (Or.inl h9.2.1) id 51).trans hr
  have bi : mu_i H1 169 52 = nI k := (kk.i (p := 169) (Or.inl h9.2.1) id 52).trans hi
  obtain ⟨gb, gb2, gb3, gb4⟩ := ar_at brb (by decide) (show k < mu_n H1 rb by omega) (by omega)
  refine mw_aastO (t := 7) (ct := 14) rfl brb q6 (by decide) gb3 ?_
  rw [show mu_p (some rb) = rb from rfl, gb4]
  have bq : mu_r (mu_sr H1 rb k (some (mu_z H))) rb (nI k).toNatClampNeg = some (mu_z H) := by rw [gb4, mu_r_sr, if_pos ⟨rfl, rfl⟩]
  refine mw_go mu_g406 (k := 2) (f1 := (84, [(0, .inr (.inr (some 169)))], [.inr (.inr (mu_r (mu_sr H1 rb k (some (mu_z H))) 169 51))], (mu_sr H1 rb k (some (mu_z H))))) (C := [mu_is H1 (some 169) 1]) rfl (show mu_is H1 (some 169) 1 from b9) ?_
  refine mw_fr (f' := (84, [(0, .inr (.inr (some 169)))], [.inr (.inr (some rb))], (mu_sr H1 rb k (some (mu_z H))))) (by first | (rw [br]; done) | (rw [br]; rfl)) ?_
  refine mw_go mu_g406 (k := 3) (f1 := (89, [(0, .inr (.inr (some 169)))], [.inl (mu_i H1 169 52), .inr (.inr (some 169)), .inr (.inr (some rb))], (mu_sr H1 rb k (some (mu_z H))))) (C := [mu_is H1 (some 169) 1]) rfl (show mu_is H1 (some 169) 1 from b9) ?_
  refine mw_fr (f' := (89, [(0, .inr (.inr (some 169)))], [.inl (nI k), .inr (.inr (some 169)), .inr (.inr (some rb))], (mu_sr H1 rb k (some (mu_z H))))) (by first | (rw [bi]; done) | (rw [bi]; rfl)) ?_
  refine mw_go mu_g406 (k := 5) (f1 := (96, [(0, .inr (.inr (some 169)))], [.inr (.inr (mu_r (mu_sr H1 rb k (some (mu_z H))) rb (nI k).toNatClampNeg))], (mu_si (mu_sr H1 rb k (some (mu_z H))) 169 52 ((nI k) + (1 : Int32))))) (C := [mu_is H1 (some 169) 1, mu_is H1 (some rb) (mu_k H1 rb), 103 ≤ mu_k (mu_si (mu_sr H1 rb k (some (mu_z H))) 169 52 ((nI k) + (1 : Int32))) rb ∧ mu_k (mu_si (mu_sr H1 rb k (some (mu_z H))) 169 52 ((nI k) + (1 : Int32))) rb ≤ 110 ∧ mu_k (mu_si (mu_sr H1 rb k (some (mu_z H))) 169 52 ((nI k) + (1 : Int32))) rb ≠ 108, vp_in (nI k) (mu_n H1 rb)]) rfl (show (mu_is H1 (some 169) 1) ∧ (mu_is H1 (some rb) (mu_k H1 rb)) ∧ (103 ≤ mu_k (mu_si (mu_sr H1 rb k (some (mu_z H))) 169 52 ((nI k) + (1 : Int32))) rb ∧ mu_k (mu_si (mu_sr H1 rb k (some (mu_z H))) 169 52 ((nI k) + (1 : Int32))) rb ≤ 110 ∧ mu_k (mu_si (mu_sr H1 rb k (some (mu_z H))) 169 52 ((nI k) + (1 : Int32))) rb ≠ 108) ∧ (vp_in (nI k) (mu_n H1 rb)) from ⟨b9, gb, gb2, gb3⟩) ?_
  refine mw_fr (f' := (96, [(0, .inr (.inr (some 169)))], [.inr (.inr (some (mu_z H)))], (mu_si (mu_sr H1 rb k (some (mu_z H))) 169 52 ((nI k) + (1 : Int32))))) (by first | (rw [bq]; done) | (rw [bq]; rfl)) ?_
  -- [('A', '(some (mu_z H))')] (mu_si (mu_sr H1 rb k (some (mu_z H))) 169 52 ((nI k) + (1 : Int32)))
  have rbz : rb < mu_z H := hp.2.1
  have sm : ∀ i, i < m → (rr i).1 < mu_z H ∧ (rr i).2 < mu_z H ∧ ¬ (rr i).1 = rb ∧ ¬ (rr i).2 = rb := fun i hi => ⟨(hel i hi).2.1.2.1, (hel i hi).2.2.2.1.2.1, fun e => by
    have z1 : mu_k H (rr i).1 = 14 := (hel i hi).2.1.2.2
    rw [e, show mu_k H rb = 107 from hp.2.2] at z1
    exact absurd z1 (by decide), fun e => by
    have z1 : mu_k H (rr i).2 = 100 := (hel i hi).2.2.2.1.2.2
    rw [e, show mu_k H rb = 107 from hp.2.2] at z1
    exact absurd z1 (by decide)⟩
  refine mw_of (fun _ => mu_ret rfl trivial ⟨_, _, m + 1, rwx m (mu_z H) rr, rfl, ?_, ⟨⟨br, brb, bn⟩, ?_, ⟨by omega, by omega, hc4, hc1⟩, fun i hi => ?_, fun i h1 h2 => ?_, fun i j h1 h2 e => ?_⟩, ?_, fun i hi => rwx_n (by omega), Or.inr ⟨by omega, rfl, by rw [rwx_m rfl], by rw [rwx_m rfl]⟩⟩)
  · refine rfr.si ⟨(kk.wk (W' := fun p => p = 169 ∨ p = rb) (fun _ _ z => z.elim) (Nat.le_refl _) (Nat.le_refl _)).sr (Or.inl (Or.inr rfl)), fun j _ => kk.i (p := 169) (Or.inl h9.2.1) id j, fun j _ => ?_, ?_⟩ (by simp)
    · rw [mu_r_sr, if_neg (fun y => rb9 y.1.symm)]; exact kk.r (p := 169) (Or.inl h9.2.1) id j
    · exact kk.k (p := 169) (Or.inl h9.2.1) id
  · rw [mu_i_si, if_pos ⟨rfl, rfl⟩, k1]
  · show mu_r (mu_sr H1 rb k (some (mu_z H))) rb i = _ ∧ btr _ _ _
    by_cases e : i = m
    · have ek : i = k := by omega
      rw [rwx_m e, mu_r_sr, if_pos ⟨rfl, ek⟩]
      refine ⟨rfl, q6, ?_, q4, q5⟩
      show mu_r (mu_sr H1 rb k (some (mu_z H))) (mu_z H) 0 = _
      rw [mu_r_sr, if_neg (fun y => by have := y.1; omega)]; exact q3
    · have hi' : i < m := by omega
      obtain ⟨s1, s2, s3, s4⟩ := sm i hi'
      obtain ⟨e1, e2, e3, e4, e5⟩ := hel i hi'
      rw [rwx_n e, mu_r_sr, if_neg (fun y => by have := y.2; omega)]
      refine ⟨(kk.r (p := rb) (Or.inl rbz) id i).trans e1, kk.is e2 id, ?_, kk.is e4 id, (kk.len (p := (rr i).2) (Or.inl s2) id).trans e5⟩
      show mu_r (mu_sr H1 rb k (some (mu_z H))) (rr i).1 0 = _
      rw [mu_r_sr, if_neg (fun y => s3 y.1)]; exact (kk.r (p := (rr i).1) (Or.inl s1) id 0).trans e3
  · show mu_r (mu_sr H1 rb k (some (mu_z H))) rb i = none
    rw [mu_r_sr, if_neg (fun y => by have := y.2; omega)]; exact (kk.r (p := rb) (Or.inl rbz) id i).trans (hno i (by omega) h2)
  · by_cases e1 : i = m
    · by_cases e2 : j = m
      · omega
      · rw [rwx_m e1, rwx_n e2] at e
        have := (sm j (by omega)).2.1
        have e : mu_z H + 1 = (rr j).2 := e
        omega
    · by_cases e2 : j = m
      · rw [rwx_n e1, rwx_m e2] at e
        have := (sm i (by omega)).2.1
        have e : (rr i).2 = mu_z H + 1 := e
        omega
      · rw [rwx_n e1, rwx_n e2] at e
        exact hdi i j (by omega) (by omega) e
  · rw [rwx_m hkm']
def rwq (rb cap k m : Nat) (rr : Nat → Nat × Nat) (H : mu_H) (y : Option Nat) (H1 : mu_H) : Prop := ∃ rb1 cap1 m1 rr1, y = some (rr1 k).1 ∧ rfr [52] [51] (fun p => p = rb) 3 (513 + 2 * cap) H H1 ∧ rwz H1 rb1 cap1 (k + 1) m1 rr1 ∧ (∀ i, i < m → rr1 i = rr i) ∧ (k < m ∧ m1 = m ∧ rb1 = rb ∧ rfr [52] [] (fun p => p = rb) 0 0 H H1 ∨ k = m ∧ m1 = m + 1 ∧ (mu_z H ≤ (rr1 m).1 ∧ mu_z H ≤ (rr1 m).2) ∧ (rb1 = rb ∨ mu_z H ≤ rb1))
theorem rp_ro3 {d rb cap : Nat} {rr : Nat → Nat × Nat} {H : mu_H} (h9 : mu_is H (some 169) 1) (hw : rwz H rb cap cap cap rr) (hcap : cap ≤ 256) (hz : mu_z H + 3 ≤ 1000000) : mu_W (mu_D (d + 1)) mu_m406 (0, [(0, .inr (.inr (some 169)))], [], H) (fun r => ∃ y H1, r = (.inl (some (.inr (.inr y))), H1) ∧ rwq rb cap cap cap rr H y H1) := by
  obtain ⟨⟨hr, hp, hn⟩, hi, ⟨hkm, hmc, hc4, hc1⟩, hel, hno, hdi⟩ := hw
  have gl : Int32.ofNat (mu_n H rb) = nI cap := by rw [hn]; rfl
  have gr : mu_isr H (some rb) (mu_k H rb) := ⟨rfl, Or.inl hp.2.1, rfl⟩
  have gr2 : 100 ≤ mu_k H rb := by rw [show mu_k H rb = 107 from hp.2.2]; decide
  refine mw_go mu_g406 (k := 2) (f1 := (4, [(0, .inr (.inr (some 169)))], [.inl (mu_i H 169 52)], H)) (C := [mu_is H (some 169) 1]) rfl (show mu_is H (some 169) 1 from h9) ?_
  refine mw_fr (f' := (4, [(0, .inr (.inr (some 169)))], [.inl (nI cap)], H)) (by first | (rw [hi]; done) | (rw [hi]; rfl)) ?_
  refine mw_go mu_g406 (k := 2) (f1 := (8, [(0, .inr (.inr (some 169)))], [.inr (.inr (mu_r H 169 51)), .inl (nI cap)], H)) (C := [mu_is H (some 169) 1]) rfl (show mu_is H (some 169) 1 from h9) ?_
  refine mw_fr (f' := (8, [(0, .inr (.inr (some 169)))], [.inr (.inr (some rb)), .inl (nI cap)], H)) (by first | (rw [hr]; done) | (rw [hr]; rfl)) ?_
  refine mw_go mu_g406 (k := 1) (f1 := (9, [(0, .inr (.inr (some 169)))], [.inl (Int32.ofNat (mu_n H rb)), .inl (nI cap)], H)) (C := [mu_isr H (some rb) (mu_k H rb), 100 ≤ mu_k H rb]) rfl (show (mu_isr H (some rb) (mu_k H rb)) ∧ (100 ≤ mu_k H rb) from ⟨gr, gr2⟩) ?_
  refine mw_fr (f' := (9, [(0, .inr (.inr (some 169)))], [.inl (nI cap), .inl (nI cap)], H)) (by first | (rw [gl]; done) | (rw [gl]; rfl)) ?_
  refine mw_if (P := (nI cap) = (nI cap)) (a := 12) (b := 52) (fun _ => rfl) trivial (fun h1 => ?_) (fun h1 => absurd rfl h1)
  have g2l : (2 : Int32) * nI cap = nI (2 * cap) := (Int32.ofNat_mul 2 cap).symm
  have gcl : (nI (2 * cap)).toNatClampNeg = 2 * cap := nI_clamp (by omega)
  have gnn : ¬ nI (2 * cap) < 0 := nI_nn (by omega)
  have gby : (nI (2 * cap)).toNatClampNeg * ev_bytes 7 ≤ 536870912 := by rw [gcl]; exact Nat.le_trans (Nat.mul_le_mul (Nat.le_refl _) (show ev_bytes 7 ≤ 8 by decide)) (by omega)
  have hz1 : mu_z H + 1 ≤ 1000000 := by omega
  refine mw_go mu_g406 (k := 3) (f1 := (17, [(0, .inr (.inr (some 169)))], [.inl (mu_i H 169 52), .inl (2 : Int32)], H)) (C := [mu_is H (some 169) 1]) rfl (show mu_is H (some 169) 1 from h9) ?_
  refine mw_fr (f' := (17, [(0, .inr (.inr (some 169)))], [.inl (nI cap), .inl (2 : Int32)], H)) (by first | (rw [hi]; done) | (rw [hi]; rfl)) ?_
  refine mw_go mu_g406 (k := 1) (f1 := (18, [(0, .inr (.inr (some 169)))], [.inl ((2 : Int32) * (nI cap))], H)) (C := []) rfl trivial ?_
  refine mw_fr (f' := (18, [(0, .inr (.inr (some 169)))], [.inl (nI (2 * cap))], H)) (by first | (rw [g2l]; done) | (rw [g2l]; rfl)) ?_
  refine mw_go mu_g406 (k := 1) (f1 := (21, [(0, .inr (.inr (some 169)))], [.inr (.inr (some (mu_z H)))], (mu_nw H 107 (nI (2 * cap)).toNatClampNeg (nI (2 * cap)).toNatClampNeg))) (C := [¬ (nI (2 * cap)) < 0, (nI (2 * cap)).toNatClampNeg * ev_bytes 7 ≤ 536870912, mu_z H + 1 ≤ 1000000]) rfl (show (¬ (nI (2 * cap)) < 0) ∧ ((nI (2 * cap)).toNatClampNeg * ev_bytes 7 ≤ 536870912) ∧ (mu_z H + 1 ≤ 1000000) from ⟨gnn, gby, hz1⟩) ?_
  refine mw_fr (f' := (21, [(0, .inr (.inr (some 169)))], [.inr (.inr (some (mu_z H)))], (mu_nw H 107 (2 * cap) (2 * cap)))) (by first | (rw [gcl]; done) | (rw [gcl]; rfl)) ?_
  refine mw_go mu_g406 (k := 3) (f1 := (24, [(2, .inl (0 : Int32)), (1, .inr (.inr (some (mu_z H)))), (0, .inr (.inr (some 169)))], [], (mu_nw H 107 (2 * cap) (2 * cap)))) (C := []) rfl trivial ?_
  -- [(2, ('I', '(0 : Int32)')), (1, ('A', '(some (mu_z H))')), (0, ('A', '(some 169)'))] (mu_nw H 107 (2 * cap) (2 * cap))
  have k0 : kep (fun _ => False) (0 + 1) (0 + 2 * cap) H (mu_nw H 107 (2 * cap) (2 * cap)) := kep.rf.nw (by omega)
  have pz : ¬ rb = mu_z H := by have : rb < mu_z H := hp.2.1; omega
  have z9 : ¬ 169 = mu_z H := by have : 169 < mu_z H := h9.2.1; omega
  have rb9 : ¬ rb = 169 := fun e => by
    have z1 : mu_k H rb = 107 := hp.2.2
    rw [e, show mu_k H 169 = 1 from h9.2.2] at z1
    exact absurd z1 (by decide)
  refine mw_sub (L' := [(2, .inl (nI 0)), (1, .inr (.inr (some (mu_z H)))), (0, .inr (.inr (some 169)))]) (by simp [nI]) ?_
  refine rp_ro0 (H := mu_nw H 107 (2 * cap) (2 * cap)) (rb := rb) (z := mu_z H) (cap := cap) (k0.is h9 id) z9 ((k0.r (p := 169) (Or.inl h9.2.1) id 51).trans hr) ((k0.i (p := 169) (Or.inl h9.2.1) id 52).trans hi) (k0.is hp id) pz ((k0.len (p := rb) (Or.inl hp.2.1) id).trans hn) (by omega) (mu_is_new H 107 _ _) (fun i hi => ?_) (fun Hk hc hnz => ?_) cap 0 _ (by omega) ⟨⟨kep.rf, fun i hi => absurd hi (Nat.not_lt_zero _), mu_is_new H 107 _ _, by rw [mu_n_nw, if_pos rfl]⟩, fun i _ => by rw [mu_r_nw, if_pos rfl]⟩
  · rw [k0.r (p := rb) (Or.inl hp.2.1) id i, (hel i hi).1]
    exact k0.is (hel i hi).2.1 id
  obtain ⟨c1, c2, c3, c4⟩ := hc
  have kk : kep (fun _ => False) (0 + 1 + 0) (0 + 2 * cap + 0) H Hk := k0.tr c1 (W := fun _ => False) (fun x h y => y.elim id (fun e => by have e : x = mu_z H := e; omega))
  have g9 : mu_is Hk (some 169) 1 := kk.is h9 id
  refine mw_go mu_g406 (k := 3) (f1 := (52, [(1, .inr (.inr (some (mu_z H)))), (0, .inr (.inr (some 169)))], [], (mu_sr Hk 169 51 (some (mu_z H))))) (C := [mu_is Hk (some 169) 1]) rfl (show mu_is Hk (some 169) 1 from g9) ?_
  refine mw_sub (L' := [(0, .inr (.inr (some 169)))]) (by simp) ?_
  have kz : mu_z Hk ≤ mu_z H + 1 := kk.2.2.1.1
  have kz2 : mu_z H ≤ mu_z Hk := kk.1
  have hw2 : rwz (mu_sr Hk 169 51 (some (mu_z H))) (mu_z H) (2 * cap) cap cap rr := by
    refine ⟨⟨by rw [mu_r_sr, if_pos ⟨rfl, rfl⟩], c3, c4⟩, (kk.i (p := 169) (Or.inl h9.2.1) id 52).trans hi, ⟨by omega, by omega, by omega, by omega⟩, fun i hi => ?_, fun i h1 h2 => ?_, hdi⟩
    · obtain ⟨e1, e2, e3, e4, e5⟩ := hel i hi
      have n9 : ¬ (rr i).1 = 169 := fun e => by
        have z1 : mu_k H (rr i).1 = 14 := e2.2.2
        rw [e, show mu_k H 169 = 1 from h9.2.2] at z1
        exact absurd z1 (by decide)
      refine ⟨?_, kk.is e2 id, ?_, kk.is e4 id, (kk.len (p := (rr i).2) (Or.inl e4.2.1) id).trans e5⟩
      · rw [mu_r_sr, if_neg (fun y => z9 y.1.symm), c2 i hi]; exact (k0.r (p := rb) (Or.inl hp.2.1) id i).trans e1
      · rw [mu_r_sr, if_neg (fun y => n9 y.1)]; exact (kk.r (p := (rr i).1) (Or.inl e2.2.1) id 0).trans e3
    · rw [mu_r_sr, if_neg (fun y => z9 y.1.symm)]
      exact hnz i h1
  have z2 : mu_z (mu_sr Hk 169 51 (some (mu_z H))) + 2 ≤ 1000000 := by show mu_z Hk + 2 ≤ 1000000; omega
  refine mw_imp (fun q hq => ?_) (rp_ro2 (d := d) (k := cap) (m := cap) g9 hw2 rfl (by omega) z2)
  obtain ⟨q, H1, m1, rr1, e1, e2, e3, e4, e5, e6⟩ := hq
  refine ⟨some q, H1, e1, mu_z H, 2 * cap, m1, rr1, by rw [e4], ?_, e3, e5, ?_⟩
  · have f0 : rfr [52] [51] (fun p => p = rb) (0 + 1 + 0) (0 + 2 * cap + 0) H (mu_sr Hk 169 51 (some (mu_z H))) := rfr.sr ((rfr.of (Fi := [52]) (Fr := [51]) kk h9.2.1 id).wk (fun _ z => z) (fun _ z => z) (fun _ _ z => z.elim) (Nat.le_refl _) (Nat.le_refl _)) (by simp)
    exact (rfr.tr f0 e2 (Fi := [52]) (Fr := [51]) (W := fun p => p = rb) (fun k z => z.elim id id) (fun k z => z.elim id (fun y => nomatch y)) (fun p h z => z.elim id (fun e => by have e : p = mu_z H := e; omega))).wk (fun _ z => z) (fun _ z => z) (fun _ _ z => z) (by omega) (by omega)
  · rcases e6 with ⟨y, _⟩ | ⟨_, y1, y2, y3⟩
    · omega
    · have y2 : (rr1 cap).1 = mu_z Hk := y2
      have y3 : (rr1 cap).2 = mu_z Hk + 1 := y3
      exact Or.inr ⟨rfl, y1, ⟨by omega, by omega⟩, Or.inr (Nat.le_refl _)⟩
theorem rp_row {d rb cap k m : Nat} {rr : Nat → Nat × Nat} {H : mu_H} (h9 : mu_is H (some 169) 1) (hw : rwz H rb cap k m rr) (hk : k ≤ 256) (hz : mu_z H + 3 ≤ 1000000) : mu_TA (mu_D (d + 2)) 406 [.inr (.inr (some 169))] H (rwq rb cap k m rr H) := by
  refine mu_meth (M := mu_m406) rfl rfl ?_
  refine mw_ht (mu_fn_of (show [0].Nodup by decide)) ?_
  have hw0 := hw
  obtain ⟨⟨hr, hp, hn⟩, hi, ⟨hkm, hmc, hc4, hc1⟩, hel, hno, hdi⟩ := hw0
  by_cases hkc : k = cap
  · have hm : m = k := by omega
    subst hm
    subst hkc
    exact rp_ro3 h9 hw hk hz
  have hkl : k < cap := by omega
  have gl : Int32.ofNat (mu_n H rb) = nI cap := by rw [hn]; rfl
  have gr : mu_isr H (some rb) (mu_k H rb) := ⟨rfl, Or.inl hp.2.1, rfl⟩
  have gr2 : 100 ≤ mu_k H rb := by rw [show mu_k H rb = 107 from hp.2.2]; decide
  refine mw_go mu_g406 (k := 2) (f1 := (4, [(0, .inr (.inr (some 169)))], [.inl (mu_i H 169 52)], H)) (C := [mu_is H (some 169) 1]) rfl (show mu_is H (some 169) 1 from h9) ?_
  refine mw_fr (f' := (4, [(0, .inr (.inr (some 169)))], [.inl (nI k)], H)) (by first | (rw [hi]; done) | (rw [hi]; rfl)) ?_
  refine mw_go mu_g406 (k := 2) (f1 := (8, [(0, .inr (.inr (some 169)))], [.inr (.inr (mu_r H 169 51)), .inl (nI k)], H)) (C := [mu_is H (some 169) 1]) rfl (show mu_is H (some 169) 1 from h9) ?_
  refine mw_fr (f' := (8, [(0, .inr (.inr (some 169)))], [.inr (.inr (some rb)), .inl (nI k)], H)) (by first | (rw [hr]; done) | (rw [hr]; rfl)) ?_
  refine mw_go mu_g406 (k := 1) (f1 := (9, [(0, .inr (.inr (some 169)))], [.inl (Int32.ofNat (mu_n H rb)), .inl (nI k)], H)) (C := [mu_isr H (some rb) (mu_k H rb), 100 ≤ mu_k H rb]) rfl (show (mu_isr H (some rb) (mu_k H rb)) ∧ (100 ≤ mu_k H rb) from ⟨gr, gr2⟩) ?_
  refine mw_fr (f' := (9, [(0, .inr (.inr (some 169)))], [.inl (nI cap), .inl (nI k)], H)) (by first | (rw [gl]; done) | (rw [gl]; rfl)) ?_
  refine mw_if (P := (nI k) = (nI cap)) (a := 12) (b := 52) (fun _ => rfl) trivial (fun h1 => absurd (nI_is (by omega) h1 (nI_clamp (by omega))) hkc) (fun h1 => ?_)
  have fin : ∀ r : mu_R, (∃ q H1 m1 rr1, r = (.inl (some (.inr (.inr (some q)))), H1) ∧ rfr [52] [] (fun p => p = rb) 2 513 H H1 ∧ rwz H1 rb cap (k + 1) m1 rr1 ∧ q = (rr1 k).1 ∧ (∀ i, i < m → rr1 i = rr i) ∧ (k < m ∧ m1 = m ∧ rfr [52] [] (fun p => p = rb) 0 0 H H1 ∨ k = m ∧ m1 = m + 1 ∧ (rr1 m).1 = mu_z H ∧ (rr1 m).2 = mu_z H + 1)) → ∃ y H1, r = (.inl (some (.inr (.inr y))), H1) ∧ rwq rb cap k m rr H y H1 := fun r hq => by
    obtain ⟨q, H1, m1, rr1, e1, e2, e3, e4, e5, e6⟩ := hq
    refine ⟨some q, H1, e1, rb, cap, m1, rr1, by rw [e4], e2.wk (fun _ z => z) (fun _ z => nomatch z) (fun _ _ z => z) (by omega) (by omega), e3, e5, ?_⟩
    rcases e6 with ⟨y, y1, y2⟩ | ⟨y, y1, y2, y3⟩
    · exact Or.inl ⟨y, y1, rfl, y2⟩
    · exact Or.inr ⟨y, y1, ⟨by omega, by omega⟩, Or.inl rfl⟩
  by_cases hkm2 : k < m
  · exact mw_imp fin (rp_ro1 h9 hw hkm2 (by omega))
  · exact mw_imp fin (rp_ro2 h9 hw (by omega) hkl (by omega))
