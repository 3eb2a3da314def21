/-! The reference: find, the way to an INSTANCE -/
/-- PathProverModel.find(LPathProverModel$Instance;[Ljava/lang/String;)V -/
abbrev mu_m434 : ev_M := (8, none, [], ev_b434)
theorem mu_g434 : mu_good mu_m434 := mu_goodk ev_k434
/-- the INSTANCE that all names but the last lead to -/
def fwk (D : MD) (ns : List (List Int32)) : Nat → Nat → Nat → Option Nat
  | 0, _, j => some j
  | m + 1, k, j => match fnd (D.md j).2.2 73 (ns.getD k []) with
    | none => none
    | some q => match (D.Iv j).2.2.2.1 q with
      | none => none
      | some i => fwk D ns m (k + 1) i
theorem rp_fd1 {d nb : Nat} {Hb H : mu_H} {D : MD} {ns : List (List Int32)} {Φ : mu_R → Prop} (hr : rms Hb D H) (hbi : mu_is H (some nb) 103 ∧ mu_n H nb = ns.length ∧ ns.length ≤ 65536) (hbs : ∀ i, i < ns.length → ∃ s, mu_r H nb i = some s ∧ stf H D.G s (ns.getD i [])) {R : Option Nat} (hthr : R = none → Φ (.inr 2, mu_ex H)) (hfin : ∀ j, j < D.n → some j = R → mu_W (mu_D (d + 5)) mu_m434 (68, [(3, .inr (.inr (some (D.ip j)))), (2, .inr (.inr (some nb))), (0, .inr (.inr (some 169)))], [], H) Φ) : ∀ m_ k j, k + 1 + m_ = ns.length → j < D.n → fwk D ns m_ k j = R → mu_W (mu_D (d + 5)) mu_m434 (5, [(4, .inl (nI k)), (3, .inr (.inr (some (D.ip j)))), (2, .inr (.inr (some nb))), (0, .inr (.inr (some 169)))], [], H) Φ
  | 0, k, j, hm_, hj, hpe => by
    obtain ⟨ia1, ⟨m, im1, id1⟩, ig1, ⟨iv1, ii1, if1⟩, vz1, nz1, dz1, wf1, w31_1⟩ := hr.ins hj
    have e1 : nI k + (1 : Int32) = nI (k + 1) := nI_add _ _
    refine mw_go mu_g434 (k := 3) (f1 := (9, [(4, .inl (nI k)), (3, .inr (.inr (some (D.ip j)))), (2, .inr (.inr (some nb))), (0, .inr (.inr (some 169)))], [.inl ((nI k) + (1 : Int32))], H)) (C := []) rfl trivial ?_
    refine mw_fr (f' := (9, [(4, .inl (nI k)), (3, .inr (.inr (some (D.ip j)))), (2, .inr (.inr (some nb))), (0, .inr (.inr (some 169)))], [.inl (nI (k + 1))], H)) (by first | (rw [e1]; done) | (rw [e1]; rfl)) ?_
    refine mw_go mu_g434 (k := 2) (f1 := (11, [(4, .inl (nI k)), (3, .inr (.inr (some (D.ip j)))), (2, .inr (.inr (some nb))), (0, .inr (.inr (some 169)))], [.inl (Int32.ofNat (mu_n H nb)), .inl (nI (k + 1))], H)) (C := [mu_isr H (some nb) (mu_k H nb), 100 ≤ mu_k H nb]) rfl (show (mu_isr H (some nb) (mu_k H nb)) ∧ (100 ≤ mu_k H nb) from ⟨⟨rfl, Or.inl hbi.1.2.1, rfl⟩, (by rw [show mu_k H nb = 103 from hbi.1.2.2]; decide)⟩) ?_
    refine mw_fr (f' := (11, [(4, .inl (nI k)), (3, .inr (.inr (some (D.ip j)))), (2, .inr (.inr (some nb))), (0, .inr (.inr (some 169)))], [.inl (Int32.ofNat ns.length), .inl (nI (k + 1))], H)) (by first | (rw [hbi.2.1]; done) | (rw [hbi.2.1]; rfl)) ?_
    refine mw_if (P := (nI (k + 1)) < (Int32.ofNat ns.length)) (a := 14) (b := 68) (fun _ => rfl) trivial (fun h1 => absurd h1 (by rw [show k + 1 = ns.length by omega]; exact Int32.lt_irrefl)) (fun h1 => ?_)
    refine mw_sub (L' := [(3, .inr (.inr (some (D.ip j)))), (2, .inr (.inr (some nb))), (0, .inr (.inr (some 169)))]) (by simp) ?_
    exact hfin j hj hpe
  | m_ + 1, k, j, hm_, hj, hpe => by
    obtain ⟨ia1, ⟨m, im1, id1⟩, ig1, ⟨iv1, ii1, if1⟩, vz1, nz1, dz1, wf1, w31_1⟩ := hr.ins hj
    have e1 : nI k + (1 : Int32) = nI (k + 1) := nI_add _ _
    have hk : k + 1 < ns.length := by omega
    obtain ⟨s, sr, sf⟩ := hbs k (by omega)
    obtain ⟨c1, c2, c3, c4⟩ := ar_at (i := k) hbi.1 (by decide) (by rw [hbi.2.1]; omega) (by rw [hbi.2.1]; omega)
    have sx : mu_r H nb (nI k).toNatClampNeg = some s := by rw [c4]; exact sr
    refine mw_go mu_g434 (k := 3) (f1 := (9, [(4, .inl (nI k)), (3, .inr (.inr (some (D.ip j)))), (2, .inr (.inr (some nb))), (0, .inr (.inr (some 169)))], [.inl ((nI k) + (1 : Int32))], H)) (C := []) rfl trivial ?_
    refine mw_fr (f' := (9, [(4, .inl (nI k)), (3, .inr (.inr (some (D.ip j)))), (2, .inr (.inr (some nb))), (0, .inr (.inr (some 169)))], [.inl (nI (k + 1))], H)) (by first | (rw [e1]; done) | (rw [e1]; rfl)) ?_
    refine mw_go mu_g434 (k := 2) (f1 := (11, [(4, .inl (nI k)), (3, .inr (.inr (some (D.ip j)))), (2, .inr (.inr (some nb))), (0, .inr (.inr (some 169)))], [.inl (Int32.ofNat (mu_n H nb)), .inl (nI (k + 1))], H)) (C := [mu_isr H (some nb) (mu_k H nb), 100 ≤ mu_k H nb]) rfl (show (mu_isr H (some nb) (mu_k H nb)) ∧ (100 ≤ mu_k H nb) from ⟨⟨rfl, Or.inl hbi.1.2.1, rfl⟩, (by rw [show mu_k H nb = 103 from hbi.1.2.2]; decide)⟩) ?_
    refine mw_fr (f' := (11, [(4, .inl (nI k)), (3, .inr (.inr (some (D.ip j)))), (2, .inr (.inr (some nb))), (0, .inr (.inr (some 169)))], [.inl (Int32.ofNat ns.length), .inl (nI (k + 1))], H)) (by first | (rw [hbi.2.1]; done) | (rw [hbi.2.1]; rfl)) ?_
    refine mw_if (P := (nI (k + 1)) < (Int32.ofNat ns.length)) (a := 14) (b := 68) (fun _ => rfl) trivial (fun h1 => ?_) (fun h1 => absurd (show nI (k + 1) < nI ns.length from nI_lt hk (by omega)) h1)
    refine mw_go mu_g434 (k := 2) (f1 := (18, [(4, .inl (nI k)), (3, .inr (.inr (some (D.ip j)))), (2, .inr (.inr (some nb))), (0, .inr (.inr (some 169)))], [.inr (.inr (mu_r H (D.ip j) 0))], H)) (C := [mu_is H (some (D.ip j)) 15]) rfl (show mu_is H (some (D.ip j)) 15 from ia1) ?_
    refine mw_fr (f' := (18, [(4, .inl (nI k)), (3, .inr (.inr (some (D.ip j)))), (2, .inr (.inr (some nb))), (0, .inr (.inr (some 169)))], [.inr (.inr (some m))], H)) (by first | (rw [im1]; done) | (rw [im1]; rfl)) ?_
    refine mw_go mu_g434 (k := 4) (f1 := (25, [(4, .inl (nI k)), (3, .inr (.inr (some (D.ip j)))), (2, .inr (.inr (some nb))), (0, .inr (.inr (some 169)))], [.inr (.inr (mu_r H nb (nI k).toNatClampNeg)), .inr (.inr (some 1000073)), .inr (.inr (some m))], H)) (C := [mu_is H (some nb) (mu_k H nb), 103 ≤ mu_k H nb ∧ mu_k H nb ≤ 110 ∧ mu_k H nb ≠ 108, vp_in (nI k) (mu_n H nb)]) rfl (show (mu_is H (some nb) (mu_k H nb)) ∧ (103 ≤ mu_k H nb ∧ mu_k H nb ≤ 110 ∧ mu_k H nb ≠ 108) ∧ (vp_in (nI k) (mu_n H nb)) from ⟨⟨rfl, hbi.1.2.1, rfl⟩, c2, c3⟩) ?_
    refine mw_fr (f' := (25, [(4, .inl (nI k)), (3, .inr (.inr (some (D.ip j)))), (2, .inr (.inr (some nb))), (0, .inr (.inr (some 169)))], [.inr (.inr (some s)), .inr (.inr (some 1000073)), .inr (.inr (some m))], H)) (by first | (rw [sx]; done) | (rw [sx]; rfl)) ?_
    refine mw_cIe (fun _ => rfl) trivial (rq_find (d := d + 1) (j := 73) hr.2.1 id1 wf1.2 sf (by decide)) ?_
    rw [fwk] at hpe
    cases hv : (fnd (D.md j).2.2 73 (ns.getD k [])) with
    | none =>
      rw [hv] at hpe
      have hpe : (none : Option Nat) = R := hpe
      show mu_W _ mu_m434 (28, [(4, .inl (nI k)), (3, .inr (.inr (some (D.ip j)))), (2, .inr (.inr (some nb))), (0, .inr (.inr (some 169)))], [.inl (-1 : Int32)], H) _
      refine mw_go mu_g434 (k := 3) (f1 := (33, [(5, .inl (-1 : Int32)), (4, .inl (nI k)), (3, .inr (.inr (some (D.ip j)))), (2, .inr (.inr (some nb))), (0, .inr (.inr (some 169)))], [.inl (-1 : Int32), .inr (.inr (some 169))], H)) (C := []) rfl trivial ?_
      refine mw_if (P := (-1 : Int32) < 0) (a := 50) (b := 36) (fun _ => rfl) trivial (fun h2 => ?_) (fun h2 => absurd (show (-1 : Int32) < 0 by decide) h2)
      · -- 50
        refine mw_go mu_g434 (k := 1) (f1 := (51, [(5, .inl (-1 : Int32)), (4, .inl (nI k)), (3, .inr (.inr (some (D.ip j)))), (2, .inr (.inr (some nb))), (0, .inr (.inr (some 169)))], [.inl (0 : Int32), .inr (.inr (some 169))], H)) (C := []) rfl trivial ?_
        exact mw_cE (as := [.inl (0 : Int32)]) (o := some 169) (S1 := []) rfl rfl rfl rfl (Nat.le_of_ble_eq_true rfl) (by decide) hr.2.2.1.1 rfl (by decide) (rp_sound (d := d + 4) (x := 0)) (fun H9 e9 => by rw [e9.2]; exact hthr hpe.symm) (fun v9 H9 e9 => absurd rfl e9.1)
    | some q =>
      rw [hv] at hpe
      dsimp only at hpe
      have fq := fio_some _ _ _ hv
      have hq : q < (D.md j).2.2.length := by omega
      have rI := nz1
      have hl26 : (D.md j).2.2.length < 2 ^ 31 := w31_1
      obtain ⟨g1, g2, g3, g4⟩ := ar_at (i := q) rI.1 (by decide) (by rw [rI.2.1]; exact hq) (by rw [rI.2.1]; exact hl26)
      show mu_W _ mu_m434 (28, [(4, .inl (nI k)), (3, .inr (.inr (some (D.ip j)))), (2, .inr (.inr (some nb))), (0, .inr (.inr (some 169)))], [.inl (nI q)], H) _
      refine mw_go mu_g434 (k := 3) (f1 := (33, [(5, .inl (nI q)), (4, .inl (nI k)), (3, .inr (.inr (some (D.ip j)))), (2, .inr (.inr (some nb))), (0, .inr (.inr (some 169)))], [.inl (nI q), .inr (.inr (some 169))], H)) (C := []) rfl trivial ?_
      refine mw_if (P := (nI q) < 0) (a := 50) (b := 36) (fun _ => rfl) trivial (fun h2 => absurd h2 (nI_nn (by omega))) (fun h2 => ?_)
      · -- 36
        cases hw2 : (D.Iv j).2.2.2.1 q with
        | none =>
          rw [hw2] at hpe
          have hpe : (none : Option Nat) = R := hpe
          have gx : mu_r H (D.ii j) (nI q).toNatClampNeg = none := by rw [g4, (rI.2.2 q hq).1, hw2]; rfl
          refine mw_go mu_g434 (k := 2) (f1 := (40, [(5, .inl (nI q)), (4, .inl (nI k)), (3, .inr (.inr (some (D.ip j)))), (2, .inr (.inr (some nb))), (0, .inr (.inr (some 169)))], [.inr (.inr (mu_r H (D.ip j) 4)), .inr (.inr (some 169))], H)) (C := [mu_is H (some (D.ip j)) 15]) rfl (show mu_is H (some (D.ip j)) 15 from ia1) ?_
          refine mw_fr (f' := (40, [(5, .inl (nI q)), (4, .inl (nI k)), (3, .inr (.inr (some (D.ip j)))), (2, .inr (.inr (some nb))), (0, .inr (.inr (some 169)))], [.inr (.inr (some (D.ii j))), .inr (.inr (some 169))], H)) (by first | (rw [ii1]; done) | (rw [ii1]; rfl)) ?_
          refine mw_go mu_g434 (k := 2) (f1 := (43, [(5, .inl (nI q)), (4, .inl (nI k)), (3, .inr (.inr (some (D.ip j)))), (2, .inr (.inr (some nb))), (0, .inr (.inr (some 169)))], [.inr (.inr (mu_r H (D.ii j) (nI q).toNatClampNeg)), .inr (.inr (some 169))], H)) (C := [mu_is H (some (D.ii j)) (mu_k H (D.ii j)), 103 ≤ mu_k H (D.ii j) ∧ mu_k H (D.ii j) ≤ 110 ∧ mu_k H (D.ii j) ≠ 108, vp_in (nI q) (mu_n H (D.ii j))]) rfl (show (mu_is H (some (D.ii j)) (mu_k H (D.ii j))) ∧ (103 ≤ mu_k H (D.ii j) ∧ mu_k H (D.ii j) ≤ 110 ∧ mu_k H (D.ii j) ≠ 108) ∧ (vp_in (nI q) (mu_n H (D.ii j))) from ⟨g1, g2, g3⟩) ?_
          refine mw_fr (f' := (43, [(5, .inl (nI q)), (4, .inl (nI k)), (3, .inr (.inr (some (D.ip j)))), (2, .inr (.inr (some nb))), (0, .inr (.inr (some 169)))], [.inr (.inr none), .inr (.inr (some 169))], H)) (by first | (rw [gx]; done) | (rw [gx]; rfl)) ?_
          refine mw_if (P := none = none) (a := 50) (b := 46) (fun _ => rfl) (show none ≠ some 3000000 from fun z => by cases z) (fun h3 => ?_) (fun h3 => absurd rfl h3)
          · -- 50
            refine mw_go mu_g434 (k := 1) (f1 := (51, [(5, .inl (nI q)), (4, .inl (nI k)), (3, .inr (.inr (some (D.ip j)))), (2, .inr (.inr (some nb))), (0, .inr (.inr (some 169)))], [.inl (0 : Int32), .inr (.inr (some 169))], H)) (C := []) rfl trivial ?_
            exact mw_cE (as := [.inl (0 : Int32)]) (o := some 169) (S1 := []) rfl rfl rfl rfl (Nat.le_of_ble_eq_true rfl) (by decide) hr.2.2.1.1 rfl (by decide) (rp_sound (d := d + 4) (x := 0)) (fun H9 e9 => by rw [e9.2]; exact hthr hpe.symm) (fun v9 H9 e9 => absurd rfl e9.1)
        | some i =>
          rw [hw2] at hpe
          have hpe : fwk D ns m_ (k + 1) i = R := hpe
          have hin : i < D.n := (rI.2.2 q hq).2 i hw2
          have gx : mu_r H (D.ii j) (nI q).toNatClampNeg = some (D.ip i) := by rw [g4, (rI.2.2 q hq).1, hw2]; rfl
          have nn3 : (some (D.ip i)) ≠ some 3000000 := fun z => by have := (hr.2.1.2.2.2 _ (hr.1.2.2.2.1 i hin).1.2).2.2; have z := Option.some.inj z; omega
          refine mw_go mu_g434 (k := 2) (f1 := (40, [(5, .inl (nI q)), (4, .inl (nI k)), (3, .inr (.inr (some (D.ip j)))), (2, .inr (.inr (some nb))), (0, .inr (.inr (some 169)))], [.inr (.inr (mu_r H (D.ip j) 4)), .inr (.inr (some 169))], H)) (C := [mu_is H (some (D.ip j)) 15]) rfl (show mu_is H (some (D.ip j)) 15 from ia1) ?_
          refine mw_fr (f' := (40, [(5, .inl (nI q)), (4, .inl (nI k)), (3, .inr (.inr (some (D.ip j)))), (2, .inr (.inr (some nb))), (0, .inr (.inr (some 169)))], [.inr (.inr (some (D.ii j))), .inr (.inr (some 169))], H)) (by first | (rw [ii1]; done) | (rw [ii1]; rfl)) ?_
          refine mw_go mu_g434 (k := 2) (f1 := (43, [(5, .inl (nI q)), (4, .inl (nI k)), (3, .inr (.inr (some (D.ip j)))), (2, .inr (.inr (some nb))), (0, .inr (.inr (some 169)))], [.inr (.inr (mu_r H (D.ii j) (nI q).toNatClampNeg)), .inr (.inr (some 169))], H)) (C := [mu_is H (some (D.ii j)) (mu_k H (D.ii j)), 103 ≤ mu_k H (D.ii j) ∧ mu_k H (D.ii j) ≤ 110 ∧ mu_k H (D.ii j) ≠ 108, vp_in (nI q) (mu_n H (D.ii j))]) rfl (show (mu_is H (some (D.ii j)) (mu_k H (D.ii j))) ∧ (103 ≤ mu_k H (D.ii j) ∧ mu_k H (D.ii j) ≤ 110 ∧ mu_k H (D.ii j) ≠ 108) ∧ (vp_in (nI q) (mu_n H (D.ii j))) from ⟨g1, g2, g3⟩) ?_
          refine mw_fr (f' := (43, [(5, .inl (nI q)), (4, .inl (nI k)), (3, .inr (.inr (some (D.ip j)))), (2, .inr (.inr (some nb))), (0, .inr (.inr (some 169)))], [.inr (.inr (some (D.ip i))), .inr (.inr (some 169))], H)) (by first | (rw [gx]; done) | (rw [gx]; rfl)) ?_
          refine mw_if (P := (some (D.ip i)) = none) (a := 50) (b := 46) (fun _ => rfl) nn3 (fun h3 => by cases h3) (fun h3 => ?_)
          refine mw_go mu_g434 (k := 2) (f1 := (51, [(5, .inl (nI q)), (4, .inl (nI k)), (3, .inr (.inr (some (D.ip j)))), (2, .inr (.inr (some nb))), (0, .inr (.inr (some 169)))], [.inl (1 : Int32), .inr (.inr (some 169))], H)) (C := []) rfl trivial ?_
          refine mw_cE (as := [.inl (1 : Int32)]) (o := some 169) (S1 := []) rfl rfl rfl rfl (Nat.le_of_ble_eq_true rfl) (by decide) hr.2.2.1.1 rfl (by decide) (rp_sound (x := 1)) (fun H9 e9 => absurd e9.1 (by decide)) (fun v9 H9 e9 => ?_)
          obtain ⟨_, rfl, e9⟩ := e9
          rw [e9]
          clear e9 H9
          show mu_W _ mu_m434 (54, [(5, .inl (nI q)), (4, .inl (nI k)), (3, .inr (.inr (some (D.ip j)))), (2, .inr (.inr (some nb))), (0, .inr (.inr (some 169)))], [], H) _
          refine mw_go mu_g434 (k := 2) (f1 := (58, [(5, .inl (nI q)), (4, .inl (nI k)), (3, .inr (.inr (some (D.ip j)))), (2, .inr (.inr (some nb))), (0, .inr (.inr (some 169)))], [.inr (.inr (mu_r H (D.ip j) 4))], H)) (C := [mu_is H (some (D.ip j)) 15]) rfl (show mu_is H (some (D.ip j)) 15 from ia1) ?_
          refine mw_fr (f' := (58, [(5, .inl (nI q)), (4, .inl (nI k)), (3, .inr (.inr (some (D.ip j)))), (2, .inr (.inr (some nb))), (0, .inr (.inr (some 169)))], [.inr (.inr (some (D.ii j)))], H)) (by first | (rw [ii1]; done) | (rw [ii1]; rfl)) ?_
          refine mw_go mu_g434 (k := 2) (f1 := (61, [(5, .inl (nI q)), (4, .inl (nI k)), (3, .inr (.inr (some (D.ip j)))), (2, .inr (.inr (some nb))), (0, .inr (.inr (some 169)))], [.inr (.inr (mu_r H (D.ii j) (nI q).toNatClampNeg))], H)) (C := [mu_is H (some (D.ii j)) (mu_k H (D.ii j)), 103 ≤ mu_k H (D.ii j) ∧ mu_k H (D.ii j) ≤ 110 ∧ mu_k H (D.ii j) ≠ 108, vp_in (nI q) (mu_n H (D.ii j))]) rfl (show (mu_is H (some (D.ii j)) (mu_k H (D.ii j))) ∧ (103 ≤ mu_k H (D.ii j) ∧ mu_k H (D.ii j) ≤ 110 ∧ mu_k H (D.ii j) ≠ 108) ∧ (vp_in (nI q) (mu_n H (D.ii j))) from ⟨g1, g2, g3⟩) ?_
          refine mw_fr (f' := (61, [(5, .inl (nI q)), (4, .inl (nI k)), (3, .inr (.inr (some (D.ip j)))), (2, .inr (.inr (some nb))), (0, .inr (.inr (some 169)))], [.inr (.inr (some (D.ip i)))], H)) (by first | (rw [gx]; done) | (rw [gx]; rfl)) ?_
          refine mw_go mu_g434 (k := 3) (f1 := (5, [(4, .inl ((nI k) + 1)), (3, .inr (.inr (some (D.ip i)))), (5, .inl (nI q)), (2, .inr (.inr (some nb))), (0, .inr (.inr (some 169)))], [], H)) (C := []) rfl trivial ?_
          refine mw_sub (L' := [(4, .inl (nI (k + 1))), (3, .inr (.inr (some (D.ip i)))), (2, .inr (.inr (some nb))), (0, .inr (.inr (some 169)))]) (by intro x hx; simp only [List.mem_cons, List.not_mem_nil, or_false] at hx ⊢; rcases hx with rfl | rfl | rfl | rfl <;> simp [nI_add, show (1 : Int32) = nI 1 from rfl]) ?_
          exact rp_fd1 hr hbi hbs hthr hfin m_ (k + 1) i (by omega) hin hpe
