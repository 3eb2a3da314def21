/-! The reference: find, from the INSTANCE on -/
theorem rp_fd2 {d nb : Nat} {Hb H : mu_H} {D : MD} {ns : List (List Int32)} {Φ : mu_R → Prop} (hr : rms Hb D H) (hbi : mu_is H (some nb) 103 ∧ mu_n H nb = ns.length ∧ ns.length ≤ 65536) (hbs : ∀ i, i < ns.length → ∃ s, mu_r H nb i = some s ∧ stf H D.G s (ns.getD i [])) {j : Nat} (hj : j < D.n) (hns : 0 < ns.length) (hnx : ∀ s, stf H D.G s (ns.getD (ns.length - 1) []) → mu_W (mu_D (d + 5)) mu_m434 (94, [(5, .inl (oI (if ns.length = 1 then fpm (D.md j).2.1 (ns.getD (ns.length - 1) []) else none))), (4, .inr (.inr (some s))), (3, .inr (.inr (some (D.ip j)))), (2, .inr (.inr (some nb))), (0, .inr (.inr (some 169)))], [], H) Φ) : mu_W (mu_D (d + 5)) mu_m434 (68, [(3, .inr (.inr (some (D.ip j)))), (2, .inr (.inr (some nb))), (0, .inr (.inr (some 169)))], [], H) Φ := by
  obtain ⟨ia1, ⟨m, im1, id1⟩, ig1, ⟨iv1, ii1, if1⟩, vz1, nz1, dz1, wf1, w31_1⟩ := hr.ins hj
  obtain ⟨s, sr, sf⟩ := hbs (ns.length - 1) (by omega)
  obtain ⟨c1, c2, c3, c4⟩ := ar_at (i := ns.length - 1) hbi.1 (by decide) (by rw [hbi.2.1]; omega) (by rw [hbi.2.1]; omega)
  have sx : mu_r H nb (nI (ns.length - 1)).toNatClampNeg = some s := by rw [c4]; exact sr
  have e1 : Int32.ofNat ns.length - (1 : Int32) = nI (ns.length - 1) := by
    have e : nI (ns.length - 1) + (1 : Int32) = nI ns.length := by rw [show (1 : Int32) = nI 1 from rfl, nI_add, show ns.length - 1 + 1 = ns.length by omega]
    show nI ns.length - 1 = _
    rw [← e, Int32.add_sub_cancel]
  refine mw_go mu_g434 (k := 3) (f1 := (71, [(3, .inr (.inr (some (D.ip j)))), (2, .inr (.inr (some nb))), (0, .inr (.inr (some 169)))], [.inl (Int32.ofNat (mu_n H nb)), .inr (.inr (some nb))], H)) (C := [mu_isr H (some nb) (mu_k H nb), 100 ≤ mu_k H nb]) rfl (show (mu_isr H (some nb) (mu_k H nb)) ∧ (100 ≤ mu_k H nb) from ⟨⟨rfl, Or.inl hbi.1.2.1, rfl⟩, (by rw [show mu_k H nb = 103 from hbi.1.2.2]; decide)⟩) ?_
  refine mw_fr (f' := (71, [(3, .inr (.inr (some (D.ip j)))), (2, .inr (.inr (some nb))), (0, .inr (.inr (some 169)))], [.inl (Int32.ofNat ns.length), .inr (.inr (some nb))], H)) (by first | (rw [hbi.2.1]; done) | (rw [hbi.2.1]; rfl)) ?_
  refine mw_go mu_g434 (k := 2) (f1 := (73, [(3, .inr (.inr (some (D.ip j)))), (2, .inr (.inr (some nb))), (0, .inr (.inr (some 169)))], [.inl ((Int32.ofNat ns.length) - (1 : Int32)), .inr (.inr (some nb))], H)) (C := []) rfl trivial ?_
  refine mw_fr (f' := (73, [(3, .inr (.inr (some (D.ip j)))), (2, .inr (.inr (some nb))), (0, .inr (.inr (some 169)))], [.inl (nI (ns.length - 1)), .inr (.inr (some nb))], H)) (by first | (rw [e1]; done) | (rw [e1]; rfl)) ?_
  refine mw_go mu_g434 (k := 1) (f1 := (74, [(3, .inr (.inr (some (D.ip j)))), (2, .inr (.inr (some nb))), (0, .inr (.inr (some 169)))], [.inr (.inr (mu_r H nb (nI (ns.length - 1)).toNatClampNeg))], H)) (C := [mu_is H (some nb) (mu_k H nb), 103 ≤ mu_k H nb ∧ mu_k H nb ≤ 110 ∧ mu_k H nb ≠ 108, vp_in (nI (ns.length - 1)) (mu_n H nb)]) rfl (show (mu_is H (some nb) (mu_k H nb)) ∧ (103 ≤ mu_k H nb ∧ mu_k H nb ≤ 110 ∧ mu_k H nb ≠ 108) ∧ (vp_in (nI (ns.length - 1)) (mu_n H nb)) from ⟨⟨rfl, hbi.1.2.1, rfl⟩, c2, c3⟩) ?_
  refine mw_fr (f' := (74, [(3, .inr (.inr (some (D.ip j)))), (2, .inr (.inr (some nb))), (0, .inr (.inr (some 169)))], [.inr (.inr (some s))], H)) (by first | (rw [sx]; done) | (rw [sx]; rfl)) ?_
  refine mw_go mu_g434 (k := 3) (f1 := (78, [(4, .inr (.inr (some s))), (3, .inr (.inr (some (D.ip j)))), (2, .inr (.inr (some nb))), (0, .inr (.inr (some 169)))], [.inl (Int32.ofNat (mu_n H nb))], H)) (C := [mu_isr H (some nb) (mu_k H nb), 100 ≤ mu_k H nb]) rfl (show (mu_isr H (some nb) (mu_k H nb)) ∧ (100 ≤ mu_k H nb) from ⟨⟨rfl, Or.inl hbi.1.2.1, rfl⟩, (by rw [show mu_k H nb = 103 from hbi.1.2.2]; decide)⟩) ?_
  refine mw_fr (f' := (78, [(4, .inr (.inr (some s))), (3, .inr (.inr (some (D.ip j)))), (2, .inr (.inr (some nb))), (0, .inr (.inr (some 169)))], [.inl (Int32.ofNat ns.length)], H)) (by first | (rw [hbi.2.1]; done) | (rw [hbi.2.1]; rfl)) ?_
  refine mw_go mu_g434 (k := 1) (f1 := (79, [(4, .inr (.inr (some s))), (3, .inr (.inr (some (D.ip j)))), (2, .inr (.inr (some nb))), (0, .inr (.inr (some 169)))], [.inl (1 : Int32), .inl (Int32.ofNat ns.length)], H)) (C := []) rfl trivial ?_
  refine mw_if (P := (Int32.ofNat ns.length) = (1 : Int32)) (a := 82) (b := 91) (fun _ => rfl) trivial (fun h1 => ?_) (fun h1 => ?_)
  · -- 82
    have hl1 : ns.length = 1 := nI_is (x := (1 : Int32)) (by omega) (show nI ns.length = 1 from h1) (by decide)
    refine mw_go mu_g434 (k := 2) (f1 := (85, [(4, .inr (.inr (some s))), (3, .inr (.inr (some (D.ip j)))), (2, .inr (.inr (some nb))), (0, .inr (.inr (some 169)))], [.inr (.inr (some s)), .inr (.inr (some (D.ip j)))], H)) (C := []) rfl trivial ?_
    refine mw_cIe (fun _ => rfl) (show mu_is H (some (D.ip j)) 15 from ia1) (rq_param (d := d + 1) hr.2.1 ia1 im1 id1 wf1.1 sf) ?_
    refine mw_go mu_g434 (k := 2) (f1 := (94, [(5, .inl (oI (fpm (D.md j).2.1 (ns.getD (ns.length - 1) [])))), (4, .inr (.inr (some s))), (3, .inr (.inr (some (D.ip j)))), (2, .inr (.inr (some nb))), (0, .inr (.inr (some 169)))], [], H)) (C := []) rfl trivial ?_
    refine mw_sub (L' := [(5, .inl (oI (fpm (D.md j).2.1 (ns.getD (ns.length - 1) [])))), (4, .inr (.inr (some s))), (3, .inr (.inr (some (D.ip j)))), (2, .inr (.inr (some nb))), (0, .inr (.inr (some 169)))]) (by simp) ?_
    have z := hnx s sf
    rw [if_pos hl1] at z
    exact z
  · -- 91
    have hl1 : ¬ ns.length = 1 := fun w => h1 (by rw [w]; rfl)
    refine mw_go mu_g434 (k := 2) (f1 := (94, [(5, .inl (-1 : Int32)), (4, .inr (.inr (some s))), (3, .inr (.inr (some (D.ip j)))), (2, .inr (.inr (some nb))), (0, .inr (.inr (some 169)))], [], H)) (C := []) rfl trivial ?_
    refine mw_sub (L' := [(5, .inl (oI none)), (4, .inr (.inr (some s))), (3, .inr (.inr (some (D.ip j)))), (2, .inr (.inr (some nb))), (0, .inr (.inr (some 169)))]) (by simp [oI]) ?_
    have z := hnx s sf
    rw [if_neg hl1] at z
    exact z
def fvV (x : Ins) : Option Nat → Int32
  | none => -1
  | some q => x.2.2.1 q
theorem rp_fd3 {d nb : Nat} {Hb H : mu_H} {D : MD} {ns : List (List Int32)} {Φ : mu_R → Prop} (hr : rms Hb D H) (hbi : mu_is H (some nb) 103 ∧ mu_n H nb = ns.length ∧ ns.length ≤ 65536) (hbs : ∀ i, i < ns.length → ∃ s, mu_r H nb i = some s ∧ stf H D.G s (ns.getD i [])) {j : Nat} (hj : j < D.n) (hns : 0 < ns.length) {s : Nat} {P : Option Nat} (sf : stf H D.G s (ns.getD (ns.length - 1) [])) (hnx : mu_W (mu_D (d + 5)) mu_m434 (147, [(7, .inl (oI (fnd (D.md j).2.2 73 (ns.getD (ns.length - 1) [])))), (6, .inl (oI (fnd (D.md j).2.2 74 (ns.getD (ns.length - 1) [])))), (5, .inl (oI P)), (4, .inr (.inr (some s))), (3, .inr (.inr (some (D.ip j)))), (2, .inr (.inr (some nb))), (0, .inr (.inr (some 169)))], [], (mu_si (mu_si H 169 19 (fvV (D.Iv j) (fnd (D.md j).2.2 73 (ns.getD (ns.length - 1) [])))) 169 20 (-1))) Φ) : mu_W (mu_D (d + 5)) mu_m434 (94, [(5, .inl (oI P)), (4, .inr (.inr (some s))), (3, .inr (.inr (some (D.ip j)))), (2, .inr (.inr (some nb))), (0, .inr (.inr (some 169)))], [], H) Φ := by
  obtain ⟨ia1, ⟨m, im1, id1⟩, ig1, ⟨iv1, ii1, if1⟩, vz1, nz1, dz1, wf1, w31_1⟩ := hr.ins hj
  refine mw_go mu_g434 (k := 2) (f1 := (98, [(5, .inl (oI P)), (4, .inr (.inr (some s))), (3, .inr (.inr (some (D.ip j)))), (2, .inr (.inr (some nb))), (0, .inr (.inr (some 169)))], [.inr (.inr (mu_r H (D.ip j) 0))], H)) (C := [mu_is H (some (D.ip j)) 15]) rfl (show mu_is H (some (D.ip j)) 15 from ia1) ?_
  refine mw_fr (f' := (98, [(5, .inl (oI P)), (4, .inr (.inr (some s))), (3, .inr (.inr (some (D.ip j)))), (2, .inr (.inr (some nb))), (0, .inr (.inr (some 169)))], [.inr (.inr (some m))], H)) (by first | (rw [im1]; done) | (rw [im1]; rfl)) ?_
  refine mw_go mu_g434 (k := 2) (f1 := (103, [(5, .inl (oI P)), (4, .inr (.inr (some s))), (3, .inr (.inr (some (D.ip j)))), (2, .inr (.inr (some nb))), (0, .inr (.inr (some 169)))], [.inr (.inr (some s)), .inr (.inr (some 1000074)), .inr (.inr (some m))], H)) (C := []) rfl trivial ?_
  refine mw_cIe (fun _ => rfl) trivial (rq_find (d := d + 1) (j := 74) hr.2.1 id1 wf1.2 sf (by decide)) ?_
  refine mw_go mu_g434 (k := 3) (f1 := (112, [(6, .inl (oI (fnd (D.md j).2.2 74 (ns.getD (ns.length - 1) [])))), (5, .inl (oI P)), (4, .inr (.inr (some s))), (3, .inr (.inr (some (D.ip j)))), (2, .inr (.inr (some nb))), (0, .inr (.inr (some 169)))], [.inr (.inr (mu_r H (D.ip j) 0))], H)) (C := [mu_is H (some (D.ip j)) 15]) rfl (show mu_is H (some (D.ip j)) 15 from ia1) ?_
  refine mw_fr (f' := (112, [(6, .inl (oI (fnd (D.md j).2.2 74 (ns.getD (ns.length - 1) [])))), (5, .inl (oI P)), (4, .inr (.inr (some s))), (3, .inr (.inr (some (D.ip j)))), (2, .inr (.inr (some nb))), (0, .inr (.inr (some 169)))], [.inr (.inr (some m))], H)) (by first | (rw [im1]; done) | (rw [im1]; rfl)) ?_
  refine mw_go mu_g434 (k := 2) (f1 := (117, [(6, .inl (oI (fnd (D.md j).2.2 74 (ns.getD (ns.length - 1) [])))), (5, .inl (oI P)), (4, .inr (.inr (some s))), (3, .inr (.inr (some (D.ip j)))), (2, .inr (.inr (some nb))), (0, .inr (.inr (some 169)))], [.inr (.inr (some s)), .inr (.inr (some 1000073)), .inr (.inr (some m))], H)) (C := []) rfl trivial ?_
  refine mw_cIe (fun _ => rfl) trivial (rq_find (d := d + 1) (j := 73) hr.2.1 id1 wf1.2 sf (by decide)) ?_
  cases hv : (fnd (D.md j).2.2 73 (ns.getD (ns.length - 1) [])) with
  | none =>
    show mu_W _ mu_m434 (120, [(6, .inl (oI (fnd (D.md j).2.2 74 (ns.getD (ns.length - 1) [])))), (5, .inl (oI P)), (4, .inr (.inr (some s))), (3, .inr (.inr (some (D.ip j)))), (2, .inr (.inr (some nb))), (0, .inr (.inr (some 169)))], [.inl (-1 : Int32)], H) _
    refine mw_go mu_g434 (k := 3) (f1 := (125, [(7, .inl (-1 : Int32)), (6, .inl (oI (fnd (D.md j).2.2 74 (ns.getD (ns.length - 1) [])))), (5, .inl (oI P)), (4, .inr (.inr (some s))), (3, .inr (.inr (some (D.ip j)))), (2, .inr (.inr (some nb))), (0, .inr (.inr (some 169)))], [.inl (-1 : Int32), .inr (.inr (some 169))], H)) (C := []) rfl trivial ?_
    refine mw_if (P := (-1 : Int32) < 0) (a := 138) (b := 128) (fun _ => rfl) trivial (fun h2 => ?_) (fun h2 => absurd (show (-1 : Int32) < 0 by decide) h2)
    · -- 138
      refine mw_go mu_g434 (k := 5) (f1 := (147, [(7, .inl (-1 : Int32)), (6, .inl (oI (fnd (D.md j).2.2 74 (ns.getD (ns.length - 1) [])))), (5, .inl (oI P)), (4, .inr (.inr (some s))), (3, .inr (.inr (some (D.ip j)))), (2, .inr (.inr (some nb))), (0, .inr (.inr (some 169)))], [], (mu_si (mu_si H 169 19 (-1 : Int32)) 169 20 (-1 : Int32)))) (C := [mu_is H (some 169) 1, mu_is H (some 169) 1]) rfl (show (mu_is H (some 169) 1) ∧ (mu_is H (some 169) 1) from ⟨hr.2.2.1.1, hr.2.2.1.1⟩) ?_
      refine mw_sub (L' := [(7, .inl (oI none)), (6, .inl (oI (fnd (D.md j).2.2 74 (ns.getD (ns.length - 1) [])))), (5, .inl (oI P)), (4, .inr (.inr (some s))), (3, .inr (.inr (some (D.ip j)))), (2, .inr (.inr (some nb))), (0, .inr (.inr (some 169)))]) (by simp [oI]) ?_
      rw [hv] at hnx
      exact hnx
  | some q =>
    have fq := fio_some _ _ _ hv
    have hq : q < (D.md j).2.2.length := by omega
    have gx : mu_i H (D.iv j) (nI q).toNatClampNeg = (D.Iv j).2.2.1 q := by rw [nI_clamp (show q < 2 ^ 31 by omega)]; exact vz1.2.2 q hq
    have gi : vp_in (nI q) (mu_n H (D.iv j)) := by rw [vz1.2.1]; exact vp_in_nI hq (by omega)
    show mu_W _ mu_m434 (120, [(6, .inl (oI (fnd (D.md j).2.2 74 (ns.getD (ns.length - 1) [])))), (5, .inl (oI P)), (4, .inr (.inr (some s))), (3, .inr (.inr (some (D.ip j)))), (2, .inr (.inr (some nb))), (0, .inr (.inr (some 169)))], [.inl (nI q)], H) _
    refine mw_go mu_g434 (k := 3) (f1 := (125, [(7, .inl (nI q)), (6, .inl (oI (fnd (D.md j).2.2 74 (ns.getD (ns.length - 1) [])))), (5, .inl (oI P)), (4, .inr (.inr (some s))), (3, .inr (.inr (some (D.ip j)))), (2, .inr (.inr (some nb))), (0, .inr (.inr (some 169)))], [.inl (nI q), .inr (.inr (some 169))], H)) (C := []) rfl trivial ?_
    refine mw_if (P := (nI q) < 0) (a := 138) (b := 128) (fun _ => rfl) trivial (fun h2 => absurd h2 (nI_nn (by omega))) (fun h2 => ?_)
    · -- 128
      refine mw_go mu_g434 (k := 2) (f1 := (132, [(7, .inl (nI q)), (6, .inl (oI (fnd (D.md j).2.2 74 (ns.getD (ns.length - 1) [])))), (5, .inl (oI P)), (4, .inr (.inr (some s))), (3, .inr (.inr (some (D.ip j)))), (2, .inr (.inr (some nb))), (0, .inr (.inr (some 169)))], [.inr (.inr (mu_r H (D.ip j) 3)), .inr (.inr (some 169))], H)) (C := [mu_is H (some (D.ip j)) 15]) rfl (show mu_is H (some (D.ip j)) 15 from ia1) ?_
      refine mw_fr (f' := (132, [(7, .inl (nI q)), (6, .inl (oI (fnd (D.md j).2.2 74 (ns.getD (ns.length - 1) [])))), (5, .inl (oI P)), (4, .inr (.inr (some s))), (3, .inr (.inr (some (D.ip j)))), (2, .inr (.inr (some nb))), (0, .inr (.inr (some 169)))], [.inr (.inr (some (D.iv j))), .inr (.inr (some 169))], H)) (by first | (rw [iv1]; done) | (rw [iv1]; rfl)) ?_
      refine mw_go mu_g434 (k := 2) (f1 := (135, [(7, .inl (nI q)), (6, .inl (oI (fnd (D.md j).2.2 74 (ns.getD (ns.length - 1) [])))), (5, .inl (oI P)), (4, .inr (.inr (some s))), (3, .inr (.inr (some (D.ip j)))), (2, .inr (.inr (some nb))), (0, .inr (.inr (some 169)))], [.inl (mu_i H (D.iv j) (nI q).toNatClampNeg), .inr (.inr (some 169))], H)) (C := [mu_isr H (some (D.iv j)) 100, vp_in (nI q) (mu_n H (D.iv j))]) rfl (show (mu_isr H (some (D.iv j)) 100) ∧ (vp_in (nI q) (mu_n H (D.iv j))) from ⟨vz1.1.r, gi⟩) ?_
      refine mw_fr (f' := (135, [(7, .inl (nI q)), (6, .inl (oI (fnd (D.md j).2.2 74 (ns.getD (ns.length - 1) [])))), (5, .inl (oI P)), (4, .inr (.inr (some s))), (3, .inr (.inr (some (D.ip j)))), (2, .inr (.inr (some nb))), (0, .inr (.inr (some 169)))], [.inl ((D.Iv j).2.2.1 q), .inr (.inr (some 169))], H)) (by first | (rw [gx]; done) | (rw [gx]; rfl)) ?_
      refine mw_go mu_g434 (k := 5) (f1 := (147, [(7, .inl (nI q)), (6, .inl (oI (fnd (D.md j).2.2 74 (ns.getD (ns.length - 1) [])))), (5, .inl (oI P)), (4, .inr (.inr (some s))), (3, .inr (.inr (some (D.ip j)))), (2, .inr (.inr (some nb))), (0, .inr (.inr (some 169)))], [], (mu_si (mu_si H 169 19 ((D.Iv j).2.2.1 q)) 169 20 (-1 : Int32)))) (C := [mu_is H (some 169) 1, mu_is H (some 169) 1]) rfl (show (mu_is H (some 169) 1) ∧ (mu_is H (some 169) 1) from ⟨hr.2.2.1.1, hr.2.2.1.1⟩) ?_
      refine mw_sub (L' := [(7, .inl (oI (some q))), (6, .inl (oI (fnd (D.md j).2.2 74 (ns.getD (ns.length - 1) [])))), (5, .inl (oI P)), (4, .inr (.inr (some s))), (3, .inr (.inr (some (D.ip j)))), (2, .inr (.inr (some nb))), (0, .inr (.inr (some 169)))]) (by simp [oI]) ?_
      rw [hv] at hnx
      exact hnx
