/-! The reference: find, from the INSTANCE on -/
theorem rp_fd2 {d lv r mp n en nb : Nat} {H : mu_H} {F : Nat → Prop} {ms : List Mdl} {loc : Nat → Nat} {Iv : Nat → Ins} {pr : Nat → List (Tre × Nat)} {ns : List (List Int32)} {Φ : mu_R → Prop} (hx : ims H F lv r ms mp loc n Iv pr en) (ht : rtx H F lv r ms) (hwf : ∀ i, i < ms.length → mdw (mth ms i)) (hlen : ∀ i, i < ms.length → (mth ms i).2.2.length < 2 ^ 31) (hbi : mu_is H (some nb) 103 ∧ mu_n H nb = ns.length ∧ ns.length ≤ 65536) (hbs : ∀ i, i < ns.length → ∃ s, mu_r H nb i = some s ∧ stf H F s (ns.getD i [])) {j : Nat} (hj : j < n) (hns : 0 < ns.length) (hnx : ∀ s, stf H F s (ns.getD (ns.length - 1) []) → mu_W (mu_D (d + 5)) mu_m434 (94, [(5, .inl (oI (if ns.length = 1 then fpm (mth ms (Iv j).1).2.1 (ns.getD (ns.length - 1) []) else none))), (4, .inr (.inr (some s))), (3, .inr (.inr (some (loc (9 + 4 * j))))), (2, .inr (.inr (some nb))), (0, .inr (.inr (some 169)))], [], H) Φ) : mu_W (mu_D (d + 5)) mu_m434 (68, [(3, .inr (.inr (some (loc (9 + 4 * j))))), (2, .inr (.inr (some nb))), (0, .inr (.inr (some 169)))], [], H) Φ := by
  have if0 := hx.2.2.2.2.1 j hj
  have hmi := if0.2.1.1
  obtain ⟨m, mr, md⟩ := ht.2.2.2.2.1 (Iv j).1 hmi
  have md : mdf H F lv m (mth ms (Iv j).1) := md
  have i0 : mu_r H (loc (9 + 4 * j)) 0 = some m := if0.2.1.2.trans mr
  have hl31 := hlen _ hmi
  obtain ⟨s, sr, sf⟩ := hbs (ns.length - 1) (by omega)
  obtain ⟨c1, c2, c3, c4⟩ := ar_at (i := ns.length - 1) hbi.1 (by decide) (by rw [hbi.2.1]; omega) (by rw [hbi.2.1]; omega)
  have sx : mu_r H nb (nI (ns.length - 1)).toNatClampNeg = some s := by rw [c4]; exact sr
  have e1 : Int32.ofNat ns.length - (1 : Int32) = nI (ns.length - 1) := by
    have e : nI (ns.length - 1) + (1 : Int32) = nI ns.length := by rw [show (1 : Int32) = nI 1 from rfl, nI_add, show ns.length - 1 + 1 = ns.length by omega]
    show nI ns.length - 1 = _
    rw [← e, Int32.add_sub_cancel]
  refine mw_go mu_g434 (k := 3) (f1 := (71, [(3, .inr (.inr (some (loc (9 + 4 * j))))), (2, .inr (.inr (some nb))), (0, .inr (.inr (some 169)))], [.inl (Int32.ofNat (mu_n H nb)), .inr (.inr (some nb))], H)) (C := [mu_isr H (some nb) (mu_k H nb), 100 ≤ mu_k H nb]) rfl (show (mu_isr H (some nb) (mu_k H nb)) ∧ (100 ≤ mu_k H nb) from ⟨⟨rfl, Or.inl hbi.1.2.1, rfl⟩, (by rw [show mu_k H nb = 103 from hbi.1.2.2]; decide)⟩) ?_
  refine mw_fr (f' := (71, [(3, .inr (.inr (some (loc (9 + 4 * j))))), (2, .inr (.inr (some nb))), (0, .inr (.inr (some 169)))], [.inl (Int32.ofNat ns.length), .inr (.inr (some nb))], H)) (by first | (rw [hbi.2.1]; done) | (rw [hbi.2.1]; rfl)) ?_
  refine mw_go mu_g434 (k := 2) (f1 := (73, [(3, .inr (.inr (some (loc (9 + 4 * j))))), (2, .inr (.inr (some nb))), (0, .inr (.inr (some 169)))], [.inl ((Int32.ofNat ns.length) - (1 : Int32)), .inr (.inr (some nb))], H)) (C := []) rfl trivial ?_
  refine mw_fr (f' := (73, [(3, .inr (.inr (some (loc (9 + 4 * j))))), (2, .inr (.inr (some nb))), (0, .inr (.inr (some 169)))], [.inl (nI (ns.length - 1)), .inr (.inr (some nb))], H)) (by first | (rw [e1]; done) | (rw [e1]; rfl)) ?_
  refine mw_go mu_g434 (k := 1) (f1 := (74, [(3, .inr (.inr (some (loc (9 + 4 * j))))), (2, .inr (.inr (some nb))), (0, .inr (.inr (some 169)))], [.inr (.inr (mu_r H nb (nI (ns.length - 1)).toNatClampNeg))], H)) (C := [mu_is H (some nb) (mu_k H nb), 103 ≤ mu_k H nb ∧ mu_k H nb ≤ 110 ∧ mu_k H nb ≠ 108, vp_in (nI (ns.length - 1)) (mu_n H nb)]) rfl (show (mu_is H (some nb) (mu_k H nb)) ∧ (103 ≤ mu_k H nb ∧ mu_k H nb ≤ 110 ∧ mu_k H nb ≠ 108) ∧ (vp_in (nI (ns.length - 1)) (mu_n H nb)) from ⟨⟨rfl, hbi.1.2.1, rfl⟩, c2, c3⟩) ?_
  refine mw_fr (f' := (74, [(3, .inr (.inr (some (loc (9 + 4 * j))))), (2, .inr (.inr (some nb))), (0, .inr (.inr (some 169)))], [.inr (.inr (some s))], H)) (by first | (rw [sx]; done) | (rw [sx]; rfl)) ?_
  refine mw_go mu_g434 (k := 3) (f1 := (78, [(4, .inr (.inr (some s))), (3, .inr (.inr (some (loc (9 + 4 * j))))), (2, .inr (.inr (some nb))), (0, .inr (.inr (some 169)))], [.inl (Int32.ofNat (mu_n H nb))], H)) (C := [mu_isr H (some nb) (mu_k H nb), 100 ≤ mu_k H nb]) rfl (show (mu_isr H (some nb) (mu_k H nb)) ∧ (100 ≤ mu_k H nb) from ⟨⟨rfl, Or.inl hbi.1.2.1, rfl⟩, (by rw [show mu_k H nb = 103 from hbi.1.2.2]; decide)⟩) ?_
  refine mw_fr (f' := (78, [(4, .inr (.inr (some s))), (3, .inr (.inr (some (loc (9 + 4 * j))))), (2, .inr (.inr (some nb))), (0, .inr (.inr (some 169)))], [.inl (Int32.ofNat ns.length)], H)) (by first | (rw [hbi.2.1]; done) | (rw [hbi.2.1]; rfl)) ?_
  refine mw_go mu_g434 (k := 1) (f1 := (79, [(4, .inr (.inr (some s))), (3, .inr (.inr (some (loc (9 + 4 * j))))), (2, .inr (.inr (some nb))), (0, .inr (.inr (some 169)))], [.inl (1 : Int32), .inl (Int32.ofNat ns.length)], H)) (C := []) rfl trivial ?_
  refine mw_if (P := (Int32.ofNat ns.length) = (1 : Int32)) (a := 82) (b := 91) (fun _ => rfl) trivial (fun h1 => ?_) (fun h1 => ?_)
  · -- 82
    have hl1 : ns.length = 1 := nI_is (x := (1 : Int32)) (by omega) (show nI ns.length = 1 from h1) (by decide)
    refine mw_go mu_g434 (k := 2) (f1 := (85, [(4, .inr (.inr (some s))), (3, .inr (.inr (some (loc (9 + 4 * j))))), (2, .inr (.inr (some nb))), (0, .inr (.inr (some 169)))], [.inr (.inr (some s)), .inr (.inr (some (loc (9 + 4 * j))))], H)) (C := []) rfl trivial ?_
    refine mw_cIe (fun _ => rfl) (show mu_is H (some (loc (9 + 4 * j))) 15 from if0.1) (rp_param (d := d + 1) if0.1 i0 md (hwf _ hmi).1 sf) ?_
    refine mw_go mu_g434 (k := 2) (f1 := (94, [(5, .inl (oI (fpm (mth ms (Iv j).1).2.1 (ns.getD (ns.length - 1) [])))), (4, .inr (.inr (some s))), (3, .inr (.inr (some (loc (9 + 4 * j))))), (2, .inr (.inr (some nb))), (0, .inr (.inr (some 169)))], [], H)) (C := []) rfl trivial ?_
    refine mw_sub (L' := [(5, .inl (oI (fpm (mth ms (Iv j).1).2.1 (ns.getD (ns.length - 1) [])))), (4, .inr (.inr (some s))), (3, .inr (.inr (some (loc (9 + 4 * j))))), (2, .inr (.inr (some nb))), (0, .inr (.inr (some 169)))]) (by simp) ?_
    have z := hnx s sf
    rw [if_pos hl1] at z
    exact z
  · -- 91
    have hl1 : ¬ ns.length = 1 := fun w => h1 (by rw [w]; rfl)
    refine mw_go mu_g434 (k := 2) (f1 := (94, [(5, .inl (-1 : Int32)), (4, .inr (.inr (some s))), (3, .inr (.inr (some (loc (9 + 4 * j))))), (2, .inr (.inr (some nb))), (0, .inr (.inr (some 169)))], [], H)) (C := []) rfl trivial ?_
    refine mw_sub (L' := [(5, .inl (oI none)), (4, .inr (.inr (some s))), (3, .inr (.inr (some (loc (9 + 4 * j))))), (2, .inr (.inr (some nb))), (0, .inr (.inr (some 169)))]) (by simp [oI]) ?_
    have z := hnx s sf
    rw [if_neg hl1] at z
    exact z
