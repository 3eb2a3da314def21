/-! The reference: find, VARIABLEs -/
def fvV (x : Ins) : Option Nat → Int32
  | none => -1
  | some q => x.2.2.1 q
theorem rp_fd3 {d lv r mp n en nb : Nat} {H : mu_H} {F : Nat → Prop} {ms : List Mdl} {loc : Nat → Nat} {Iv : Nat → Ins} {pr : Nat → List (Tre × Nat)} {ns : List (List Int32)} {Φ : mu_R → Prop} (hx : ims H F lv r ms mp loc n Iv pr en) (ht : rtx H F lv r ms) (hwf : ∀ i, i < ms.length → mdw (mth ms i)) (hlen : ∀ i, i < ms.length → (mth ms i).2.2.length < 2 ^ 31) (hbi : mu_is H (some nb) 103 ∧ mu_n H nb = ns.length ∧ ns.length ≤ 65536) (hbs : ∀ i, i < ns.length → ∃ s, mu_r H nb i = some s ∧ stf H F s (ns.getD i [])) {j : Nat} (hj : j < n) (hns : 0 < ns.length) {s : Nat} {P : Option Nat} (sf : stf H F s (ns.getD (ns.length - 1) [])) (hnx : mu_W (mu_D (d + 5)) mu_m434 (147, [(7, .inl (oI (fnd (mth ms (Iv j).1).2.2 73 (ns.getD (ns.length - 1) [])))), (6, .inl (oI (fnd (mth ms (Iv j).1).2.2 74 (ns.getD (ns.length - 1) [])))), (5, .inl (oI P)), (4, .inr (.inr (some s))), (3, .inr (.inr (some (loc (9 + 4 * j))))), (2, .inr (.inr (some nb))), (0, .inr (.inr (some 169)))], [], (mu_si (mu_si H 169 19 (fvV (Iv j) (fnd (mth ms (Iv j).1).2.2 73 (ns.getD (ns.length - 1) [])))) 169 20 (-1))) Φ) : mu_W (mu_D (d + 5)) mu_m434 (94, [(5, .inl (oI P)), (4, .inr (.inr (some s))), (3, .inr (.inr (some (loc (9 + 4 * j))))), (2, .inr (.inr (some nb))), (0, .inr (.inr (some 169)))], [], H) Φ := by
  have if0 := hx.2.2.2.2.1 j hj
  have hmi := if0.2.1.1
  obtain ⟨m, mr, md⟩ := ht.2.2.2.2.1 (Iv j).1 hmi
  have md : mdf H F lv m (mth ms (Iv j).1) := md
  have i0 : mu_r H (loc (9 + 4 * j)) 0 = some m := if0.2.1.2.trans mr
  have hl31 := hlen _ hmi
  have i3 : mu_r H (loc (9 + 4 * j)) 3 = some (loc (10 + 4 * j)) := if0.2.2.2.1.1
  have rV := if0.2.2.2.2.1
  refine mw_go mu_g434 (k := 2) (f1 := (98, [(5, .inl (oI P)), (4, .inr (.inr (some s))), (3, .inr (.inr (some (loc (9 + 4 * j))))), (2, .inr (.inr (some nb))), (0, .inr (.inr (some 169)))], [.inr (.inr (mu_r H (loc (9 + 4 * j)) 0))], H)) (C := [mu_is H (some (loc (9 + 4 * j))) 15]) rfl (show mu_is H (some (loc (9 + 4 * j))) 15 from if0.1) ?_
  refine mw_fr (f' := (98, [(5, .inl (oI P)), (4, .inr (.inr (some s))), (3, .inr (.inr (some (loc (9 + 4 * j))))), (2, .inr (.inr (some nb))), (0, .inr (.inr (some 169)))], [.inr (.inr (some m))], H)) (by first | (rw [i0]; done) | (rw [i0]; rfl)) ?_
  refine mw_go mu_g434 (k := 2) (f1 := (103, [(5, .inl (oI P)), (4, .inr (.inr (some s))), (3, .inr (.inr (some (loc (9 + 4 * j))))), (2, .inr (.inr (some nb))), (0, .inr (.inr (some 169)))], [.inr (.inr (some s)), .inr (.inr (some 1000074)), .inr (.inr (some m))], H)) (C := []) rfl trivial ?_
  refine mw_cIe (fun _ => rfl) trivial (rp_find (d := d + 1) (j := 74) md (hwf _ hmi).2 sf (by decide)) ?_
  refine mw_go mu_g434 (k := 3) (f1 := (112, [(6, .inl (oI (fnd (mth ms (Iv j).1).2.2 74 (ns.getD (ns.length - 1) [])))), (5, .inl (oI P)), (4, .inr (.inr (some s))), (3, .inr (.inr (some (loc (9 + 4 * j))))), (2, .inr (.inr (some nb))), (0, .inr (.inr (some 169)))], [.inr (.inr (mu_r H (loc (9 + 4 * j)) 0))], H)) (C := [mu_is H (some (loc (9 + 4 * j))) 15]) rfl (show mu_is H (some (loc (9 + 4 * j))) 15 from if0.1) ?_
  refine mw_fr (f' := (112, [(6, .inl (oI (fnd (mth ms (Iv j).1).2.2 74 (ns.getD (ns.length - 1) [])))), (5, .inl (oI P)), (4, .inr (.inr (some s))), (3, .inr (.inr (some (loc (9 + 4 * j))))), (2, .inr (.inr (some nb))), (0, .inr (.inr (some 169)))], [.inr (.inr (some m))], H)) (by first | (rw [i0]; done) | (rw [i0]; rfl)) ?_
  refine mw_go mu_g434 (k := 2) (f1 := (117, [(6, .inl (oI (fnd (mth ms (Iv j).1).2.2 74 (ns.getD (ns.length - 1) [])))), (5, .inl (oI P)), (4, .inr (.inr (some s))), (3, .inr (.inr (some (loc (9 + 4 * j))))), (2, .inr (.inr (some nb))), (0, .inr (.inr (some 169)))], [.inr (.inr (some s)), .inr (.inr (some 1000073)), .inr (.inr (some m))], H)) (C := []) rfl trivial ?_
  refine mw_cIe (fun _ => rfl) trivial (rp_find (d := d + 1) (j := 73) md (hwf _ hmi).2 sf (by decide)) ?_
  cases hv : (fnd (mth ms (Iv j).1).2.2 73 (ns.getD (ns.length - 1) [])) with
  | none =>
    show mu_W _ mu_m434 (120, [(6, .inl (oI (fnd (mth ms (Iv j).1).2.2 74 (ns.getD (ns.length - 1) [])))), (5, .inl (oI P)), (4, .inr (.inr (some s))), (3, .inr (.inr (some (loc (9 + 4 * j))))), (2, .inr (.inr (some nb))), (0, .inr (.inr (some 169)))], [.inl (-1 : Int32)], H) _
    refine mw_go mu_g434 (k := 3) (f1 := (125, [(7, .inl (-1 : Int32)), (6, .inl (oI (fnd (mth ms (Iv j).1).2.2 74 (ns.getD (ns.length - 1) [])))), (5, .inl (oI P)), (4, .inr (.inr (some s))), (3, .inr (.inr (some (loc (9 + 4 * j))))), (2, .inr (.inr (some nb))), (0, .inr (.inr (some 169)))], [.inl (-1 : Int32), .inr (.inr (some 169))], H)) (C := []) rfl trivial ?_
    refine mw_if (P := (-1 : Int32) < 0) (a := 138) (b := 128) (fun _ => rfl) trivial (fun h2 => ?_) (fun h2 => absurd (show (-1 : Int32) < 0 by decide) h2)
    · -- 138
      refine mw_go mu_g434 (k := 5) (f1 := (147, [(7, .inl (-1 : Int32)), (6, .inl (oI (fnd (mth ms (Iv j).1).2.2 74 (ns.getD (ns.length - 1) [])))), (5, .inl (oI P)), (4, .inr (.inr (some s))), (3, .inr (.inr (some (loc (9 + 4 * j))))), (2, .inr (.inr (some nb))), (0, .inr (.inr (some 169)))], [], (mu_si (mu_si H 169 19 (-1 : Int32)) 169 20 (-1 : Int32)))) (C := [mu_is H (some 169) 1, mu_is H (some 169) 1]) rfl (show (mu_is H (some 169) 1) ∧ (mu_is H (some 169) 1) from ⟨ht.2.2.2.2.2, ht.2.2.2.2.2⟩) ?_
      refine mw_sub (L' := [(7, .inl (oI none)), (6, .inl (oI (fnd (mth ms (Iv j).1).2.2 74 (ns.getD (ns.length - 1) [])))), (5, .inl (oI P)), (4, .inr (.inr (some s))), (3, .inr (.inr (some (loc (9 + 4 * j))))), (2, .inr (.inr (some nb))), (0, .inr (.inr (some 169)))]) (by simp [oI]) ?_
      rw [hv] at hnx
      exact hnx
  | some q =>
    have fq := fio_some _ _ _ hv
    have hq : q < (mth ms (Iv j).1).2.2.length := by omega
    have gx : mu_i H (loc (10 + 4 * j)) (nI q).toNatClampNeg = (Iv j).2.2.1 q := by rw [nI_clamp (show q < 2 ^ 31 by omega)]; exact rV.2.2 q hq
    have gi : vp_in (nI q) (mu_n H (loc (10 + 4 * j))) := by rw [rV.2.1]; exact vp_in_nI hq (by omega)
    show mu_W _ mu_m434 (120, [(6, .inl (oI (fnd (mth ms (Iv j).1).2.2 74 (ns.getD (ns.length - 1) [])))), (5, .inl (oI P)), (4, .inr (.inr (some s))), (3, .inr (.inr (some (loc (9 + 4 * j))))), (2, .inr (.inr (some nb))), (0, .inr (.inr (some 169)))], [.inl (nI q)], H) _
    refine mw_go mu_g434 (k := 3) (f1 := (125, [(7, .inl (nI q)), (6, .inl (oI (fnd (mth ms (Iv j).1).2.2 74 (ns.getD (ns.length - 1) [])))), (5, .inl (oI P)), (4, .inr (.inr (some s))), (3, .inr (.inr (some (loc (9 + 4 * j))))), (2, .inr (.inr (some nb))), (0, .inr (.inr (some 169)))], [.inl (nI q), .inr (.inr (some 169))], H)) (C := []) rfl trivial ?_
    refine mw_if (P := (nI q) < 0) (a := 138) (b := 128) (fun _ => rfl) trivial (fun h2 => absurd h2 (nI_nn (by omega))) (fun h2 => ?_)
    · -- 128
      refine mw_go mu_g434 (k := 2) (f1 := (132, [(7, .inl (nI q)), (6, .inl (oI (fnd (mth ms (Iv j).1).2.2 74 (ns.getD (ns.length - 1) [])))), (5, .inl (oI P)), (4, .inr (.inr (some s))), (3, .inr (.inr (some (loc (9 + 4 * j))))), (2, .inr (.inr (some nb))), (0, .inr (.inr (some 169)))], [.inr (.inr (mu_r H (loc (9 + 4 * j)) 3)), .inr (.inr (some 169))], H)) (C := [mu_is H (some (loc (9 + 4 * j))) 15]) rfl (show mu_is H (some (loc (9 + 4 * j))) 15 from if0.1) ?_
      refine mw_fr (f' := (132, [(7, .inl (nI q)), (6, .inl (oI (fnd (mth ms (Iv j).1).2.2 74 (ns.getD (ns.length - 1) [])))), (5, .inl (oI P)), (4, .inr (.inr (some s))), (3, .inr (.inr (some (loc (9 + 4 * j))))), (2, .inr (.inr (some nb))), (0, .inr (.inr (some 169)))], [.inr (.inr (some (loc (10 + 4 * j)))), .inr (.inr (some 169))], H)) (by first | (rw [i3]; done) | (rw [i3]; rfl)) ?_
      refine mw_go mu_g434 (k := 2) (f1 := (135, [(7, .inl (nI q)), (6, .inl (oI (fnd (mth ms (Iv j).1).2.2 74 (ns.getD (ns.length - 1) [])))), (5, .inl (oI P)), (4, .inr (.inr (some s))), (3, .inr (.inr (some (loc (9 + 4 * j))))), (2, .inr (.inr (some nb))), (0, .inr (.inr (some 169)))], [.inl (mu_i H (loc (10 + 4 * j)) (nI q).toNatClampNeg), .inr (.inr (some 169))], H)) (C := [mu_isr H (some (loc (10 + 4 * j))) 100, vp_in (nI q) (mu_n H (loc (10 + 4 * j)))]) rfl (show (mu_isr H (some (loc (10 + 4 * j))) 100) ∧ (vp_in (nI q) (mu_n H (loc (10 + 4 * j)))) from ⟨rV.1.r, gi⟩) ?_
      refine mw_fr (f' := (135, [(7, .inl (nI q)), (6, .inl (oI (fnd (mth ms (Iv j).1).2.2 74 (ns.getD (ns.length - 1) [])))), (5, .inl (oI P)), (4, .inr (.inr (some s))), (3, .inr (.inr (some (loc (9 + 4 * j))))), (2, .inr (.inr (some nb))), (0, .inr (.inr (some 169)))], [.inl ((Iv j).2.2.1 q), .inr (.inr (some 169))], H)) (by first | (rw [gx]; done) | (rw [gx]; rfl)) ?_
      refine mw_go mu_g434 (k := 5) (f1 := (147, [(7, .inl (nI q)), (6, .inl (oI (fnd (mth ms (Iv j).1).2.2 74 (ns.getD (ns.length - 1) [])))), (5, .inl (oI P)), (4, .inr (.inr (some s))), (3, .inr (.inr (some (loc (9 + 4 * j))))), (2, .inr (.inr (some nb))), (0, .inr (.inr (some 169)))], [], (mu_si (mu_si H 169 19 ((Iv j).2.2.1 q)) 169 20 (-1 : Int32)))) (C := [mu_is H (some 169) 1, mu_is H (some 169) 1]) rfl (show (mu_is H (some 169) 1) ∧ (mu_is H (some 169) 1) from ⟨ht.2.2.2.2.2, ht.2.2.2.2.2⟩) ?_
      refine mw_sub (L' := [(7, .inl (oI (some q))), (6, .inl (oI (fnd (mth ms (Iv j).1).2.2 74 (ns.getD (ns.length - 1) [])))), (5, .inl (oI P)), (4, .inr (.inr (some s))), (3, .inr (.inr (some (loc (9 + 4 * j))))), (2, .inr (.inr (some nb))), (0, .inr (.inr (some 169)))]) (by simp [oI]) ?_
      rw [hv] at hnx
      exact hnx
