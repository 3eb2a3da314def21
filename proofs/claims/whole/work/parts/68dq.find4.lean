/-! The reference: find, what stands for a name -/
def fvS (x : Ins) : Option Nat → Option Nat → Int32
  | some p, _ => nI x.2.1 + nI p
  | none, none => -1
  | none, some q => x.2.2.2.2 q
theorem rp_fd4 {d lv r mp n en nb : Nat} {H : mu_H} {F : Nat → Prop} {ms : List Mdl} {loc : Nat → Nat} {Iv : Nat → Ins} {pr : Nat → List (Tre × Nat)} {ns : List (List Int32)} {Φ : mu_R → Prop} (hx : ims H F lv r ms mp loc n Iv pr en) (ht : rtx H F lv r ms) (hwf : ∀ i, i < ms.length → mdw (mth ms i)) (hlen : ∀ i, i < ms.length → (mth ms i).2.2.length < 2 ^ 31) (hbi : mu_is H (some nb) 103 ∧ mu_n H nb = ns.length ∧ ns.length ≤ 65536) (hbs : ∀ i, i < ns.length → ∃ s, mu_r H nb i = some s ∧ stf H F s (ns.getD i [])) {j : Nat} (hj : j < n) (hns : 0 < ns.length) {s : Nat} {P D V : Option Nat} (hP : ∀ p, P = some p → p < 2 ^ 31) (hD : ∀ q, D = some q → q < (mth ms (Iv j).1).2.2.length) (hnx : mu_W (mu_D (d + 5)) mu_m434 (182, [(7, .inl (oI V)), (6, .inl (oI D)), (5, .inl (oI P)), (4, .inr (.inr (some s))), (3, .inr (.inr (some (loc (9 + 4 * j))))), (2, .inr (.inr (some nb))), (0, .inr (.inr (some 169)))], [], (mu_si H 169 21 (fvS (Iv j) P D))) Φ) : mu_W (mu_D (d + 5)) mu_m434 (147, [(7, .inl (oI V)), (6, .inl (oI D)), (5, .inl (oI P)), (4, .inr (.inr (some s))), (3, .inr (.inr (some (loc (9 + 4 * j))))), (2, .inr (.inr (some nb))), (0, .inr (.inr (some 169)))], [], H) Φ := by
  cases P with
  | some p =>
    show mu_W _ _ (147, [(7, .inl (oI V)), (6, .inl (oI D)), (5, .inl (nI p)), (4, .inr (.inr (some s))), (3, .inr (.inr (some (loc (9 + 4 * j))))), (2, .inr (.inr (some nb))), (0, .inr (.inr (some 169)))], [], H) _
    have if0 := hx.2.2.2.2.1 j hj
    have hmi := if0.2.1.1
    obtain ⟨m, mr, md⟩ := ht.2.2.2.2.1 (Iv j).1 hmi
    have md : mdf H F lv m (mth ms (Iv j).1) := md
    have i0 : mu_r H (loc (9 + 4 * j)) 0 = some m := if0.2.1.2.trans mr
    have hl31 := hlen _ hmi
    have i5 : mu_r H (loc (9 + 4 * j)) 5 = some (loc (12 + 4 * j)) := if0.2.2.2.1.2.2
    have i2 : mu_i H (loc (9 + 4 * j)) 2 = nI (Iv j).2.1 := if0.2.2.1
    have rD := if0.2.2.2.2.2.2
    refine mw_go mu_g434 (k := 2) (f1 := (150, [(7, .inl (oI V)), (6, .inl (oI D)), (5, .inl (nI p)), (4, .inr (.inr (some s))), (3, .inr (.inr (some (loc (9 + 4 * j))))), (2, .inr (.inr (some nb))), (0, .inr (.inr (some 169)))], [.inl (nI p), .inr (.inr (some 169))], H)) (C := []) rfl trivial ?_
    have hp31 := hP p rfl
    refine mw_if (P := (nI p) < 0) (a := 163) (b := 153) (fun _ => rfl) trivial (fun h2 => absurd h2 (nI_nn hp31)) (fun h2 => ?_)
    · -- 153
      refine mw_go mu_g434 (k := 2) (f1 := (157, [(7, .inl (oI V)), (6, .inl (oI D)), (5, .inl (nI p)), (4, .inr (.inr (some s))), (3, .inr (.inr (some (loc (9 + 4 * j))))), (2, .inr (.inr (some nb))), (0, .inr (.inr (some 169)))], [.inl (mu_i H (loc (9 + 4 * j)) 2), .inr (.inr (some 169))], H)) (C := [mu_is H (some (loc (9 + 4 * j))) 15]) rfl (show mu_is H (some (loc (9 + 4 * j))) 15 from if0.1) ?_
      refine mw_fr (f' := (157, [(7, .inl (oI V)), (6, .inl (oI D)), (5, .inl (nI p)), (4, .inr (.inr (some s))), (3, .inr (.inr (some (loc (9 + 4 * j))))), (2, .inr (.inr (some nb))), (0, .inr (.inr (some 169)))], [.inl (nI (Iv j).2.1), .inr (.inr (some 169))], H)) (by first | (rw [i2]; done) | (rw [i2]; rfl)) ?_
      refine mw_go mu_g434 (k := 4) (f1 := (182, [(7, .inl (oI V)), (6, .inl (oI D)), (5, .inl (nI p)), (4, .inr (.inr (some s))), (3, .inr (.inr (some (loc (9 + 4 * j))))), (2, .inr (.inr (some nb))), (0, .inr (.inr (some 169)))], [], (mu_si H 169 21 ((nI (Iv j).2.1) + (nI p))))) (C := [mu_is H (some 169) 1]) rfl (show mu_is H (some 169) 1 from ht.2.2.2.2.2) ?_
      refine mw_sub (L' := [(7, .inl (oI V)), (6, .inl (oI D)), (5, .inl (oI (some p))), (4, .inr (.inr (some s))), (3, .inr (.inr (some (loc (9 + 4 * j))))), (2, .inr (.inr (some nb))), (0, .inr (.inr (some 169)))]) (by simp [oI]) ?_
      exact hnx
  | none =>
   cases D with
   | none =>
    show mu_W _ _ (147, [(7, .inl (oI V)), (6, .inl (-1 : Int32)), (5, .inl (-1 : Int32)), (4, .inr (.inr (some s))), (3, .inr (.inr (some (loc (9 + 4 * j))))), (2, .inr (.inr (some nb))), (0, .inr (.inr (some 169)))], [], H) _
    have if0 := hx.2.2.2.2.1 j hj
    have hmi := if0.2.1.1
    obtain ⟨m, mr, md⟩ := ht.2.2.2.2.1 (Iv j).1 hmi
    have md : mdf H F lv m (mth ms (Iv j).1) := md
    have i0 : mu_r H (loc (9 + 4 * j)) 0 = some m := if0.2.1.2.trans mr
    have hl31 := hlen _ hmi
    have i5 : mu_r H (loc (9 + 4 * j)) 5 = some (loc (12 + 4 * j)) := if0.2.2.2.1.2.2
    have i2 : mu_i H (loc (9 + 4 * j)) 2 = nI (Iv j).2.1 := if0.2.2.1
    have rD := if0.2.2.2.2.2.2
    refine mw_go mu_g434 (k := 2) (f1 := (150, [(7, .inl (oI V)), (6, .inl (-1 : Int32)), (5, .inl (-1 : Int32)), (4, .inr (.inr (some s))), (3, .inr (.inr (some (loc (9 + 4 * j))))), (2, .inr (.inr (some nb))), (0, .inr (.inr (some 169)))], [.inl (-1 : Int32), .inr (.inr (some 169))], H)) (C := []) rfl trivial ?_
    refine mw_if (P := (-1 : Int32) < 0) (a := 163) (b := 153) (fun _ => rfl) trivial (fun h2 => ?_) (fun h2 => absurd (show (-1 : Int32) < 0 by decide) h2)
    · -- 163
      refine mw_go mu_g434 (k := 1) (f1 := (165, [(7, .inl (oI V)), (6, .inl (-1 : Int32)), (5, .inl (-1 : Int32)), (4, .inr (.inr (some s))), (3, .inr (.inr (some (loc (9 + 4 * j))))), (2, .inr (.inr (some nb))), (0, .inr (.inr (some 169)))], [.inl (-1 : Int32), .inr (.inr (some 169))], H)) (C := []) rfl trivial ?_
      refine mw_if (P := (-1 : Int32) < 0) (a := 178) (b := 168) (fun _ => rfl) trivial (fun h3 => ?_) (fun h3 => absurd (show (-1 : Int32) < 0 by decide) h3)
      · -- 178
        refine mw_go mu_g434 (k := 2) (f1 := (182, [(7, .inl (oI V)), (6, .inl (-1 : Int32)), (5, .inl (-1 : Int32)), (4, .inr (.inr (some s))), (3, .inr (.inr (some (loc (9 + 4 * j))))), (2, .inr (.inr (some nb))), (0, .inr (.inr (some 169)))], [], (mu_si H 169 21 (-1 : Int32)))) (C := [mu_is H (some 169) 1]) rfl (show mu_is H (some 169) 1 from ht.2.2.2.2.2) ?_
        refine mw_sub (L' := [(7, .inl (oI V)), (6, .inl (oI none)), (5, .inl (oI none)), (4, .inr (.inr (some s))), (3, .inr (.inr (some (loc (9 + 4 * j))))), (2, .inr (.inr (some nb))), (0, .inr (.inr (some 169)))]) (by simp [oI]) ?_
        exact hnx
   | some q =>
    show mu_W _ _ (147, [(7, .inl (oI V)), (6, .inl (nI q)), (5, .inl (-1 : Int32)), (4, .inr (.inr (some s))), (3, .inr (.inr (some (loc (9 + 4 * j))))), (2, .inr (.inr (some nb))), (0, .inr (.inr (some 169)))], [], H) _
    have if0 := hx.2.2.2.2.1 j hj
    have hmi := if0.2.1.1
    obtain ⟨m, mr, md⟩ := ht.2.2.2.2.1 (Iv j).1 hmi
    have md : mdf H F lv m (mth ms (Iv j).1) := md
    have i0 : mu_r H (loc (9 + 4 * j)) 0 = some m := if0.2.1.2.trans mr
    have hl31 := hlen _ hmi
    have i5 : mu_r H (loc (9 + 4 * j)) 5 = some (loc (12 + 4 * j)) := if0.2.2.2.1.2.2
    have i2 : mu_i H (loc (9 + 4 * j)) 2 = nI (Iv j).2.1 := if0.2.2.1
    have rD := if0.2.2.2.2.2.2
    have hq := hD q rfl
    have gx : mu_i H (loc (12 + 4 * j)) (nI q).toNatClampNeg = (Iv j).2.2.2.2 q := by rw [nI_clamp (show q < 2 ^ 31 by omega)]; exact rD.2.2 q hq
    have gi : vp_in (nI q) (mu_n H (loc (12 + 4 * j))) := by rw [rD.2.1]; exact vp_in_nI hq (by omega)
    refine mw_go mu_g434 (k := 2) (f1 := (150, [(7, .inl (oI V)), (6, .inl (nI q)), (5, .inl (-1 : Int32)), (4, .inr (.inr (some s))), (3, .inr (.inr (some (loc (9 + 4 * j))))), (2, .inr (.inr (some nb))), (0, .inr (.inr (some 169)))], [.inl (-1 : Int32), .inr (.inr (some 169))], H)) (C := []) rfl trivial ?_
    refine mw_if (P := (-1 : Int32) < 0) (a := 163) (b := 153) (fun _ => rfl) trivial (fun h2 => ?_) (fun h2 => absurd (show (-1 : Int32) < 0 by decide) h2)
    · -- 163
      refine mw_go mu_g434 (k := 1) (f1 := (165, [(7, .inl (oI V)), (6, .inl (nI q)), (5, .inl (-1 : Int32)), (4, .inr (.inr (some s))), (3, .inr (.inr (some (loc (9 + 4 * j))))), (2, .inr (.inr (some nb))), (0, .inr (.inr (some 169)))], [.inl (nI q), .inr (.inr (some 169))], H)) (C := []) rfl trivial ?_
      refine mw_if (P := (nI q) < 0) (a := 178) (b := 168) (fun _ => rfl) trivial (fun h3 => absurd h3 (nI_nn (by omega))) (fun h3 => ?_)
      · -- 168
        refine mw_go mu_g434 (k := 2) (f1 := (172, [(7, .inl (oI V)), (6, .inl (nI q)), (5, .inl (-1 : Int32)), (4, .inr (.inr (some s))), (3, .inr (.inr (some (loc (9 + 4 * j))))), (2, .inr (.inr (some nb))), (0, .inr (.inr (some 169)))], [.inr (.inr (mu_r H (loc (9 + 4 * j)) 5)), .inr (.inr (some 169))], H)) (C := [mu_is H (some (loc (9 + 4 * j))) 15]) rfl (show mu_is H (some (loc (9 + 4 * j))) 15 from if0.1) ?_
        refine mw_fr (f' := (172, [(7, .inl (oI V)), (6, .inl (nI q)), (5, .inl (-1 : Int32)), (4, .inr (.inr (some s))), (3, .inr (.inr (some (loc (9 + 4 * j))))), (2, .inr (.inr (some nb))), (0, .inr (.inr (some 169)))], [.inr (.inr (some (loc (12 + 4 * j)))), .inr (.inr (some 169))], H)) (by first | (rw [i5]; done) | (rw [i5]; rfl)) ?_
        refine mw_go mu_g434 (k := 2) (f1 := (175, [(7, .inl (oI V)), (6, .inl (nI q)), (5, .inl (-1 : Int32)), (4, .inr (.inr (some s))), (3, .inr (.inr (some (loc (9 + 4 * j))))), (2, .inr (.inr (some nb))), (0, .inr (.inr (some 169)))], [.inl (mu_i H (loc (12 + 4 * j)) (nI q).toNatClampNeg), .inr (.inr (some 169))], H)) (C := [mu_isr H (some (loc (12 + 4 * j))) 100, vp_in (nI q) (mu_n H (loc (12 + 4 * j)))]) rfl (show (mu_isr H (some (loc (12 + 4 * j))) 100) ∧ (vp_in (nI q) (mu_n H (loc (12 + 4 * j)))) from ⟨rD.1.r, gi⟩) ?_
        refine mw_fr (f' := (175, [(7, .inl (oI V)), (6, .inl (nI q)), (5, .inl (-1 : Int32)), (4, .inr (.inr (some s))), (3, .inr (.inr (some (loc (9 + 4 * j))))), (2, .inr (.inr (some nb))), (0, .inr (.inr (some 169)))], [.inl ((Iv j).2.2.2.2 q), .inr (.inr (some 169))], H)) (by first | (rw [gx]; done) | (rw [gx]; rfl)) ?_
        refine mw_go mu_g434 (k := 2) (f1 := (182, [(7, .inl (oI V)), (6, .inl (nI q)), (5, .inl (-1 : Int32)), (4, .inr (.inr (some s))), (3, .inr (.inr (some (loc (9 + 4 * j))))), (2, .inr (.inr (some nb))), (0, .inr (.inr (some 169)))], [], (mu_si H 169 21 ((Iv j).2.2.2.2 q)))) (C := [mu_is H (some 169) 1]) rfl (show mu_is H (some 169) 1 from ht.2.2.2.2.2) ?_
        refine mw_sub (L' := [(7, .inl (oI V)), (6, .inl (oI (some q))), (5, .inl (oI none)), (4, .inr (.inr (some s))), (3, .inr (.inr (some (loc (9 + 4 * j))))), (2, .inr (.inr (some nb))), (0, .inr (.inr (some 169)))]) (by simp [oI]) ?_
        exact hnx
