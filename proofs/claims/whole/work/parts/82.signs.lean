/-! THE LEXER: signs; words forgotten -/
theorem lx_txs {H : mu_H} (hot : mu_ot H) {k : Nat} (hk : k < ev_jk) : mu_isr H (some (mu_p (some (1000000 + k)) + 1000)) 101 ∧ mu_n H (mu_p (some (1000000 + k)) + 1000) = (ev_kb.getD k []).length ∧ ∀ i, mu_i H (mu_p (some (1000000 + k)) + 1000) i = (ev_kb.getD k []).getD i 0 := by
  have ho : mu_str (some (1000000 + k)) := ⟨rfl, Nat.le_add_right _ _, Nat.add_lt_add_left hk _⟩
  obtain ⟨h1, j, -, h3, h4, h5⟩ := tx_val ho hot
  have e : j = k := by have : 1000000 + k = 1000000 + j := h3; omega
  subst e
  exact ⟨h1, h4, h5⟩
def lx_d2 (i : Nat) : Int32 := tx_chr ((ev_kb.getD 56 []).getD i 0)
theorem lx_d2_ne {i : Nat} (h : i < 12) : ¬ lx_d2 i = 0 := (show ∀ i : Fin 12, ¬ lx_d2 i.1 = 0 by decide +kernel) ⟨i, h⟩
theorem lx_len56 {H : mu_H} {d : Nat} (hot : mu_ot H) : mu_TI (mu_D (d + 2)) 6 [.inr (.inr (some 1000056))] H (fun x H1 => x = (12 : Int32) ∧ H1 = H) := by
  obtain ⟨h1, h2, -⟩ := lx_txs hot (k := 56) (by decide)
  refine (tx_length_ok (o := some 1000056) ⟨rfl, by decide, by decide⟩ h1).imp (fun x H1 q => ⟨?_, q.2⟩)
  rw [q.1, mu_shr0, h2]
  decide +kernel
theorem lx_at56 {H : mu_H} {d i : Nat} (hot : mu_ot H) (hi : i < 12) : mu_TI (mu_D (d + 4)) 8 [.inr (.inr (some 1000056)), .inl (nI i)] H (fun x H1 => x = lx_d2 i ∧ H1 = H) := by
  obtain ⟨h1, h2, h3⟩ := lx_txs hot (k := 56) (by decide)
  have hl : (ev_kb.getD 56 []).length = 12 := by decide +kernel
  refine (tx_charAt_ok (o := some 1000056) (i := nI i) ⟨rfl, by decide, by decide⟩ h1 ?_ ?_).imp (fun x H1 q => ⟨?_, q.2⟩)
  · show vp_in (nI i) (mu_n H (mu_p (some (1000000 + 56)) + 1000))
    rw [h2, hl]
    exact vp_in_nI hi (by decide)
  · show mu_n H (mu_p (some (1000000 + 56)) + 1000) < 2 ^ 31
    rw [h2, hl]
    decide
  · rw [q.1, nI_clamp (by omega)]
    show tx_chr (mu_i H (mu_p (some (1000000 + 56)) + 1000) i) = _
    rw [h3]
    rfl
theorem lx_ix57 {H : mu_H} {d cj : Nat} (hot : mu_ot H) (hc : cj < 256) : mu_TI (mu_D (d + 5)) 108 [.inr (.inr (some 1000057)), .inl (nI cj)] H (fun x H1 => x = tx_find (fun j => mu_i H (mu_p (some 1000057) + 1000) j) (nI cj).toInt8.toInt32 0 (mu_n H (mu_p (some 1000057) + 1000)) ∧ H1 = H) := by
  obtain ⟨h1, h2, -⟩ := lx_txs hot (k := 57) (by decide)
  have hl : (ev_kb.getD 57 []).length < 2 ^ 31 := by decide +kernel
  refine tx_indexOf_ok (o := some 1000057) (nI_pos (by omega)) (fun z => ?_) ⟨rfl, by decide, by decide⟩ h1 ?_
  · have := (nI_ltI (a := 255) (by decide) (by omega)).mp z
    omega
  · show mu_n H (mu_p (some (1000000 + 57)) + 1000) < 2 ^ 31
    rw [h2]
    exact hl
theorem nI_up2 {k : Nat} : nI k + 2 = nI (k + 2) := nI_add k 2
theorem nI_up3 {k : Nat} : nI k + 3 = nI (k + 3) := nI_add k 3
section LexReset
variable {H : mu_H}
/-- words and heads as at the begin -/
def lx_rst (H : mu_H) : mu_H := rw_fill (mu_si (mu_si (mu_si H 81 11 0) 81 8 0) 86 2 0) 88 0 (fun _ => -1) 256
theorem lw.reset (hg : gi H) : lw (lx_rst H) ∧ lk ls_S H (lx_rst H) ∧ (∀ j, mu_r (lx_rst H) 81 j = mu_r H 81 j) ∧ (∀ j, j ≠ 8 → j ≠ 11 → mu_i (lx_rst H) 81 j = mu_i H 81 j) ∧ (mu_same H (lx_rst H) 82 ∧ mu_same H (lx_rst H) (mu_p (mu_r H 82 1))) ∧ lu (lx_rst H) = 0 ∧ gi_sz (lx_rst H) 86 = 0 ∧ mu_n (lx_rst H) (lt7 (lx_rst H)) = mu_n H (lt7 H) ∧ gi_cap (lx_rst H) 86 = gi_cap H 86 := by
  have g1 : gi (mu_si (mu_si H 81 11 0) 81 8 0) := (hg.si (k := 4) rfl rfl).si (k := 4) rfl rfl
  have k1 : gk ls_S H (mu_si (mu_si H 81 11 0) 81 8 0) := (gk.si hg (k := 4) rfl rfl).trans (gk.si (hg.si (k := 4) rfl rfl) (k := 4) rfl rfl)
  obtain ⟨g2, z2, -⟩ := g1.size (r := 86) (W := 4) (k := 0) rfl (Nat.zero_le _)
  have g2 : gi (mu_si (mu_si (mu_si H 81 11 0) 81 8 0) 86 2 0) := g2
  have k2 : gk ls_S H (mu_si (mu_si (mu_si H 81 11 0) 81 8 0) 86 2 0) := k1.trans (gk.si g1 (k := 10) rfl rfl)
  have e88 : mu_r (mu_si (mu_si (mu_si H 81 11 0) 81 8 0) 86 2 0) 81 10 = some 88 := g2.r rfl
  have k88 : mu_k (mu_si (mu_si (mu_si H 81 11 0) 81 8 0) 86 2 0) 88 = 100 := (g2.a (p := 88) (x := (100, 256)) rfl).1.2.2
  have ho : mu_onl (mu_si (mu_si (mu_si H 81 11 0) 81 8 0) 86 2 0) (lx_rst H) 88 := ⟨rfl, rfl, fun p j hp => by unfold lx_rst; rw [mu_i_fill, if_neg (fun z => hp z.1)], rfl⟩
  have g3 : gi (lx_rst H) := g2.onl ho (Or.inl k88)
  have k3 : lk ls_S (mu_si (mu_si (mu_si H 81 11 0) 81 8 0) 86 2 0) (lx_rst H) := lk.onl (p := 81) (j := 10) g2 (by rw [e88]; exact ho) rfl (Or.inl rfl)
  have ei : ∀ p j, p ≠ 88 → mu_i (lx_rst H) p j = mu_i (mu_si (mu_si (mu_si H 81 11 0) 81 8 0) 86 2 0) p j := fun p j hp => ho.2.2.1 p j hp
  have hu : lu (lx_rst H) = 0 := by
    unfold lu
    rw [ei 81 8 (by decide)]
    rfl
  have hz : gi_sz (lx_rst H) 86 = 0 := by
    unfold gi_sz
    rw [ei 86 2 (by decide)]
    rfl
  refine ⟨⟨g3, ?_, by rw [hu]; exact Nat.zero_le _, fun w hw => by rw [hz] at hw; omega⟩, (lk.of k2 rfl).trans k3, fun _ => rfl, fun j h8 h11 => ?_, ⟨?_, ?_⟩, hu, hz, rfl, rfl⟩
  · rw [hu, ei 81 8 (by decide)]
    rfl
  · rw [ei 81 j (by decide), mu_i_si, if_neg (fun z => by omega), mu_i_si, if_neg (fun z => h8 z.2), mu_i_si, if_neg (fun z => h11 z.2)]
  · exact (((mu_same_si (show (82 : Nat) ≠ 81 by decide)).trans (mu_same_si (show (82 : Nat) ≠ 81 by decide))).trans (mu_same_si (show (82 : Nat) ≠ 86 by decide))).trans (ho.same (by decide))
  · have c1 := (hg.cell (r := 82) (W := 3) rfl).1
    have hne : mu_p (mu_r H 82 1) ≠ 88 := fun e => by
      have h1 : mu_r H 82 1 = mu_r H 81 10 := by rw [show mu_r H 81 10 = some 88 from hg.r rfl, ← e]; exact (hg.w (r := 82) (W := 3) rfl).2.1.1
      have h2 := (hg.2.2.2.2.2.1 82 1 81 10 rfl rfl h1).1
      omega
    exact (((mu_same_si (c1 81 4 rfl).symm).trans (mu_same_si (c1 81 4 rfl).symm)).trans (mu_same_si (c1 86 10 rfl).symm)).trans (ho.same hne)
end LexReset
section LexSigns
variable {H : mu_H} {d t n : Nat}
/-- PathProver$Lexer.sign()V -/
abbrev mu_m123 : ev_M := (5, none, [], ev_b123)
theorem mu_g123 : mu_good mu_m123 := mu_goodk ev_k123
theorem ls_sign_tail {Φ : mu_R → Prop} {y z : Int32} {cj : Nat} (h : ls t n H) (hlt : la H < n) (hcj : cj < 256) (hy : ¬ y = 0 → la H + 1 < n) (hz : ¬ z = 0 → la H + 2 < n) (hΦ : ∀ H1, ls t n H1 → lo [2, 3] H H1 → la H + 1 ≤ la H1 → Φ (.inl none, H1)) : mu_W (mu_D (d + 6)) mu_m123 (73, [(3, .inl z), (2, .inl y), (1, .inl (nI cj)), (0, .inr (.inr (some 81)))], [], H) Φ := by
  refine mw_ot (fun hot => ?_)
  have hot : mu_ot H := hot
  refine mw_go mu_g123 (k := 2) (f1 := (76, [(3, .inl z), (2, .inl y), (1, .inl (nI cj)), (0, .inr (.inr (some 81)))], [.inl (60 : Int32), .inl (nI cj)], H)) (C := []) rfl trivial ?_
  refine mw_if (P := (nI cj) = (60 : Int32)) (a := 79) (b := 108) (fun _ => rfl) trivial (fun h1 => ?_) (fun h1 => ?_)
  · -- 79: (nI cj) = (60 : Int32)
    refine mw_go mu_g123 (k := 2) (f1 := (82, [(3, .inl z), (2, .inl y), (1, .inl (nI cj)), (0, .inr (.inr (some 81)))], [.inl (45 : Int32), .inl y], H)) (C := []) rfl trivial ?_
    refine mw_if (P := y = (45 : Int32)) (a := 85) (b := 108) (fun _ => rfl) trivial (fun h2 => ?_) (fun h2 => ?_)
    · -- 85: y = (45 : Int32)
      refine mw_go mu_g123 (k := 2) (f1 := (88, [(3, .inl z), (2, .inl y), (1, .inl (nI cj)), (0, .inr (.inr (some 81)))], [.inl (62 : Int32), .inl z], H)) (C := []) rfl trivial ?_
      refine mw_if (P := z = (62 : Int32)) (a := 91) (b := 108) (fun _ => rfl) trivial (fun h3 => ?_) (fun h3 => ?_)
      · -- 91: z = (62 : Int32)
        have hz1 := hz (by rw [h3]; decide)
        refine mw_go mu_g123 (k := 6) (f1 := (102, [(3, .inl z), (2, .inl y), (1, .inl (nI cj)), (0, .inr (.inr (some 81)))], [.inl (mu_i H 81 2), .inr (.inr (some 81))], (mu_si H 81 3 (102 : Int32)))) (C := [mu_is H (some 81) 4, mu_is (mu_si H 81 3 (102 : Int32)) (some 81) 4]) rfl (show (mu_is H (some 81) 4) ∧ (mu_is (mu_si H 81 3 (102 : Int32)) (some 81) 4) from ⟨h.1.1.is rfl, h.1.1.is rfl⟩) ?_
        rw [h.2.2.2.2.2.2.1]
        refine mw_go mu_g123 (k := 3) (f1 := (107, [(3, .inl z), (2, .inl y), (1, .inl (nI cj)), (0, .inr (.inr (some 81)))], [], (mu_si (mu_si H 81 3 (102 : Int32)) 81 2 ((nI (la H)) + (3 : Int32))))) (C := [mu_is (mu_si H 81 3 (102 : Int32)) (some 81) 4]) rfl (show mu_is (mu_si H 81 3 (102 : Int32)) (some 81) 4 from h.1.1.is rfl) ?_
        rw [show nI (la H) + (3 : Int32) = nI (la H + 3) from nI_up3]
        have hlo : lo [2, 3] H (mu_si (mu_si H 81 3 (102 : Int32)) 81 2 (nI (la H + 3))) := (lo.si (lo.refl [2, 3] H) (by decide)).si (by decide)
        obtain ⟨w1, w2⟩ := h.lo hlo (by decide) (by decide) (b := la H + 3) rfl (by omega)
        exact mw_of (fun _ => mu_ret rfl trivial (hΦ (mu_si (mu_si H 81 3 (102 : Int32)) 81 2 (nI (la H + 3))) w1 hlo (by omega)))
      · -- 108: not z = (62 : Int32)
        refine mw_go mu_g123 (k := 2) (f1 := (111, [(4, .inl (0 : Int32)), (3, .inl z), (2, .inl y), (1, .inl (nI cj)), (0, .inr (.inr (some 81)))], [], H)) (C := []) rfl trivial ?_
        show mu_W _ _ (111, [(4, .inl (nI 0)), (3, .inl z), (2, .inl y), (1, .inl (nI cj)), (0, .inr (.inr (some 81)))], [], H) _
        refine mw_sub (L' := [(4, .inl (nI 0)), (0, .inr (.inr (some 81))), (1, .inl (nI cj)), (2, .inl y)]) (by simp) ?_
        refine mw_down (α := Nat) (fun zs => (111, [(4, .inl (nI zs)), (0, .inr (.inr (some 81))), (1, .inl (nI cj)), (2, .inl y)], [], H)) (fun zs => 12 - zs) (fun zs => (zs ≤ 12)) (fun zs hs ih => ?_) 0 (show 0 ≤ 12 from by omega)
        obtain ⟨i, rfl⟩ : ∃ y, y = zs := ⟨zs, rfl⟩
        have hi12 := hs
        have hi12 : i ≤ 12 := hi12
        show mu_W _ _ (111, [(4, .inl (nI i)), (0, .inr (.inr (some 81))), (1, .inl (nI cj)), (2, .inl y)], [], H) _
        refine mw_go mu_g123 (k := 4) (f1 := (117, [(4, .inl (nI i)), (0, .inr (.inr (some 81))), (1, .inl (nI cj)), (2, .inl y)], [.inr (.inr (some 1000056)), .inl ((nI i) + (1 : Int32))], H)) (C := []) rfl trivial ?_
        refine mw_cIe (fun _ => rfl) (show mu_str (some 1000056) from ⟨rfl, by decide, by decide⟩) (lx_len56 (d := (d + 4)) hot) ?_
        refine mw_if (P := ((nI i) + (1 : Int32)) < (12 : Int32)) (a := 123) (b := 175) (fun _ => rfl) trivial (fun h5 => ?_) (fun h5 => ?_)
        · -- 123: ((nI i) + (1 : Int32)) < (12 : Int32)
          have hi2 : i + 1 < 12 := (nI_ltI (b := 12) (by omega) (by decide)).mp (by rw [← nI_1]; exact h5)
          refine mw_go mu_g123 (k := 2) (f1 := (127, [(4, .inl (nI i)), (0, .inr (.inr (some 81))), (1, .inl (nI cj)), (2, .inl y)], [.inl (nI i), .inr (.inr (some 1000056))], H)) (C := []) rfl trivial ?_
          refine mw_cIe (fun _ => rfl) (show mu_str (some 1000056) from ⟨rfl, by decide, by decide⟩) (lx_at56 (d := (d + 2)) hot (i := i) (by omega)) ?_
          refine mw_go mu_g123 (k := 1) (f1 := (131, [(4, .inl (nI i)), (0, .inr (.inr (some 81))), (1, .inl (nI cj)), (2, .inl y)], [.inl (nI cj), .inl (lx_d2 i)], H)) (C := []) rfl trivial ?_
          refine mw_if (P := (lx_d2 i) = (nI cj)) (a := 134) (b := 169) (fun _ => rfl) trivial (fun h7 => ?_) (fun h7 => ?_)
          · -- 134: (lx_d2 i) = (nI cj)
            refine mw_go mu_g123 (k := 4) (f1 := (140, [(4, .inl (nI i)), (0, .inr (.inr (some 81))), (1, .inl (nI cj)), (2, .inl y)], [.inl ((nI i) + (1 : Int32)), .inr (.inr (some 1000056))], H)) (C := []) rfl trivial ?_
            refine mw_cIe (fun _ => rfl) (show mu_str (some 1000056) from ⟨rfl, by decide, by decide⟩) (show mu_TI (mu_D (d + 6)) 8 [.inr (.inr (some 1000056)), .inl (nI i + 1)] H (fun x H1 => x = lx_d2 (i + 1) ∧ H1 = H) from by rw [nI_1]; exact lx_at56 (d := (d + 2)) hot (by omega)) ?_
            refine mw_go mu_g123 (k := 1) (f1 := (144, [(4, .inl (nI i)), (0, .inr (.inr (some 81))), (1, .inl (nI cj)), (2, .inl y)], [.inl y, .inl (lx_d2 (i + 1))], H)) (C := []) rfl trivial ?_
            refine mw_if (P := (lx_d2 (i + 1)) = y) (a := 147) (b := 169) (fun _ => rfl) trivial (fun h9 => ?_) (fun h9 => ?_)
            · -- 147: (lx_d2 (i + 1)) = y
              have hy1 := hy (by rw [← h9]; exact lx_d2_ne hi2)
              refine mw_go mu_g123 (k := 10) (f1 := (163, [(4, .inl (nI i)), (0, .inr (.inr (some 81))), (1, .inl (nI cj)), (2, .inl y)], [.inl (mu_i H 81 2), .inr (.inr (some 81))], (mu_si H 81 3 ((96 : Int32) + ((nI i) / (2 : Int32)))))) (C := [¬ (2 : Int32) = 0, mu_is H (some 81) 4, mu_is (mu_si H 81 3 ((96 : Int32) + ((nI i) / (2 : Int32)))) (some 81) 4]) rfl (show (¬ (2 : Int32) = 0) ∧ (mu_is H (some 81) 4) ∧ (mu_is (mu_si H 81 3 ((96 : Int32) + ((nI i) / (2 : Int32)))) (some 81) 4) from ⟨(by decide), h.1.1.is rfl, h.1.1.is rfl⟩) ?_
              rw [h.2.2.2.2.2.2.1]
              refine mw_go mu_g123 (k := 3) (f1 := (168, [(4, .inl (nI i)), (0, .inr (.inr (some 81))), (1, .inl (nI cj)), (2, .inl y)], [], (mu_si (mu_si H 81 3 ((96 : Int32) + ((nI i) / (2 : Int32)))) 81 2 ((nI (la H)) + (2 : Int32))))) (C := [mu_is (mu_si H 81 3 ((96 : Int32) + ((nI i) / (2 : Int32)))) (some 81) 4]) rfl (show mu_is (mu_si H 81 3 ((96 : Int32) + ((nI i) / (2 : Int32)))) (some 81) 4 from h.1.1.is rfl) ?_
              rw [show nI (la H) + (2 : Int32) = nI (la H + 2) from nI_up2]
              have hlo : lo [2, 3] H (mu_si (mu_si H 81 3 ((96 : Int32) + ((nI i) / (2 : Int32)))) 81 2 (nI (la H + 2))) := (lo.si (lo.refl [2, 3] H) (by decide)).si (by decide)
              obtain ⟨w1, w2⟩ := h.lo hlo (by decide) (by decide) (b := la H + 2) rfl (by omega)
              exact mw_of (fun _ => mu_ret rfl trivial (hΦ (mu_si (mu_si H 81 3 ((96 : Int32) + ((nI i) / (2 : Int32)))) 81 2 (nI (la H + 2))) w1 hlo (by omega)))
            · -- 169: not (lx_d2 (i + 1)) = y
              refine mw_go mu_g123 (k := 2) (f1 := (111, [(4, .inl ((nI i) + 2)), (0, .inr (.inr (some 81))), (1, .inl (nI cj)), (2, .inl y)], [], H)) (C := []) rfl trivial ?_
              rw [show nI i + 2 = nI (i + 2) from nI_up2]
              exact mw_sub (by simp) (ih (i + 2) (show (i + 2) ≤ 12 from by omega) (by show 12 - (i + 2) < 12 - i; omega))
          · -- 169: not (lx_d2 i) = (nI cj)
            refine mw_go mu_g123 (k := 2) (f1 := (111, [(4, .inl ((nI i) + 2)), (0, .inr (.inr (some 81))), (1, .inl (nI cj)), (2, .inl y)], [], H)) (C := []) rfl trivial ?_
            rw [show nI i + 2 = nI (i + 2) from nI_up2]
            exact mw_sub (by simp) (ih (i + 2) (show (i + 2) ≤ 12 from by omega) (by show 12 - (i + 2) < 12 - i; omega))
        · -- 175: not ((nI i) + (1 : Int32)) < (12 : Int32)
          refine mw_go mu_g123 (k := 2) (f1 := (178, [(4, .inl (nI i)), (0, .inr (.inr (some 81))), (1, .inl (nI cj)), (2, .inl y)], [.inl (nI cj), .inr (.inr (some 1000057))], H)) (C := []) rfl trivial ?_
          refine mw_cIe (fun _ => rfl) (show mu_str (some 1000057) from ⟨rfl, by decide, by decide⟩) (lx_ix57 (d := (d + 1)) hot hcj) ?_
          refine mw_go mu_g123 (k := 3) (f1 := (186, [(4, .inl (tx_find (fun j => mu_i H (mu_p (some 1000057) + 1000) j) (nI cj).toInt8.toInt32 0 (mu_n H (mu_p (some 1000057) + 1000)))), (0, .inr (.inr (some 81))), (1, .inl (nI cj)), (2, .inl y)], [.inl (tx_find (fun j => mu_i H (mu_p (some 1000057) + 1000) j) (nI cj).toInt8.toInt32 0 (mu_n H (mu_p (some 1000057) + 1000))), .inr (.inr (some 81))], H)) (C := []) rfl trivial ?_
          refine mw_if (P := (tx_find (fun j => mu_i H (mu_p (some 1000057) + 1000) j) (nI cj).toInt8.toInt32 0 (mu_n H (mu_p (some 1000057) + 1000))) < 0) (a := 189) (b := 194) (fun _ => rfl) trivial (fun h11 => ?_) (fun h11 => ?_)
          · -- 189: (tx_find (fun j => mu_i H (mu_p (some 1000057) + 1000) j) (nI cj).toInt8.toInt32 0 (mu_n H (mu_p (some 1000057) + 1000))) < 0
            refine mw_go mu_g123 (k := 6) (f1 := (207, [(4, .inl (tx_find (fun j => mu_i H (mu_p (some 1000057) + 1000) j) (nI cj).toInt8.toInt32 0 (mu_n H (mu_p (some 1000057) + 1000)))), (0, .inr (.inr (some 81))), (1, .inl (nI cj)), (2, .inl y)], [.inl (mu_i H 81 2), .inr (.inr (some 81))], (mu_si H 81 3 (115 : Int32)))) (C := [mu_is H (some 81) 4, mu_is (mu_si H 81 3 (115 : Int32)) (some 81) 4]) rfl (show (mu_is H (some 81) 4) ∧ (mu_is (mu_si H 81 3 (115 : Int32)) (some 81) 4) from ⟨h.1.1.is rfl, h.1.1.is rfl⟩) ?_
            rw [h.2.2.2.2.2.2.1]
            refine mw_go mu_g123 (k := 3) (f1 := (212, [(4, .inl (tx_find (fun j => mu_i H (mu_p (some 1000057) + 1000) j) (nI cj).toInt8.toInt32 0 (mu_n H (mu_p (some 1000057) + 1000)))), (0, .inr (.inr (some 81))), (1, .inl (nI cj)), (2, .inl y)], [], (mu_si (mu_si H 81 3 (115 : Int32)) 81 2 ((nI (la H)) + (1 : Int32))))) (C := [mu_is (mu_si H 81 3 (115 : Int32)) (some 81) 4]) rfl (show mu_is (mu_si H 81 3 (115 : Int32)) (some 81) 4 from h.1.1.is rfl) ?_
            rw [show nI (la H) + (1 : Int32) = nI (la H + 1) from nI_1 _]
            have hlo : lo [2, 3] H (mu_si (mu_si H 81 3 (115 : Int32)) 81 2 (nI (la H + 1))) := (lo.si (lo.refl [2, 3] H) (by decide)).si (by decide)
            obtain ⟨w1, w2⟩ := h.lo hlo (by decide) (by decide) (b := la H + 1) rfl (by omega)
            exact mw_of (fun _ => mu_ret rfl trivial (hΦ (mu_si (mu_si H 81 3 (115 : Int32)) 81 2 (nI (la H + 1))) w1 hlo (by omega)))
          · -- 194: not (tx_find (fun j => mu_i H (mu_p (some 1000057) + 1000) j) (nI cj).toInt8.toInt32 0 (mu_n H (mu_p (some 1000057) + 1000))) < 0
            refine mw_go mu_g123 (k := 7) (f1 := (207, [(4, .inl (tx_find (fun j => mu_i H (mu_p (some 1000057) + 1000) j) (nI cj).toInt8.toInt32 0 (mu_n H (mu_p (some 1000057) + 1000)))), (0, .inr (.inr (some 81))), (1, .inl (nI cj)), (2, .inl y)], [.inl (mu_i H 81 2), .inr (.inr (some 81))], (mu_si H 81 3 ((64 : Int32) + (tx_find (fun j => mu_i H (mu_p (some 1000057) + 1000) j) (nI cj).toInt8.toInt32 0 (mu_n H (mu_p (some 1000057) + 1000))))))) (C := [mu_is H (some 81) 4, mu_is (mu_si H 81 3 ((64 : Int32) + (tx_find (fun j => mu_i H (mu_p (some 1000057) + 1000) j) (nI cj).toInt8.toInt32 0 (mu_n H (mu_p (some 1000057) + 1000))))) (some 81) 4]) rfl (show (mu_is H (some 81) 4) ∧ (mu_is (mu_si H 81 3 ((64 : Int32) + (tx_find (fun j => mu_i H (mu_p (some 1000057) + 1000) j) (nI cj).toInt8.toInt32 0 (mu_n H (mu_p (some 1000057) + 1000))))) (some 81) 4) from ⟨h.1.1.is rfl, h.1.1.is rfl⟩) ?_
            rw [h.2.2.2.2.2.2.1]
            refine mw_go mu_g123 (k := 3) (f1 := (212, [(4, .inl (tx_find (fun j => mu_i H (mu_p (some 1000057) + 1000) j) (nI cj).toInt8.toInt32 0 (mu_n H (mu_p (some 1000057) + 1000)))), (0, .inr (.inr (some 81))), (1, .inl (nI cj)), (2, .inl y)], [], (mu_si (mu_si H 81 3 ((64 : Int32) + (tx_find (fun j => mu_i H (mu_p (some 1000057) + 1000) j) (nI cj).toInt8.toInt32 0 (mu_n H (mu_p (some 1000057) + 1000))))) 81 2 ((nI (la H)) + (1 : Int32))))) (C := [mu_is (mu_si H 81 3 ((64 : Int32) + (tx_find (fun j => mu_i H (mu_p (some 1000057) + 1000) j) (nI cj).toInt8.toInt32 0 (mu_n H (mu_p (some 1000057) + 1000))))) (some 81) 4]) rfl (show mu_is (mu_si H 81 3 ((64 : Int32) + (tx_find (fun j => mu_i H (mu_p (some 1000057) + 1000) j) (nI cj).toInt8.toInt32 0 (mu_n H (mu_p (some 1000057) + 1000))))) (some 81) 4 from h.1.1.is rfl) ?_
            rw [show nI (la H) + (1 : Int32) = nI (la H + 1) from nI_1 _]
            have hlo : lo [2, 3] H (mu_si (mu_si H 81 3 ((64 : Int32) + (tx_find (fun j => mu_i H (mu_p (some 1000057) + 1000) j) (nI cj).toInt8.toInt32 0 (mu_n H (mu_p (some 1000057) + 1000))))) 81 2 (nI (la H + 1))) := (lo.si (lo.refl [2, 3] H) (by decide)).si (by decide)
            obtain ⟨w1, w2⟩ := h.lo hlo (by decide) (by decide) (b := la H + 1) rfl (by omega)
            exact mw_of (fun _ => mu_ret rfl trivial (hΦ (mu_si (mu_si H 81 3 ((64 : Int32) + (tx_find (fun j => mu_i H (mu_p (some 1000057) + 1000) j) (nI cj).toInt8.toInt32 0 (mu_n H (mu_p (some 1000057) + 1000))))) 81 2 (nI (la H + 1))) w1 hlo (by omega)))
    · -- 108: not y = (45 : Int32)
      refine mw_go mu_g123 (k := 2) (f1 := (111, [(4, .inl (0 : Int32)), (3, .inl z), (2, .inl y), (1, .inl (nI cj)), (0, .inr (.inr (some 81)))], [], H)) (C := []) rfl trivial ?_
      show mu_W _ _ (111, [(4, .inl (nI 0)), (3, .inl z), (2, .inl y), (1, .inl (nI cj)), (0, .inr (.inr (some 81)))], [], H) _
      refine mw_sub (L' := [(4, .inl (nI 0)), (0, .inr (.inr (some 81))), (1, .inl (nI cj)), (2, .inl y)]) (by simp) ?_
      refine mw_down (α := Nat) (fun zs => (111, [(4, .inl (nI zs)), (0, .inr (.inr (some 81))), (1, .inl (nI cj)), (2, .inl y)], [], H)) (fun zs => 12 - zs) (fun zs => (zs ≤ 12)) (fun zs hs ih => ?_) 0 (show 0 ≤ 12 from by omega)
      obtain ⟨i, rfl⟩ : ∃ y, y = zs := ⟨zs, rfl⟩
      have hi12 := hs
      have hi12 : i ≤ 12 := hi12
      show mu_W _ _ (111, [(4, .inl (nI i)), (0, .inr (.inr (some 81))), (1, .inl (nI cj)), (2, .inl y)], [], H) _
      refine mw_go mu_g123 (k := 4) (f1 := (117, [(4, .inl (nI i)), (0, .inr (.inr (some 81))), (1, .inl (nI cj)), (2, .inl y)], [.inr (.inr (some 1000056)), .inl ((nI i) + (1 : Int32))], H)) (C := []) rfl trivial ?_
      refine mw_cIe (fun _ => rfl) (show mu_str (some 1000056) from ⟨rfl, by decide, by decide⟩) (lx_len56 (d := (d + 4)) hot) ?_
      refine mw_if (P := ((nI i) + (1 : Int32)) < (12 : Int32)) (a := 123) (b := 175) (fun _ => rfl) trivial (fun h13 => ?_) (fun h13 => ?_)
      · -- 123: ((nI i) + (1 : Int32)) < (12 : Int32)
        have hi2 : i + 1 < 12 := (nI_ltI (b := 12) (by omega) (by decide)).mp (by rw [← nI_1]; exact h13)
        refine mw_go mu_g123 (k := 2) (f1 := (127, [(4, .inl (nI i)), (0, .inr (.inr (some 81))), (1, .inl (nI cj)), (2, .inl y)], [.inl (nI i), .inr (.inr (some 1000056))], H)) (C := []) rfl trivial ?_
        refine mw_cIe (fun _ => rfl) (show mu_str (some 1000056) from ⟨rfl, by decide, by decide⟩) (lx_at56 (d := (d + 2)) hot (i := i) (by omega)) ?_
        refine mw_go mu_g123 (k := 1) (f1 := (131, [(4, .inl (nI i)), (0, .inr (.inr (some 81))), (1, .inl (nI cj)), (2, .inl y)], [.inl (nI cj), .inl (lx_d2 i)], H)) (C := []) rfl trivial ?_
        refine mw_if (P := (lx_d2 i) = (nI cj)) (a := 134) (b := 169) (fun _ => rfl) trivial (fun h15 => ?_) (fun h15 => ?_)
        · -- 134: (lx_d2 i) = (nI cj)
          refine mw_go mu_g123 (k := 4) (f1 := (140, [(4, .inl (nI i)), (0, .inr (.inr (some 81))), (1, .inl (nI cj)), (2, .inl y)], [.inl ((nI i) + (1 : Int32)), .inr (.inr (some 1000056))], H)) (C := []) rfl trivial ?_
          refine mw_cIe (fun _ => rfl) (show mu_str (some 1000056) from ⟨rfl, by decide, by decide⟩) (show mu_TI (mu_D (d + 6)) 8 [.inr (.inr (some 1000056)), .inl (nI i + 1)] H (fun x H1 => x = lx_d2 (i + 1) ∧ H1 = H) from by rw [nI_1]; exact lx_at56 (d := (d + 2)) hot (by omega)) ?_
          refine mw_go mu_g123 (k := 1) (f1 := (144, [(4, .inl (nI i)), (0, .inr (.inr (some 81))), (1, .inl (nI cj)), (2, .inl y)], [.inl y, .inl (lx_d2 (i + 1))], H)) (C := []) rfl trivial ?_
          refine mw_if (P := (lx_d2 (i + 1)) = y) (a := 147) (b := 169) (fun _ => rfl) trivial (fun h17 => ?_) (fun h17 => ?_)
          · -- 147: (lx_d2 (i + 1)) = y
            have hy1 := hy (by rw [← h17]; exact lx_d2_ne hi2)
            refine mw_go mu_g123 (k := 10) (f1 := (163, [(4, .inl (nI i)), (0, .inr (.inr (some 81))), (1, .inl (nI cj)), (2, .inl y)], [.inl (mu_i H 81 2), .inr (.inr (some 81))], (mu_si H 81 3 ((96 : Int32) + ((nI i) / (2 : Int32)))))) (C := [¬ (2 : Int32) = 0, mu_is H (some 81) 4, mu_is (mu_si H 81 3 ((96 : Int32) + ((nI i) / (2 : Int32)))) (some 81) 4]) rfl (show (¬ (2 : Int32) = 0) ∧ (mu_is H (some 81) 4) ∧ (mu_is (mu_si H 81 3 ((96 : Int32) + ((nI i) / (2 : Int32)))) (some 81) 4) from ⟨(by decide), h.1.1.is rfl, h.1.1.is rfl⟩) ?_
            rw [h.2.2.2.2.2.2.1]
            refine mw_go mu_g123 (k := 3) (f1 := (168, [(4, .inl (nI i)), (0, .inr (.inr (some 81))), (1, .inl (nI cj)), (2, .inl y)], [], (mu_si (mu_si H 81 3 ((96 : Int32) + ((nI i) / (2 : Int32)))) 81 2 ((nI (la H)) + (2 : Int32))))) (C := [mu_is (mu_si H 81 3 ((96 : Int32) + ((nI i) / (2 : Int32)))) (some 81) 4]) rfl (show mu_is (mu_si H 81 3 ((96 : Int32) + ((nI i) / (2 : Int32)))) (some 81) 4 from h.1.1.is rfl) ?_
            rw [show nI (la H) + (2 : Int32) = nI (la H + 2) from nI_up2]
            have hlo : lo [2, 3] H (mu_si (mu_si H 81 3 ((96 : Int32) + ((nI i) / (2 : Int32)))) 81 2 (nI (la H + 2))) := (lo.si (lo.refl [2, 3] H) (by decide)).si (by decide)
            obtain ⟨w1, w2⟩ := h.lo hlo (by decide) (by decide) (b := la H + 2) rfl (by omega)
            exact mw_of (fun _ => mu_ret rfl trivial (hΦ (mu_si (mu_si H 81 3 ((96 : Int32) + ((nI i) / (2 : Int32)))) 81 2 (nI (la H + 2))) w1 hlo (by omega)))
          · -- 169: not (lx_d2 (i + 1)) = y
            refine mw_go mu_g123 (k := 2) (f1 := (111, [(4, .inl ((nI i) + 2)), (0, .inr (.inr (some 81))), (1, .inl (nI cj)), (2, .inl y)], [], H)) (C := []) rfl trivial ?_
            rw [show nI i + 2 = nI (i + 2) from nI_up2]
            exact mw_sub (by simp) (ih (i + 2) (show (i + 2) ≤ 12 from by omega) (by show 12 - (i + 2) < 12 - i; omega))
        · -- 169: not (lx_d2 i) = (nI cj)
          refine mw_go mu_g123 (k := 2) (f1 := (111, [(4, .inl ((nI i) + 2)), (0, .inr (.inr (some 81))), (1, .inl (nI cj)), (2, .inl y)], [], H)) (C := []) rfl trivial ?_
          rw [show nI i + 2 = nI (i + 2) from nI_up2]
          exact mw_sub (by simp) (ih (i + 2) (show (i + 2) ≤ 12 from by omega) (by show 12 - (i + 2) < 12 - i; omega))
      · -- 175: not ((nI i) + (1 : Int32)) < (12 : Int32)
        refine mw_go mu_g123 (k := 2) (f1 := (178, [(4, .inl (nI i)), (0, .inr (.inr (some 81))), (1, .inl (nI cj)), (2, .inl y)], [.inl (nI cj), .inr (.inr (some 1000057))], H)) (C := []) rfl trivial ?_
        refine mw_cIe (fun _ => rfl) (show mu_str (some 1000057) from ⟨rfl, by decide, by decide⟩) (lx_ix57 (d := (d + 1)) hot hcj) ?_
        refine mw_go mu_g123 (k := 3) (f1 := (186, [(4, .inl (tx_find (fun j => mu_i H (mu_p (some 1000057) + 1000) j) (nI cj).toInt8.toInt32 0 (mu_n H (mu_p (some 1000057) + 1000)))), (0, .inr (.inr (some 81))), (1, .inl (nI cj)), (2, .inl y)], [.inl (tx_find (fun j => mu_i H (mu_p (some 1000057) + 1000) j) (nI cj).toInt8.toInt32 0 (mu_n H (mu_p (some 1000057) + 1000))), .inr (.inr (some 81))], H)) (C := []) rfl trivial ?_
        refine mw_if (P := (tx_find (fun j => mu_i H (mu_p (some 1000057) + 1000) j) (nI cj).toInt8.toInt32 0 (mu_n H (mu_p (some 1000057) + 1000))) < 0) (a := 189) (b := 194) (fun _ => rfl) trivial (fun h19 => ?_) (fun h19 => ?_)
        · -- 189: (tx_find (fun j => mu_i H (mu_p (some 1000057) + 1000) j) (nI cj).toInt8.toInt32 0 (mu_n H (mu_p (some 1000057) + 1000))) < 0
          refine mw_go mu_g123 (k := 6) (f1 := (207, [(4, .inl (tx_find (fun j => mu_i H (mu_p (some 1000057) + 1000) j) (nI cj).toInt8.toInt32 0 (mu_n H (mu_p (some 1000057) + 1000)))), (0, .inr (.inr (some 81))), (1, .inl (nI cj)), (2, .inl y)], [.inl (mu_i H 81 2), .inr (.inr (some 81))], (mu_si H 81 3 (115 : Int32)))) (C := [mu_is H (some 81) 4, mu_is (mu_si H 81 3 (115 : Int32)) (some 81) 4]) rfl (show (mu_is H (some 81) 4) ∧ (mu_is (mu_si H 81 3 (115 : Int32)) (some 81) 4) from ⟨h.1.1.is rfl, h.1.1.is rfl⟩) ?_
          rw [h.2.2.2.2.2.2.1]
          refine mw_go mu_g123 (k := 3) (f1 := (212, [(4, .inl (tx_find (fun j => mu_i H (mu_p (some 1000057) + 1000) j) (nI cj).toInt8.toInt32 0 (mu_n H (mu_p (some 1000057) + 1000)))), (0, .inr (.inr (some 81))), (1, .inl (nI cj)), (2, .inl y)], [], (mu_si (mu_si H 81 3 (115 : Int32)) 81 2 ((nI (la H)) + (1 : Int32))))) (C := [mu_is (mu_si H 81 3 (115 : Int32)) (some 81) 4]) rfl (show mu_is (mu_si H 81 3 (115 : Int32)) (some 81) 4 from h.1.1.is rfl) ?_
          rw [show nI (la H) + (1 : Int32) = nI (la H + 1) from nI_1 _]
          have hlo : lo [2, 3] H (mu_si (mu_si H 81 3 (115 : Int32)) 81 2 (nI (la H + 1))) := (lo.si (lo.refl [2, 3] H) (by decide)).si (by decide)
          obtain ⟨w1, w2⟩ := h.lo hlo (by decide) (by decide) (b := la H + 1) rfl (by omega)
          exact mw_of (fun _ => mu_ret rfl trivial (hΦ (mu_si (mu_si H 81 3 (115 : Int32)) 81 2 (nI (la H + 1))) w1 hlo (by omega)))
        · -- 194: not (tx_find (fun j => mu_i H (mu_p (some 1000057) + 1000) j) (nI cj).toInt8.toInt32 0 (mu_n H (mu_p (some 1000057) + 1000))) < 0
          refine mw_go mu_g123 (k := 7) (f1 := (207, [(4, .inl (tx_find (fun j => mu_i H (mu_p (some 1000057) + 1000) j) (nI cj).toInt8.toInt32 0 (mu_n H (mu_p (some 1000057) + 1000)))), (0, .inr (.inr (some 81))), (1, .inl (nI cj)), (2, .inl y)], [.inl (mu_i H 81 2), .inr (.inr (some 81))], (mu_si H 81 3 ((64 : Int32) + (tx_find (fun j => mu_i H (mu_p (some 1000057) + 1000) j) (nI cj).toInt8.toInt32 0 (mu_n H (mu_p (some 1000057) + 1000))))))) (C := [mu_is H (some 81) 4, mu_is (mu_si H 81 3 ((64 : Int32) + (tx_find (fun j => mu_i H (mu_p (some 1000057) + 1000) j) (nI cj).toInt8.toInt32 0 (mu_n H (mu_p (some 1000057) + 1000))))) (some 81) 4]) rfl (show (mu_is H (some 81) 4) ∧ (mu_is (mu_si H 81 3 ((64 : Int32) + (tx_find (fun j => mu_i H (mu_p (some 1000057) + 1000) j) (nI cj).toInt8.toInt32 0 (mu_n H (mu_p (some 1000057) + 1000))))) (some 81) 4) from ⟨h.1.1.is rfl, h.1.1.is rfl⟩) ?_
          rw [h.2.2.2.2.2.2.1]
          refine mw_go mu_g123 (k := 3) (f1 := (212, [(4, .inl (tx_find (fun j => mu_i H (mu_p (some 1000057) + 1000) j) (nI cj).toInt8.toInt32 0 (mu_n H (mu_p (some 1000057) + 1000)))), (0, .inr (.inr (some 81))), (1, .inl (nI cj)), (2, .inl y)], [], (mu_si (mu_si H 81 3 ((64 : Int32) + (tx_find (fun j => mu_i H (mu_p (some 1000057) + 1000) j) (nI cj).toInt8.toInt32 0 (mu_n H (mu_p (some 1000057) + 1000))))) 81 2 ((nI (la H)) + (1 : Int32))))) (C := [mu_is (mu_si H 81 3 ((64 : Int32) + (tx_find (fun j => mu_i H (mu_p (some 1000057) + 1000) j) (nI cj).toInt8.toInt32 0 (mu_n H (mu_p (some 1000057) + 1000))))) (some 81) 4]) rfl (show mu_is (mu_si H 81 3 ((64 : Int32) + (tx_find (fun j => mu_i H (mu_p (some 1000057) + 1000) j) (nI cj).toInt8.toInt32 0 (mu_n H (mu_p (some 1000057) + 1000))))) (some 81) 4 from h.1.1.is rfl) ?_
          rw [show nI (la H) + (1 : Int32) = nI (la H + 1) from nI_1 _]
          have hlo : lo [2, 3] H (mu_si (mu_si H 81 3 ((64 : Int32) + (tx_find (fun j => mu_i H (mu_p (some 1000057) + 1000) j) (nI cj).toInt8.toInt32 0 (mu_n H (mu_p (some 1000057) + 1000))))) 81 2 (nI (la H + 1))) := (lo.si (lo.refl [2, 3] H) (by decide)).si (by decide)
          obtain ⟨w1, w2⟩ := h.lo hlo (by decide) (by decide) (b := la H + 1) rfl (by omega)
          exact mw_of (fun _ => mu_ret rfl trivial (hΦ (mu_si (mu_si H 81 3 ((64 : Int32) + (tx_find (fun j => mu_i H (mu_p (some 1000057) + 1000) j) (nI cj).toInt8.toInt32 0 (mu_n H (mu_p (some 1000057) + 1000))))) 81 2 (nI (la H + 1))) w1 hlo (by omega)))
  · -- 108: not (nI cj) = (60 : Int32)
    refine mw_go mu_g123 (k := 2) (f1 := (111, [(4, .inl (0 : Int32)), (3, .inl z), (2, .inl y), (1, .inl (nI cj)), (0, .inr (.inr (some 81)))], [], H)) (C := []) rfl trivial ?_
    show mu_W _ _ (111, [(4, .inl (nI 0)), (3, .inl z), (2, .inl y), (1, .inl (nI cj)), (0, .inr (.inr (some 81)))], [], H) _
    refine mw_sub (L' := [(4, .inl (nI 0)), (0, .inr (.inr (some 81))), (1, .inl (nI cj)), (2, .inl y)]) (by simp) ?_
    refine mw_down (α := Nat) (fun zs => (111, [(4, .inl (nI zs)), (0, .inr (.inr (some 81))), (1, .inl (nI cj)), (2, .inl y)], [], H)) (fun zs => 12 - zs) (fun zs => (zs ≤ 12)) (fun zs hs ih => ?_) 0 (show 0 ≤ 12 from by omega)
    obtain ⟨i, rfl⟩ : ∃ y, y = zs := ⟨zs, rfl⟩
    have hi12 := hs
    have hi12 : i ≤ 12 := hi12
    show mu_W _ _ (111, [(4, .inl (nI i)), (0, .inr (.inr (some 81))), (1, .inl (nI cj)), (2, .inl y)], [], H) _
    refine mw_go mu_g123 (k := 4) (f1 := (117, [(4, .inl (nI i)), (0, .inr (.inr (some 81))), (1, .inl (nI cj)), (2, .inl y)], [.inr (.inr (some 1000056)), .inl ((nI i) + (1 : Int32))], H)) (C := []) rfl trivial ?_
    refine mw_cIe (fun _ => rfl) (show mu_str (some 1000056) from ⟨rfl, by decide, by decide⟩) (lx_len56 (d := (d + 4)) hot) ?_
    refine mw_if (P := ((nI i) + (1 : Int32)) < (12 : Int32)) (a := 123) (b := 175) (fun _ => rfl) trivial (fun h21 => ?_) (fun h21 => ?_)
    · -- 123: ((nI i) + (1 : Int32)) < (12 : Int32)
      have hi2 : i + 1 < 12 := (nI_ltI (b := 12) (by omega) (by decide)).mp (by rw [← nI_1]; exact h21)
      refine mw_go mu_g123 (k := 2) (f1 := (127, [(4, .inl (nI i)), (0, .inr (.inr (some 81))), (1, .inl (nI cj)), (2, .inl y)], [.inl (nI i), .inr (.inr (some 1000056))], H)) (C := []) rfl trivial ?_
      refine mw_cIe (fun _ => rfl) (show mu_str (some 1000056) from ⟨rfl, by decide, by decide⟩) (lx_at56 (d := (d + 2)) hot (i := i) (by omega)) ?_
      refine mw_go mu_g123 (k := 1) (f1 := (131, [(4, .inl (nI i)), (0, .inr (.inr (some 81))), (1, .inl (nI cj)), (2, .inl y)], [.inl (nI cj), .inl (lx_d2 i)], H)) (C := []) rfl trivial ?_
      refine mw_if (P := (lx_d2 i) = (nI cj)) (a := 134) (b := 169) (fun _ => rfl) trivial (fun h23 => ?_) (fun h23 => ?_)
      · -- 134: (lx_d2 i) = (nI cj)
        refine mw_go mu_g123 (k := 4) (f1 := (140, [(4, .inl (nI i)), (0, .inr (.inr (some 81))), (1, .inl (nI cj)), (2, .inl y)], [.inl ((nI i) + (1 : Int32)), .inr (.inr (some 1000056))], H)) (C := []) rfl trivial ?_
        refine mw_cIe (fun _ => rfl) (show mu_str (some 1000056) from ⟨rfl, by decide, by decide⟩) (show mu_TI (mu_D (d + 6)) 8 [.inr (.inr (some 1000056)), .inl (nI i + 1)] H (fun x H1 => x = lx_d2 (i + 1) ∧ H1 = H) from by rw [nI_1]; exact lx_at56 (d := (d + 2)) hot (by omega)) ?_
        refine mw_go mu_g123 (k := 1) (f1 := (144, [(4, .inl (nI i)), (0, .inr (.inr (some 81))), (1, .inl (nI cj)), (2, .inl y)], [.inl y, .inl (lx_d2 (i + 1))], H)) (C := []) rfl trivial ?_
        refine mw_if (P := (lx_d2 (i + 1)) = y) (a := 147) (b := 169) (fun _ => rfl) trivial (fun h25 => ?_) (fun h25 => ?_)
        · -- 147: (lx_d2 (i + 1)) = y
          have hy1 := hy (by rw [← h25]; exact lx_d2_ne hi2)
          refine mw_go mu_g123 (k := 10) (f1 := (163, [(4, .inl (nI i)), (0, .inr (.inr (some 81))), (1, .inl (nI cj)), (2, .inl y)], [.inl (mu_i H 81 2), .inr (.inr (some 81))], (mu_si H 81 3 ((96 : Int32) + ((nI i) / (2 : Int32)))))) (C := [¬ (2 : Int32) = 0, mu_is H (some 81) 4, mu_is (mu_si H 81 3 ((96 : Int32) + ((nI i) / (2 : Int32)))) (some 81) 4]) rfl (show (¬ (2 : Int32) = 0) ∧ (mu_is H (some 81) 4) ∧ (mu_is (mu_si H 81 3 ((96 : Int32) + ((nI i) / (2 : Int32)))) (some 81) 4) from ⟨(by decide), h.1.1.is rfl, h.1.1.is rfl⟩) ?_
          rw [h.2.2.2.2.2.2.1]
          refine mw_go mu_g123 (k := 3) (f1 := (168, [(4, .inl (nI i)), (0, .inr (.inr (some 81))), (1, .inl (nI cj)), (2, .inl y)], [], (mu_si (mu_si H 81 3 ((96 : Int32) + ((nI i) / (2 : Int32)))) 81 2 ((nI (la H)) + (2 : Int32))))) (C := [mu_is (mu_si H 81 3 ((96 : Int32) + ((nI i) / (2 : Int32)))) (some 81) 4]) rfl (show mu_is (mu_si H 81 3 ((96 : Int32) + ((nI i) / (2 : Int32)))) (some 81) 4 from h.1.1.is rfl) ?_
          rw [show nI (la H) + (2 : Int32) = nI (la H + 2) from nI_up2]
          have hlo : lo [2, 3] H (mu_si (mu_si H 81 3 ((96 : Int32) + ((nI i) / (2 : Int32)))) 81 2 (nI (la H + 2))) := (lo.si (lo.refl [2, 3] H) (by decide)).si (by decide)
          obtain ⟨w1, w2⟩ := h.lo hlo (by decide) (by decide) (b := la H + 2) rfl (by omega)
          exact mw_of (fun _ => mu_ret rfl trivial (hΦ (mu_si (mu_si H 81 3 ((96 : Int32) + ((nI i) / (2 : Int32)))) 81 2 (nI (la H + 2))) w1 hlo (by omega)))
        · -- 169: not (lx_d2 (i + 1)) = y
          refine mw_go mu_g123 (k := 2) (f1 := (111, [(4, .inl ((nI i) + 2)), (0, .inr (.inr (some 81))), (1, .inl (nI cj)), (2, .inl y)], [], H)) (C := []) rfl trivial ?_
          rw [show nI i + 2 = nI (i + 2) from nI_up2]
          exact mw_sub (by simp) (ih (i + 2) (show (i + 2) ≤ 12 from by omega) (by show 12 - (i + 2) < 12 - i; omega))
      · -- 169: not (lx_d2 i) = (nI cj)
        refine mw_go mu_g123 (k := 2) (f1 := (111, [(4, .inl ((nI i) + 2)), (0, .inr (.inr (some 81))), (1, .inl (nI cj)), (2, .inl y)], [], H)) (C := []) rfl trivial ?_
        rw [show nI i + 2 = nI (i + 2) from nI_up2]
        exact mw_sub (by simp) (ih (i + 2) (show (i + 2) ≤ 12 from by omega) (by show 12 - (i + 2) < 12 - i; omega))
    · -- 175: not ((nI i) + (1 : Int32)) < (12 : Int32)
      refine mw_go mu_g123 (k := 2) (f1 := (178, [(4, .inl (nI i)), (0, .inr (.inr (some 81))), (1, .inl (nI cj)), (2, .inl y)], [.inl (nI cj), .inr (.inr (some 1000057))], H)) (C := []) rfl trivial ?_
      refine mw_cIe (fun _ => rfl) (show mu_str (some 1000057) from ⟨rfl, by decide, by decide⟩) (lx_ix57 (d := (d + 1)) hot hcj) ?_
      refine mw_go mu_g123 (k := 3) (f1 := (186, [(4, .inl (tx_find (fun j => mu_i H (mu_p (some 1000057) + 1000) j) (nI cj).toInt8.toInt32 0 (mu_n H (mu_p (some 1000057) + 1000)))), (0, .inr (.inr (some 81))), (1, .inl (nI cj)), (2, .inl y)], [.inl (tx_find (fun j => mu_i H (mu_p (some 1000057) + 1000) j) (nI cj).toInt8.toInt32 0 (mu_n H (mu_p (some 1000057) + 1000))), .inr (.inr (some 81))], H)) (C := []) rfl trivial ?_
      refine mw_if (P := (tx_find (fun j => mu_i H (mu_p (some 1000057) + 1000) j) (nI cj).toInt8.toInt32 0 (mu_n H (mu_p (some 1000057) + 1000))) < 0) (a := 189) (b := 194) (fun _ => rfl) trivial (fun h27 => ?_) (fun h27 => ?_)
      · -- 189: (tx_find (fun j => mu_i H (mu_p (some 1000057) + 1000) j) (nI cj).toInt8.toInt32 0 (mu_n H (mu_p (some 1000057) + 1000))) < 0
        refine mw_go mu_g123 (k := 6) (f1 := (207, [(4, .inl (tx_find (fun j => mu_i H (mu_p (some 1000057) + 1000) j) (nI cj).toInt8.toInt32 0 (mu_n H (mu_p (some 1000057) + 1000)))), (0, .inr (.inr (some 81))), (1, .inl (nI cj)), (2, .inl y)], [.inl (mu_i H 81 2), .inr (.inr (some 81))], (mu_si H 81 3 (115 : Int32)))) (C := [mu_is H (some 81) 4, mu_is (mu_si H 81 3 (115 : Int32)) (some 81) 4]) rfl (show (mu_is H (some 81) 4) ∧ (mu_is (mu_si H 81 3 (115 : Int32)) (some 81) 4) from ⟨h.1.1.is rfl, h.1.1.is rfl⟩) ?_
        rw [h.2.2.2.2.2.2.1]
        refine mw_go mu_g123 (k := 3) (f1 := (212, [(4, .inl (tx_find (fun j => mu_i H (mu_p (some 1000057) + 1000) j) (nI cj).toInt8.toInt32 0 (mu_n H (mu_p (some 1000057) + 1000)))), (0, .inr (.inr (some 81))), (1, .inl (nI cj)), (2, .inl y)], [], (mu_si (mu_si H 81 3 (115 : Int32)) 81 2 ((nI (la H)) + (1 : Int32))))) (C := [mu_is (mu_si H 81 3 (115 : Int32)) (some 81) 4]) rfl (show mu_is (mu_si H 81 3 (115 : Int32)) (some 81) 4 from h.1.1.is rfl) ?_
        rw [show nI (la H) + (1 : Int32) = nI (la H + 1) from nI_1 _]
        have hlo : lo [2, 3] H (mu_si (mu_si H 81 3 (115 : Int32)) 81 2 (nI (la H + 1))) := (lo.si (lo.refl [2, 3] H) (by decide)).si (by decide)
        obtain ⟨w1, w2⟩ := h.lo hlo (by decide) (by decide) (b := la H + 1) rfl (by omega)
        exact mw_of (fun _ => mu_ret rfl trivial (hΦ (mu_si (mu_si H 81 3 (115 : Int32)) 81 2 (nI (la H + 1))) w1 hlo (by omega)))
      · -- 194: not (tx_find (fun j => mu_i H (mu_p (some 1000057) + 1000) j) (nI cj).toInt8.toInt32 0 (mu_n H (mu_p (some 1000057) + 1000))) < 0
        refine mw_go mu_g123 (k := 7) (f1 := (207, [(4, .inl (tx_find (fun j => mu_i H (mu_p (some 1000057) + 1000) j) (nI cj).toInt8.toInt32 0 (mu_n H (mu_p (some 1000057) + 1000)))), (0, .inr (.inr (some 81))), (1, .inl (nI cj)), (2, .inl y)], [.inl (mu_i H 81 2), .inr (.inr (some 81))], (mu_si H 81 3 ((64 : Int32) + (tx_find (fun j => mu_i H (mu_p (some 1000057) + 1000) j) (nI cj).toInt8.toInt32 0 (mu_n H (mu_p (some 1000057) + 1000))))))) (C := [mu_is H (some 81) 4, mu_is (mu_si H 81 3 ((64 : Int32) + (tx_find (fun j => mu_i H (mu_p (some 1000057) + 1000) j) (nI cj).toInt8.toInt32 0 (mu_n H (mu_p (some 1000057) + 1000))))) (some 81) 4]) rfl (show (mu_is H (some 81) 4) ∧ (mu_is (mu_si H 81 3 ((64 : Int32) + (tx_find (fun j => mu_i H (mu_p (some 1000057) + 1000) j) (nI cj).toInt8.toInt32 0 (mu_n H (mu_p (some 1000057) + 1000))))) (some 81) 4) from ⟨h.1.1.is rfl, h.1.1.is rfl⟩) ?_
        rw [h.2.2.2.2.2.2.1]
        refine mw_go mu_g123 (k := 3) (f1 := (212, [(4, .inl (tx_find (fun j => mu_i H (mu_p (some 1000057) + 1000) j) (nI cj).toInt8.toInt32 0 (mu_n H (mu_p (some 1000057) + 1000)))), (0, .inr (.inr (some 81))), (1, .inl (nI cj)), (2, .inl y)], [], (mu_si (mu_si H 81 3 ((64 : Int32) + (tx_find (fun j => mu_i H (mu_p (some 1000057) + 1000) j) (nI cj).toInt8.toInt32 0 (mu_n H (mu_p (some 1000057) + 1000))))) 81 2 ((nI (la H)) + (1 : Int32))))) (C := [mu_is (mu_si H 81 3 ((64 : Int32) + (tx_find (fun j => mu_i H (mu_p (some 1000057) + 1000) j) (nI cj).toInt8.toInt32 0 (mu_n H (mu_p (some 1000057) + 1000))))) (some 81) 4]) rfl (show mu_is (mu_si H 81 3 ((64 : Int32) + (tx_find (fun j => mu_i H (mu_p (some 1000057) + 1000) j) (nI cj).toInt8.toInt32 0 (mu_n H (mu_p (some 1000057) + 1000))))) (some 81) 4 from h.1.1.is rfl) ?_
        rw [show nI (la H) + (1 : Int32) = nI (la H + 1) from nI_1 _]
        have hlo : lo [2, 3] H (mu_si (mu_si H 81 3 ((64 : Int32) + (tx_find (fun j => mu_i H (mu_p (some 1000057) + 1000) j) (nI cj).toInt8.toInt32 0 (mu_n H (mu_p (some 1000057) + 1000))))) 81 2 (nI (la H + 1))) := (lo.si (lo.refl [2, 3] H) (by decide)).si (by decide)
        obtain ⟨w1, w2⟩ := h.lo hlo (by decide) (by decide) (b := la H + 1) rfl (by omega)
        exact mw_of (fun _ => mu_ret rfl trivial (hΦ (mu_si (mu_si H 81 3 ((64 : Int32) + (tx_find (fun j => mu_i H (mu_p (some 1000057) + 1000) j) (nI cj).toInt8.toInt32 0 (mu_n H (mu_p (some 1000057) + 1000))))) 81 2 (nI (la H + 1))) w1 hlo (by omega)))
theorem ls_sign (h : ls t n H) (hlt : la H < n) : mu_TV (mu_D (d + 7)) 123 [.inr (.inr (some 81))] H (fun H1 => ls t n H1 ∧ lo [2, 3] H H1 ∧ la H + 1 ≤ la H1) := by
  have ht24 := h.2.2.2.2.1
  refine mu_meth (M := mu_m123) rfl rfl ?_
  refine mw_ht (mu_fn_of (show [0].Nodup by decide)) ?_
  refine mw_go mu_g123 (k := 2) (f1 := (4, [(0, .inr (.inr (some 81)))], [.inr (.inr (mu_r H 81 0))], H)) (C := [mu_is H (some 81) 4]) rfl (show mu_is H (some 81) 4 from h.1.1.is rfl) ?_
  rw [h.2.1]
  refine mw_go mu_g123 (k := 2) (f1 := (8, [(0, .inr (.inr (some 81)))], [.inl (mu_i H 81 2), .inr (.inr (some t))], H)) (C := [mu_is H (some 81) 4]) rfl (show mu_is H (some 81) 4 from h.1.1.is rfl) ?_
  rw [h.2.2.2.2.2.2.1]
  refine mw_go mu_g123 (k := 5) (f1 := (15, [(1, .inl ((((mu_i H t (nI (la H)).toNatClampNeg) &&& (255 : Int32)).toUInt32 % 65536).toInt32)), (0, .inr (.inr (some 81)))], [], H)) (C := [mu_isr H (some t) 101, vp_in (nI (la H)) (mu_n H t)]) rfl (show (mu_isr H (some t) 101) ∧ (vp_in (nI (la H)) (mu_n H t)) from ⟨h.2.2.1.r, (vp_in_nI (by omega) (by omega))⟩) ?_
  obtain ⟨cj, hcj, ecj⟩ := tx_chr_ok (mu_i H t (nI (la H)).toNatClampNeg)
  rw [show ((((mu_i H t (nI (la H)).toNatClampNeg) &&& (255 : Int32)).toUInt32 % 65536).toInt32) = nI cj from ecj]
  refine mw_go mu_g123 (k := 2) (f1 := (19, [(1, .inl (nI cj)), (0, .inr (.inr (some 81)))], [.inl (mu_i H 81 2)], H)) (C := [mu_is H (some 81) 4]) rfl (show mu_is H (some 81) 4 from h.1.1.is rfl) ?_
  rw [h.2.2.2.2.2.2.1]
  refine mw_go mu_g123 (k := 4) (f1 := (25, [(1, .inl (nI cj)), (0, .inr (.inr (some 81)))], [.inl (mu_i H 81 1), .inl ((nI (la H)) + (1 : Int32))], H)) (C := [mu_is H (some 81) 4]) rfl (show mu_is H (some 81) 4 from h.1.1.is rfl) ?_
  rw [h.2.2.2.2.2.1]
  refine mw_if (P := ((nI (la H)) + (1 : Int32)) < (nI n)) (a := 28) (b := 42) (fun _ => rfl) trivial (fun h1 => ?_) (fun h1 => ?_)
  · -- 28: ((nI (la H)) + (1 : Int32)) < (nI n)
    have h1n : la H + 1 < n := (nI_ltI (by omega) (by omega)).mp (by rw [← nI_1]; exact h1)
    refine mw_go mu_g123 (k := 2) (f1 := (32, [(1, .inl (nI cj)), (0, .inr (.inr (some 81)))], [.inr (.inr (mu_r H 81 0))], H)) (C := [mu_is H (some 81) 4]) rfl (show mu_is H (some 81) 4 from h.1.1.is rfl) ?_
    rw [h.2.1]
    refine mw_go mu_g123 (k := 2) (f1 := (36, [(1, .inl (nI cj)), (0, .inr (.inr (some 81)))], [.inl (mu_i H 81 2), .inr (.inr (some t))], H)) (C := [mu_is H (some 81) 4]) rfl (show mu_is H (some 81) 4 from h.1.1.is rfl) ?_
    rw [h.2.2.2.2.2.2.1]
    refine mw_go mu_g123 (k := 7) (f1 := (48, [(2, .inl (mu_i H t ((nI (la H)) + (1 : Int32)).toNatClampNeg)), (1, .inl (nI cj)), (0, .inr (.inr (some 81)))], [.inl (mu_i H 81 2)], H)) (C := [mu_isr H (some t) 101, vp_in ((nI (la H)) + (1 : Int32)) (mu_n H t), mu_is H (some 81) 4]) rfl (show (mu_isr H (some t) 101) ∧ (vp_in ((nI (la H)) + (1 : Int32)) (mu_n H t)) ∧ (mu_is H (some 81) 4) from ⟨h.2.2.1.r, (by rw [nI_1]; exact vp_in_nI (by omega) (by omega)), h.1.1.is rfl⟩) ?_
    rw [h.2.2.2.2.2.2.1]
    refine mw_go mu_g123 (k := 4) (f1 := (54, [(2, .inl (mu_i H t ((nI (la H)) + (1 : Int32)).toNatClampNeg)), (1, .inl (nI cj)), (0, .inr (.inr (some 81)))], [.inl (mu_i H 81 1), .inl ((nI (la H)) + (2 : Int32))], H)) (C := [mu_is H (some 81) 4]) rfl (show mu_is H (some 81) 4 from h.1.1.is rfl) ?_
    rw [h.2.2.2.2.2.1]
    refine mw_if (P := ((nI (la H)) + (2 : Int32)) < (nI n)) (a := 57) (b := 71) (fun _ => rfl) trivial (fun h2 => ?_) (fun h2 => ?_)
    · -- 57: ((nI (la H)) + (2 : Int32)) < (nI n)
      have h2n : la H + 2 < n := (nI_ltI (by omega) (by omega)).mp (by rw [← nI_up2]; exact h2)
      refine mw_go mu_g123 (k := 2) (f1 := (61, [(2, .inl (mu_i H t ((nI (la H)) + (1 : Int32)).toNatClampNeg)), (1, .inl (nI cj)), (0, .inr (.inr (some 81)))], [.inr (.inr (mu_r H 81 0))], H)) (C := [mu_is H (some 81) 4]) rfl (show mu_is H (some 81) 4 from h.1.1.is rfl) ?_
      rw [h.2.1]
      refine mw_go mu_g123 (k := 2) (f1 := (65, [(2, .inl (mu_i H t ((nI (la H)) + (1 : Int32)).toNatClampNeg)), (1, .inl (nI cj)), (0, .inr (.inr (some 81)))], [.inl (mu_i H 81 2), .inr (.inr (some t))], H)) (C := [mu_is H (some 81) 4]) rfl (show mu_is H (some 81) 4 from h.1.1.is rfl) ?_
      rw [h.2.2.2.2.2.2.1]
      refine mw_go mu_g123 (k := 5) (f1 := (73, [(3, .inl (mu_i H t ((nI (la H)) + (2 : Int32)).toNatClampNeg)), (2, .inl (mu_i H t ((nI (la H)) + (1 : Int32)).toNatClampNeg)), (1, .inl (nI cj)), (0, .inr (.inr (some 81)))], [], H)) (C := [mu_isr H (some t) 101, vp_in ((nI (la H)) + (2 : Int32)) (mu_n H t)]) rfl (show (mu_isr H (some t) 101) ∧ (vp_in ((nI (la H)) + (2 : Int32)) (mu_n H t)) from ⟨h.2.2.1.r, (by rw [nI_up2]; exact vp_in_nI (by omega) (by omega))⟩) ?_
      refine mw_sub (L' := [(3, .inl (mu_i H t ((nI (la H)) + (2 : Int32)).toNatClampNeg)), (2, .inl (mu_i H t ((nI (la H)) + (1 : Int32)).toNatClampNeg)), (1, .inl (nI cj)), (0, .inr (.inr (some 81)))]) (by simp) ?_
      exact ls_sign_tail h hlt hcj (fun _ => h1n) (fun _ => h2n) (fun H1 w1 w2 w3 => ⟨H1, rfl, w1, w2, w3⟩)
    · -- 71: not ((nI (la H)) + (2 : Int32)) < (nI n)
      refine mw_go mu_g123 (k := 2) (f1 := (73, [(3, .inl (0 : Int32)), (2, .inl (mu_i H t ((nI (la H)) + (1 : Int32)).toNatClampNeg)), (1, .inl (nI cj)), (0, .inr (.inr (some 81)))], [], H)) (C := []) rfl trivial ?_
      refine mw_sub (L' := [(3, .inl (0 : Int32)), (2, .inl (mu_i H t ((nI (la H)) + (1 : Int32)).toNatClampNeg)), (1, .inl (nI cj)), (0, .inr (.inr (some 81)))]) (by simp) ?_
      exact ls_sign_tail h hlt hcj (fun _ => h1n) (fun z => absurd rfl z) (fun H1 w1 w2 w3 => ⟨H1, rfl, w1, w2, w3⟩)
  · -- 42: not ((nI (la H)) + (1 : Int32)) < (nI n)
    refine mw_go mu_g123 (k := 4) (f1 := (48, [(2, .inl (0 : Int32)), (1, .inl (nI cj)), (0, .inr (.inr (some 81)))], [.inl (mu_i H 81 2)], H)) (C := [mu_is H (some 81) 4]) rfl (show mu_is H (some 81) 4 from h.1.1.is rfl) ?_
    rw [h.2.2.2.2.2.2.1]
    refine mw_go mu_g123 (k := 4) (f1 := (54, [(2, .inl (0 : Int32)), (1, .inl (nI cj)), (0, .inr (.inr (some 81)))], [.inl (mu_i H 81 1), .inl ((nI (la H)) + (2 : Int32))], H)) (C := [mu_is H (some 81) 4]) rfl (show mu_is H (some 81) 4 from h.1.1.is rfl) ?_
    rw [h.2.2.2.2.2.1]
    refine mw_if (P := ((nI (la H)) + (2 : Int32)) < (nI n)) (a := 57) (b := 71) (fun _ => rfl) trivial (fun h3 => ?_) (fun h3 => ?_)
    · -- 57: ((nI (la H)) + (2 : Int32)) < (nI n)
      have h2n : la H + 2 < n := (nI_ltI (by omega) (by omega)).mp (by rw [← nI_up2]; exact h3)
      refine mw_go mu_g123 (k := 2) (f1 := (61, [(2, .inl (0 : Int32)), (1, .inl (nI cj)), (0, .inr (.inr (some 81)))], [.inr (.inr (mu_r H 81 0))], H)) (C := [mu_is H (some 81) 4]) rfl (show mu_is H (some 81) 4 from h.1.1.is rfl) ?_
      rw [h.2.1]
      refine mw_go mu_g123 (k := 2) (f1 := (65, [(2, .inl (0 : Int32)), (1, .inl (nI cj)), (0, .inr (.inr (some 81)))], [.inl (mu_i H 81 2), .inr (.inr (some t))], H)) (C := [mu_is H (some 81) 4]) rfl (show mu_is H (some 81) 4 from h.1.1.is rfl) ?_
      rw [h.2.2.2.2.2.2.1]
      refine mw_go mu_g123 (k := 5) (f1 := (73, [(3, .inl (mu_i H t ((nI (la H)) + (2 : Int32)).toNatClampNeg)), (2, .inl (0 : Int32)), (1, .inl (nI cj)), (0, .inr (.inr (some 81)))], [], H)) (C := [mu_isr H (some t) 101, vp_in ((nI (la H)) + (2 : Int32)) (mu_n H t)]) rfl (show (mu_isr H (some t) 101) ∧ (vp_in ((nI (la H)) + (2 : Int32)) (mu_n H t)) from ⟨h.2.2.1.r, (by rw [nI_up2]; exact vp_in_nI (by omega) (by omega))⟩) ?_
      refine mw_sub (L' := [(3, .inl (mu_i H t ((nI (la H)) + (2 : Int32)).toNatClampNeg)), (2, .inl (0 : Int32)), (1, .inl (nI cj)), (0, .inr (.inr (some 81)))]) (by simp) ?_
      exact ls_sign_tail h hlt hcj (fun z => absurd rfl z) (fun _ => h2n) (fun H1 w1 w2 w3 => ⟨H1, rfl, w1, w2, w3⟩)
    · -- 71: not ((nI (la H)) + (2 : Int32)) < (nI n)
      refine mw_go mu_g123 (k := 2) (f1 := (73, [(3, .inl (0 : Int32)), (2, .inl (0 : Int32)), (1, .inl (nI cj)), (0, .inr (.inr (some 81)))], [], H)) (C := []) rfl trivial ?_
      refine mw_sub (L' := [(3, .inl (0 : Int32)), (2, .inl (0 : Int32)), (1, .inl (nI cj)), (0, .inr (.inr (some 81)))]) (by simp) ?_
      exact ls_sign_tail h hlt hcj (fun z => absurd rfl z) (fun z => absurd rfl z) (fun H1 w1 w2 w3 => ⟨H1, rfl, w1, w2, w3⟩)
end LexSigns
