/-! THE MODEL EMPTIED; THE PARSER: a TEXT is parsed -/
section ModelClear
variable {H H1 : mu_H} {m k : Nat}
def md_S (m p : Nat) : Bool := decide (m < p ∧ p ≤ m + 37)
/-- the first k tables of the Model at m are emptied -/
def cl (m k : Nat) (H H1 : mu_H) : Prop := gi H1 ∧ gk (md_S m) H H1 ∧ (∀ j, j < k → gi_sz H1 (m + 1 + 2 * j) = 0) ∧ (∀ r, (∀ j, j < k → r ≠ m + 1 + 2 * j) → gi_sz H1 r = gi_sz H r) ∧ (∀ r, gi_cap H1 r = gi_cap H r) ∧ (∀ p j, mu_r H1 p j = mu_r H p j)
theorem cl.refl (hg : gi H) : cl m 0 H H := ⟨hg, gk.refl _ H, fun j hj => by omega, fun _ _ => rfl, fun _ => rfl, fun _ _ => rfl⟩
theorem cl.step (hm : m = 2 ∨ m = 41) (h : cl m k H H1) (hk : k < 19) : cl m (k + 1) H (mu_si H1 (m + 1 + 2 * k) 2 0) := by
  obtain ⟨a, b, c, e, f, g⟩ := h
  have hw := ps_wm hm hk
  obtain ⟨g1, g2, g3⟩ := a.size (k := 0) hw (Nat.zero_le _)
  refine ⟨g1, b.trans (gk.si a (gi_w_ok hw).2.2.2.1 (decide_eq_true (by omega))), fun j hj => ?_, fun r hr => ?_, f, g⟩
  · by_cases e1 : j = k
    · rw [e1]; exact g2
    · exact (g3 _ (by omega)).trans (c j (by omega))
  · exact (g3 r (hr k (by omega))).trans (e r (fun j hj => hr j (by omega)))
end ModelClear
section ParseOpen
variable {H H1 : mu_H} {m t n B : Nat}
theorem gi_im (hg : gi H) (hm : m = 2 ∨ m = 41) : mu_is H (some m) 6 := by rcases hm with e | e <;> subst e <;> exact hg.is rfl
theorem gi_mr (hg : gi H) (hm : m = 2 ∨ m = 41) {j : Nat} (hj : j < 19) : mu_r H m j = some (m + 1 + 2 * j) := by
  rcases hm with e | e <;> subst e
  · exact hg.r ((show ∀ j, j < 19 → gi_r 2 j = some (2 + 1 + 2 * j) by decide +kernel) j hj)
  · exact hg.r ((show ∀ j, j < 19 → gi_r 41 j = some (41 + 1 + 2 * j) by decide +kernel) j hj)
/-- the Parser before its first TOKEN -/
def ps0 (m : Nat) (H : mu_H) : Prop := gi H ∧ (m = 2 ∨ m = 41) ∧ mu_r H 80 2 = some m ∧ gi_sz H 89 = 0 ∧ (1 ≤ gi_sz H 82 ∧ ¬ cel H 82 ((gi_sz H 82 - 1) * 3) < 114) ∧ mu_i H 80 3 = -1
theorem ps_adv0 (h : ps0 m H) {a' k' d' : Int32} (ha : a' = mu_min (mu_i H 80 3 + 1) (mu_i H 82 2 - 1)) (hk : k' = rw_get (mu_si H 80 3 a') 82 3 (gi_sz (mu_si H 80 3 a') 82) a' 0) : ps m (mu_si (mu_si (mu_si H 80 3 a') 80 4 k') 80 5 d') ∧ gk (ps_S m) H (mu_si (mu_si (mu_si H 80 3 a') 80 4 k') 80 5 d') ∧ mu_i (mu_si (mu_si (mu_si H 80 3 a') 80 4 k') 80 5 d') 80 3 = nI 0 ∧ (∀ r, r ≠ 80 → gi_sz (mu_si (mu_si (mu_si H 80 3 a') 80 4 k') 80 5 d') r = gi_sz H r) ∧ (∀ r, gi_cap (mu_si (mu_si (mu_si H 80 3 a') 80 4 k') 80 5 d') r = gi_cap H r) ∧ (∀ p j, mu_r (mu_si (mu_si (mu_si H 80 3 a') 80 4 k') 80 5 d') p j = mu_r H p j) := by
  obtain ⟨a, b, c, e, f, g⟩ := h
  have hR := a.w (r := 82) (W := 3) rfl
  have hn := rw_n hR
  have e2 : mu_i H 82 2 = nI (gi_sz H 82) := hR.2.2.2.1
  have ha0 : a' = nI 0 := by
    rw [ha, g, e2, show nI (gi_sz H 82) - 1 = nI (gi_sz H 82 - 1) from pk_sub (b := 1) (by omega)]
    unfold mu_min
    rw [if_neg (fun z => by
      have z : nI (gi_sz H 82 - 1) < nI 0 := z
      have := (nI_ltI (by omega) (by decide)).mp z
      omega)]
    rfl
  subst ha0
  have hne : ∀ r W, gi_w r = some W → mu_p (mu_r H r 1) ≠ 80 := fun r W hr => ((a.cell hr).1 80 7 rfl).symm
  have hcT : ∀ i, cel (mu_si (mu_si (mu_si H 80 3 (nI 0)) 80 4 k') 80 5 d') 82 i = cel H 82 i := fun i => by
    show mu_i (mu_si (mu_si (mu_si H 80 3 (nI 0)) 80 4 k') 80 5 d') (mu_p (mu_r H 82 1)) i = _
    rw [mu_i_si, if_neg (fun z => hne 82 3 rfl z.1), mu_i_si, if_neg (fun z => hne 82 3 rfl z.1), mu_i_si, if_neg (fun z => hne 82 3 rfl z.1)]
    rfl
  have hk2 : k' = cel H 82 0 := by
    rw [hk, show gi_sz (mu_si H 80 3 (nI 0)) 82 = gi_sz H 82 from rfl, rw_get_at hn (by omega) (by decide)]
    show mu_i (mu_si H 80 3 (nI 0)) (mu_p (mu_r H 82 1)) _ = _
    rw [mu_i_si, if_neg (fun z => hne 82 3 rfl z.1)]
    rfl
  have g1 := a.si (p := 80) (k := 7) (j := 3) (x := nI 0) rfl rfl
  have g2 := g1.si (p := 80) (k := 7) (j := 4) (x := k') rfl rfl
  refine ⟨⟨g2.si (k := 7) rfl rfl, b, c, fun i hi => ?_, ?_, 0, rfl, ?_, ?_⟩, ((gk.si a (k := 7) rfl (decide_eq_true (Or.inl rfl))).trans (gk.si g1 (k := 7) rfl (decide_eq_true (Or.inl rfl)))).trans (gk.si g2 (k := 7) rfl (decide_eq_true (Or.inl rfl))), rfl, fun r hr => ?_, fun _ => rfl, fun _ _ => rfl⟩
  · have : i < gi_sz H 89 := hi
    omega
  · show 1 ≤ gi_sz H 82 ∧ ¬ cel (mu_si (mu_si (mu_si H 80 3 (nI 0)) 80 4 k') 80 5 d') 82 ((gi_sz H 82 - 1) * 3) < 114
    rw [hcT]; exact f
  · show 0 < gi_sz H 82
    omega
  · show k' < 114 → 0 + 1 < gi_sz H 82
    intro hlt
    by_cases hx : 1 < gi_sz H 82
    · exact hx
    · exfalso
      have h1 : gi_sz H 82 = 1 := by omega
      rw [hk2] at hlt
      rw [h1] at f
      exact f.2 hlt
  · unfold gi_sz
    rw [mu_i_si, if_neg (fun z => hr z.1), mu_i_si, if_neg (fun z => hr z.1), mu_i_si, if_neg (fun z => hr z.1)]
def pr_S (m p : Nat) : Bool := decide (p = 80 ∨ p = 81 ∨ p = 82 ∨ p = 86 ∨ p = 89 ∨ (m < p ∧ p ≤ m + 37))
/-- what parse leaves -/
def pr (m t n : Nat) (H H1 : mu_H) : Prop := ps m H1 ∧ lk (pr_S m) H H1 ∧ (mu_r H1 81 0 = some t ∧ ∀ j, j ≠ 7 → j ≠ 0 → mu_r H1 81 j = mu_r H 81 j) ∧ ps_pot m H1 ≤ 12 * n + 60 ∧
  (∀ j, j < 19 → gi_cap H1 (m + 1 + 2 * j) ≤ max (gi_cap H (m + 1 + 2 * j)) (2 * (gi_sz H1 (m + 1 + 2 * j) * ps_W j) + ps_W j)) ∧ gi_cap H1 89 ≤ max (gi_cap H 89) (12 * n + 110) ∧
  mu_n H1 (lt7 H1) ≤ max (mu_n H (lt7 H)) (3 * (135 + n)) ∧ gi_cap H1 86 ≤ max (gi_cap H 86) (8 * (136 + n) + 4) ∧ gi_cap H1 82 ≤ max (gi_cap H 82) (6 * (n + 1) + 3)
end ParseOpen
section ParseText
variable {H : mu_H} {d m t n : Nat}
/-- PathProver$Model.clear()V -/
abbrev mu_m36 : ev_M := (1, none, [], ev_b36)
theorem mu_g36 : mu_good mu_m36 := mu_goodk ev_k36
theorem md_clear (hg : gi H) (hm : m = 2 ∨ m = 41) : mu_TV (mu_D (d + 2)) 36 [.inr (.inr (some m))] H (fun H1 => cl m 18 H H1) := by
  refine mu_meth (M := mu_m36) rfl rfl ?_
  refine mw_ht (mu_fn_of (show [0].Nodup by decide)) ?_
  refine mw_go mu_g36 (k := 2) (f1 := (4, [(0, .inr (.inr (some m)))], [.inr (.inr (mu_r H m 0))], H)) (C := [mu_is H (some m) 6]) rfl (show mu_is H (some m) 6 from gi_im hg hm) ?_
  rw [gi_mr hg hm (j := 0) (by decide), show m + 1 + 2 * 0 = m + 1 by omega]
  have w0 : gi_w (m + 1) = some 2 := by have z := ps_wm hm (j := 0) (by decide); rw [show m + 1 + 2 * 0 = m + 1 by omega] at z; exact z
  refine mw_cVe (fun _ => rfl) (show mu_is H (some (m + 1)) 10 from (hg.w w0).1) (rw_clear_ok (d := d) (hg.w w0)) ?_
  have z1 := (cl.refl hg).step hm (by decide)
  rw [show m + 1 + 2 * 0 = m + 1 by omega] at z1
  generalize mu_si H (m + 1) 2 0 = H1 at z1 ⊢
  refine mw_go mu_g36 (k := 2) (f1 := (11, [(0, .inr (.inr (some m)))], [.inr (.inr (mu_r H1 m 1))], H1)) (C := [mu_is H1 (some m) 6]) rfl (show mu_is H1 (some m) 6 from gi_im z1.1 hm) ?_
  rw [gi_mr z1.1 hm (j := 1) (by decide), show m + 1 + 2 * 1 = m + 3 by omega]
  have w1 : gi_w (m + 3) = some 11 := by have z := ps_wm hm (j := 1) (by decide); rw [show m + 1 + 2 * 1 = m + 3 by omega] at z; exact z
  refine mw_cVe (fun _ => rfl) (show mu_is H1 (some (m + 3)) 10 from (z1.1.w w1).1) (rw_clear_ok (d := d) (z1.1.w w1)) ?_
  have z2 := z1.step hm (by decide)
  rw [show m + 1 + 2 * 1 = m + 3 by omega] at z2
  generalize mu_si H1 (m + 3) 2 0 = H2 at z2 ⊢
  refine mw_go mu_g36 (k := 2) (f1 := (18, [(0, .inr (.inr (some m)))], [.inr (.inr (mu_r H2 m 2))], H2)) (C := [mu_is H2 (some m) 6]) rfl (show mu_is H2 (some m) 6 from gi_im z2.1 hm) ?_
  rw [gi_mr z2.1 hm (j := 2) (by decide), show m + 1 + 2 * 2 = m + 5 by omega]
  have w2 : gi_w (m + 5) = some 1 := by have z := ps_wm hm (j := 2) (by decide); rw [show m + 1 + 2 * 2 = m + 5 by omega] at z; exact z
  refine mw_cVe (fun _ => rfl) (show mu_is H2 (some (m + 5)) 10 from (z2.1.w w2).1) (rw_clear_ok (d := d) (z2.1.w w2)) ?_
  have z3 := z2.step hm (by decide)
  rw [show m + 1 + 2 * 2 = m + 5 by omega] at z3
  generalize mu_si H2 (m + 5) 2 0 = H3 at z3 ⊢
  refine mw_go mu_g36 (k := 2) (f1 := (25, [(0, .inr (.inr (some m)))], [.inr (.inr (mu_r H3 m 3))], H3)) (C := [mu_is H3 (some m) 6]) rfl (show mu_is H3 (some m) 6 from gi_im z3.1 hm) ?_
  rw [gi_mr z3.1 hm (j := 3) (by decide), show m + 1 + 2 * 3 = m + 7 by omega]
  have w3 : gi_w (m + 7) = some 6 := by have z := ps_wm hm (j := 3) (by decide); rw [show m + 1 + 2 * 3 = m + 7 by omega] at z; exact z
  refine mw_cVe (fun _ => rfl) (show mu_is H3 (some (m + 7)) 10 from (z3.1.w w3).1) (rw_clear_ok (d := d) (z3.1.w w3)) ?_
  have z4 := z3.step hm (by decide)
  rw [show m + 1 + 2 * 3 = m + 7 by omega] at z4
  generalize mu_si H3 (m + 7) 2 0 = H4 at z4 ⊢
  refine mw_go mu_g36 (k := 2) (f1 := (32, [(0, .inr (.inr (some m)))], [.inr (.inr (mu_r H4 m 4))], H4)) (C := [mu_is H4 (some m) 6]) rfl (show mu_is H4 (some m) 6 from gi_im z4.1 hm) ?_
  rw [gi_mr z4.1 hm (j := 4) (by decide), show m + 1 + 2 * 4 = m + 9 by omega]
  have w4 : gi_w (m + 9) = some 2 := by have z := ps_wm hm (j := 4) (by decide); rw [show m + 1 + 2 * 4 = m + 9 by omega] at z; exact z
  refine mw_cVe (fun _ => rfl) (show mu_is H4 (some (m + 9)) 10 from (z4.1.w w4).1) (rw_clear_ok (d := d) (z4.1.w w4)) ?_
  have z5 := z4.step hm (by decide)
  rw [show m + 1 + 2 * 4 = m + 9 by omega] at z5
  generalize mu_si H4 (m + 9) 2 0 = H5 at z5 ⊢
  refine mw_go mu_g36 (k := 2) (f1 := (39, [(0, .inr (.inr (some m)))], [.inr (.inr (mu_r H5 m 5))], H5)) (C := [mu_is H5 (some m) 6]) rfl (show mu_is H5 (some m) 6 from gi_im z5.1 hm) ?_
  rw [gi_mr z5.1 hm (j := 5) (by decide), show m + 1 + 2 * 5 = m + 11 by omega]
  have w5 : gi_w (m + 11) = some 2 := by have z := ps_wm hm (j := 5) (by decide); rw [show m + 1 + 2 * 5 = m + 11 by omega] at z; exact z
  refine mw_cVe (fun _ => rfl) (show mu_is H5 (some (m + 11)) 10 from (z5.1.w w5).1) (rw_clear_ok (d := d) (z5.1.w w5)) ?_
  have z6 := z5.step hm (by decide)
  rw [show m + 1 + 2 * 5 = m + 11 by omega] at z6
  generalize mu_si H5 (m + 11) 2 0 = H6 at z6 ⊢
  refine mw_go mu_g36 (k := 2) (f1 := (46, [(0, .inr (.inr (some m)))], [.inr (.inr (mu_r H6 m 6))], H6)) (C := [mu_is H6 (some m) 6]) rfl (show mu_is H6 (some m) 6 from gi_im z6.1 hm) ?_
  rw [gi_mr z6.1 hm (j := 6) (by decide), show m + 1 + 2 * 6 = m + 13 by omega]
  have w6 : gi_w (m + 13) = some 3 := by have z := ps_wm hm (j := 6) (by decide); rw [show m + 1 + 2 * 6 = m + 13 by omega] at z; exact z
  refine mw_cVe (fun _ => rfl) (show mu_is H6 (some (m + 13)) 10 from (z6.1.w w6).1) (rw_clear_ok (d := d) (z6.1.w w6)) ?_
  have z7 := z6.step hm (by decide)
  rw [show m + 1 + 2 * 6 = m + 13 by omega] at z7
  generalize mu_si H6 (m + 13) 2 0 = H7 at z7 ⊢
  refine mw_go mu_g36 (k := 2) (f1 := (53, [(0, .inr (.inr (some m)))], [.inr (.inr (mu_r H7 m 7))], H7)) (C := [mu_is H7 (some m) 6]) rfl (show mu_is H7 (some m) 6 from gi_im z7.1 hm) ?_
  rw [gi_mr z7.1 hm (j := 7) (by decide), show m + 1 + 2 * 7 = m + 15 by omega]
  have w7 : gi_w (m + 15) = some 4 := by have z := ps_wm hm (j := 7) (by decide); rw [show m + 1 + 2 * 7 = m + 15 by omega] at z; exact z
  refine mw_cVe (fun _ => rfl) (show mu_is H7 (some (m + 15)) 10 from (z7.1.w w7).1) (rw_clear_ok (d := d) (z7.1.w w7)) ?_
  have z8 := z7.step hm (by decide)
  rw [show m + 1 + 2 * 7 = m + 15 by omega] at z8
  generalize mu_si H7 (m + 15) 2 0 = H8 at z8 ⊢
  refine mw_go mu_g36 (k := 2) (f1 := (60, [(0, .inr (.inr (some m)))], [.inr (.inr (mu_r H8 m 8))], H8)) (C := [mu_is H8 (some m) 6]) rfl (show mu_is H8 (some m) 6 from gi_im z8.1 hm) ?_
  rw [gi_mr z8.1 hm (j := 8) (by decide), show m + 1 + 2 * 8 = m + 17 by omega]
  have w8 : gi_w (m + 17) = some 3 := by have z := ps_wm hm (j := 8) (by decide); rw [show m + 1 + 2 * 8 = m + 17 by omega] at z; exact z
  refine mw_cVe (fun _ => rfl) (show mu_is H8 (some (m + 17)) 10 from (z8.1.w w8).1) (rw_clear_ok (d := d) (z8.1.w w8)) ?_
  have z9 := z8.step hm (by decide)
  rw [show m + 1 + 2 * 8 = m + 17 by omega] at z9
  generalize mu_si H8 (m + 17) 2 0 = H9 at z9 ⊢
  refine mw_go mu_g36 (k := 2) (f1 := (67, [(0, .inr (.inr (some m)))], [.inr (.inr (mu_r H9 m 9))], H9)) (C := [mu_is H9 (some m) 6]) rfl (show mu_is H9 (some m) 6 from gi_im z9.1 hm) ?_
  rw [gi_mr z9.1 hm (j := 9) (by decide), show m + 1 + 2 * 9 = m + 19 by omega]
  have w9 : gi_w (m + 19) = some 4 := by have z := ps_wm hm (j := 9) (by decide); rw [show m + 1 + 2 * 9 = m + 19 by omega] at z; exact z
  refine mw_cVe (fun _ => rfl) (show mu_is H9 (some (m + 19)) 10 from (z9.1.w w9).1) (rw_clear_ok (d := d) (z9.1.w w9)) ?_
  have z10 := z9.step hm (by decide)
  rw [show m + 1 + 2 * 9 = m + 19 by omega] at z10
  generalize mu_si H9 (m + 19) 2 0 = H10 at z10 ⊢
  refine mw_go mu_g36 (k := 2) (f1 := (74, [(0, .inr (.inr (some m)))], [.inr (.inr (mu_r H10 m 10))], H10)) (C := [mu_is H10 (some m) 6]) rfl (show mu_is H10 (some m) 6 from gi_im z10.1 hm) ?_
  rw [gi_mr z10.1 hm (j := 10) (by decide), show m + 1 + 2 * 10 = m + 21 by omega]
  have w10 : gi_w (m + 21) = some 1 := by have z := ps_wm hm (j := 10) (by decide); rw [show m + 1 + 2 * 10 = m + 21 by omega] at z; exact z
  refine mw_cVe (fun _ => rfl) (show mu_is H10 (some (m + 21)) 10 from (z10.1.w w10).1) (rw_clear_ok (d := d) (z10.1.w w10)) ?_
  have z11 := z10.step hm (by decide)
  rw [show m + 1 + 2 * 10 = m + 21 by omega] at z11
  generalize mu_si H10 (m + 21) 2 0 = H11 at z11 ⊢
  refine mw_go mu_g36 (k := 2) (f1 := (81, [(0, .inr (.inr (some m)))], [.inr (.inr (mu_r H11 m 11))], H11)) (C := [mu_is H11 (some m) 6]) rfl (show mu_is H11 (some m) 6 from gi_im z11.1 hm) ?_
  rw [gi_mr z11.1 hm (j := 11) (by decide), show m + 1 + 2 * 11 = m + 23 by omega]
  have w11 : gi_w (m + 23) = some 4 := by have z := ps_wm hm (j := 11) (by decide); rw [show m + 1 + 2 * 11 = m + 23 by omega] at z; exact z
  refine mw_cVe (fun _ => rfl) (show mu_is H11 (some (m + 23)) 10 from (z11.1.w w11).1) (rw_clear_ok (d := d) (z11.1.w w11)) ?_
  have z12 := z11.step hm (by decide)
  rw [show m + 1 + 2 * 11 = m + 23 by omega] at z12
  generalize mu_si H11 (m + 23) 2 0 = H12 at z12 ⊢
  refine mw_go mu_g36 (k := 2) (f1 := (88, [(0, .inr (.inr (some m)))], [.inr (.inr (mu_r H12 m 12))], H12)) (C := [mu_is H12 (some m) 6]) rfl (show mu_is H12 (some m) 6 from gi_im z12.1 hm) ?_
  rw [gi_mr z12.1 hm (j := 12) (by decide), show m + 1 + 2 * 12 = m + 25 by omega]
  have w12 : gi_w (m + 25) = some 1 := by have z := ps_wm hm (j := 12) (by decide); rw [show m + 1 + 2 * 12 = m + 25 by omega] at z; exact z
  refine mw_cVe (fun _ => rfl) (show mu_is H12 (some (m + 25)) 10 from (z12.1.w w12).1) (rw_clear_ok (d := d) (z12.1.w w12)) ?_
  have z13 := z12.step hm (by decide)
  rw [show m + 1 + 2 * 12 = m + 25 by omega] at z13
  generalize mu_si H12 (m + 25) 2 0 = H13 at z13 ⊢
  refine mw_go mu_g36 (k := 2) (f1 := (95, [(0, .inr (.inr (some m)))], [.inr (.inr (mu_r H13 m 13))], H13)) (C := [mu_is H13 (some m) 6]) rfl (show mu_is H13 (some m) 6 from gi_im z13.1 hm) ?_
  rw [gi_mr z13.1 hm (j := 13) (by decide), show m + 1 + 2 * 13 = m + 27 by omega]
  have w13 : gi_w (m + 27) = some 6 := by have z := ps_wm hm (j := 13) (by decide); rw [show m + 1 + 2 * 13 = m + 27 by omega] at z; exact z
  refine mw_cVe (fun _ => rfl) (show mu_is H13 (some (m + 27)) 10 from (z13.1.w w13).1) (rw_clear_ok (d := d) (z13.1.w w13)) ?_
  have z14 := z13.step hm (by decide)
  rw [show m + 1 + 2 * 13 = m + 27 by omega] at z14
  generalize mu_si H13 (m + 27) 2 0 = H14 at z14 ⊢
  refine mw_go mu_g36 (k := 2) (f1 := (102, [(0, .inr (.inr (some m)))], [.inr (.inr (mu_r H14 m 14))], H14)) (C := [mu_is H14 (some m) 6]) rfl (show mu_is H14 (some m) 6 from gi_im z14.1 hm) ?_
  rw [gi_mr z14.1 hm (j := 14) (by decide), show m + 1 + 2 * 14 = m + 29 by omega]
  have w14 : gi_w (m + 29) = some 1 := by have z := ps_wm hm (j := 14) (by decide); rw [show m + 1 + 2 * 14 = m + 29 by omega] at z; exact z
  refine mw_cVe (fun _ => rfl) (show mu_is H14 (some (m + 29)) 10 from (z14.1.w w14).1) (rw_clear_ok (d := d) (z14.1.w w14)) ?_
  have z15 := z14.step hm (by decide)
  rw [show m + 1 + 2 * 14 = m + 29 by omega] at z15
  generalize mu_si H14 (m + 29) 2 0 = H15 at z15 ⊢
  refine mw_go mu_g36 (k := 2) (f1 := (109, [(0, .inr (.inr (some m)))], [.inr (.inr (mu_r H15 m 15))], H15)) (C := [mu_is H15 (some m) 6]) rfl (show mu_is H15 (some m) 6 from gi_im z15.1 hm) ?_
  rw [gi_mr z15.1 hm (j := 15) (by decide), show m + 1 + 2 * 15 = m + 31 by omega]
  have w15 : gi_w (m + 31) = some 4 := by have z := ps_wm hm (j := 15) (by decide); rw [show m + 1 + 2 * 15 = m + 31 by omega] at z; exact z
  refine mw_cVe (fun _ => rfl) (show mu_is H15 (some (m + 31)) 10 from (z15.1.w w15).1) (rw_clear_ok (d := d) (z15.1.w w15)) ?_
  have z16 := z15.step hm (by decide)
  rw [show m + 1 + 2 * 15 = m + 31 by omega] at z16
  generalize mu_si H15 (m + 31) 2 0 = H16 at z16 ⊢
  refine mw_go mu_g36 (k := 2) (f1 := (116, [(0, .inr (.inr (some m)))], [.inr (.inr (mu_r H16 m 16))], H16)) (C := [mu_is H16 (some m) 6]) rfl (show mu_is H16 (some m) 6 from gi_im z16.1 hm) ?_
  rw [gi_mr z16.1 hm (j := 16) (by decide), show m + 1 + 2 * 16 = m + 33 by omega]
  have w16 : gi_w (m + 33) = some 4 := by have z := ps_wm hm (j := 16) (by decide); rw [show m + 1 + 2 * 16 = m + 33 by omega] at z; exact z
  refine mw_cVe (fun _ => rfl) (show mu_is H16 (some (m + 33)) 10 from (z16.1.w w16).1) (rw_clear_ok (d := d) (z16.1.w w16)) ?_
  have z17 := z16.step hm (by decide)
  rw [show m + 1 + 2 * 16 = m + 33 by omega] at z17
  generalize mu_si H16 (m + 33) 2 0 = H17 at z17 ⊢
  refine mw_go mu_g36 (k := 2) (f1 := (123, [(0, .inr (.inr (some m)))], [.inr (.inr (mu_r H17 m 17))], H17)) (C := [mu_is H17 (some m) 6]) rfl (show mu_is H17 (some m) 6 from gi_im z17.1 hm) ?_
  rw [gi_mr z17.1 hm (j := 17) (by decide), show m + 1 + 2 * 17 = m + 35 by omega]
  have w17 : gi_w (m + 35) = some 3 := by have z := ps_wm hm (j := 17) (by decide); rw [show m + 1 + 2 * 17 = m + 35 by omega] at z; exact z
  refine mw_cVe (fun _ => rfl) (show mu_is H17 (some (m + 35)) 10 from (z17.1.w w17).1) (rw_clear_ok (d := d) (z17.1.w w17)) ?_
  have z18 := z17.step hm (by decide)
  rw [show m + 1 + 2 * 17 = m + 35 by omega] at z18
  generalize mu_si H17 (m + 35) 2 0 = H18 at z18 ⊢
  exact mw_of (fun _ => mu_ret rfl trivial ⟨_, rfl, z18⟩)

theorem pa_adv0 (h : ps0 m H) : mu_TV (mu_D (d + 2)) 44 [.inr (.inr (some 80))] H (fun H1 => ps m H1 ∧ gk (ps_S m) H H1 ∧ mu_i H1 80 3 = nI 0 ∧ (∀ r, r ≠ 80 → gi_sz H1 r = gi_sz H r) ∧ (∀ r, gi_cap H1 r = gi_cap H r) ∧ (∀ p j, mu_r H1 p j = mu_r H p j)) := by
  refine mu_meth (M := mu_m44) rfl rfl ?_
  refine mw_ht (mu_fn_of (show [0].Nodup by decide)) ?_
  refine mw_go mu_g44 (k := 7) (f1 := (11, [(0, .inr (.inr (some 80)))], [.inr (.inr (mu_r H 80 0)), .inl ((mu_i H 80 3) + (1 : Int32)), .inr (.inr (some 80))], H)) (C := [mu_is H (some 80) 7, mu_is H (some 80) 7]) rfl (show (mu_is H (some 80) 7) ∧ (mu_is H (some 80) 7) from ⟨h.1.is rfl, h.1.is rfl⟩) ?_
  rw [(h.1.r (p := 80) (j := 0) (q := 81) rfl)]
  refine mw_go mu_g44 (k := 1) (f1 := (14, [(0, .inr (.inr (some 80)))], [.inr (.inr (mu_r H 81 5)), .inl ((mu_i H 80 3) + (1 : Int32)), .inr (.inr (some 80))], H)) (C := [mu_is H (some 81) 4]) rfl (show mu_is H (some 81) 4 from h.1.is rfl) ?_
  rw [(h.1.r (p := 81) (j := 5) (q := 82) rfl)]
  refine mw_go mu_g44 (k := 3) (f1 := (19, [(0, .inr (.inr (some 80)))], [.inl ((mu_i H 82 2) - (1 : Int32)), .inl ((mu_i H 80 3) + (1 : Int32)), .inr (.inr (some 80))], H)) (C := [mu_is H (some 82) 10]) rfl (show mu_is H (some 82) 10 from h.1.is rfl) ?_
  refine mw_cIe (fun _ => rfl) trivial (mu_min_ok (d := d) ((mu_i H 80 3) + (1 : Int32)) ((mu_i H 82 2) - (1 : Int32))) ?_
  refine mw_go mu_g44 (k := 4) (f1 := (30, [(0, .inr (.inr (some 80)))], [.inr (.inr (mu_r H 80 0)), .inr (.inr (some 80))], (mu_si H 80 3 (mu_min ((mu_i H 80 3) + (1 : Int32)) ((mu_i H 82 2) - (1 : Int32)))))) (C := [mu_is H (some 80) 7, mu_is (mu_si H 80 3 (mu_min ((mu_i H 80 3) + (1 : Int32)) ((mu_i H 82 2) - (1 : Int32)))) (some 80) 7]) rfl (show (mu_is H (some 80) 7) ∧ (mu_is (mu_si H 80 3 (mu_min ((mu_i H 80 3) + (1 : Int32)) ((mu_i H 82 2) - (1 : Int32)))) (some 80) 7) from ⟨h.1.is rfl, h.1.is rfl⟩) ?_
  rw [(h.1.r (p := 80) (j := 0) (q := 81) rfl)]
  refine mw_go mu_g44 (k := 1) (f1 := (33, [(0, .inr (.inr (some 80)))], [.inr (.inr (mu_r H 81 5)), .inr (.inr (some 80))], (mu_si H 80 3 (mu_min ((mu_i H 80 3) + (1 : Int32)) ((mu_i H 82 2) - (1 : Int32)))))) (C := [mu_is (mu_si H 80 3 (mu_min ((mu_i H 80 3) + (1 : Int32)) ((mu_i H 82 2) - (1 : Int32)))) (some 81) 4]) rfl (show mu_is (mu_si H 80 3 (mu_min ((mu_i H 80 3) + (1 : Int32)) ((mu_i H 82 2) - (1 : Int32)))) (some 81) 4 from h.1.is rfl) ?_
  rw [(h.1.r (p := 81) (j := 5) (q := 82) rfl)]
  refine mw_go mu_g44 (k := 3) (f1 := (38, [(0, .inr (.inr (some 80)))], [.inl (0 : Int32), .inl (mu_min ((mu_i H 80 3) + (1 : Int32)) ((mu_i H 82 2) - (1 : Int32))), .inr (.inr (some 82)), .inr (.inr (some 80))], (mu_si H 80 3 (mu_min ((mu_i H 80 3) + (1 : Int32)) ((mu_i H 82 2) - (1 : Int32)))))) (C := [mu_is (mu_si H 80 3 (mu_min ((mu_i H 80 3) + (1 : Int32)) ((mu_i H 82 2) - (1 : Int32)))) (some 80) 7]) rfl (show mu_is (mu_si H 80 3 (mu_min ((mu_i H 80 3) + (1 : Int32)) ((mu_i H 82 2) - (1 : Int32)))) (some 80) 7 from h.1.is rfl) ?_
  refine mw_cIe (fun _ => rfl) (show mu_is H (some 82) 10 from h.1.is rfl) (gi_get_ok (d := d) (H := (mu_si H 80 3 (mu_min ((mu_i H 80 3) + (1 : Int32)) ((mu_i H 82 2) - (1 : Int32))))) (h.1.si (k := 7) rfl rfl) (r := 82) (W := 3) rfl (mu_min ((mu_i H 80 3) + (1 : Int32)) ((mu_i H 82 2) - (1 : Int32))) (j := 0) (by decide)) ?_
  refine mw_go mu_g44 (k := 4) (f1 := (49, [(0, .inr (.inr (some 80)))], [.inr (.inr (mu_r H 80 0)), .inr (.inr (some 80))], (mu_si (mu_si H 80 3 (mu_min ((mu_i H 80 3) + (1 : Int32)) ((mu_i H 82 2) - (1 : Int32)))) 80 4 (rw_get (mu_si H 80 3 (mu_min ((mu_i H 80 3) + (1 : Int32)) ((mu_i H 82 2) - (1 : Int32)))) 82 3 (gi_sz (mu_si H 80 3 (mu_min ((mu_i H 80 3) + (1 : Int32)) ((mu_i H 82 2) - (1 : Int32)))) 82) (mu_min ((mu_i H 80 3) + (1 : Int32)) ((mu_i H 82 2) - (1 : Int32))) 0)))) (C := [mu_is (mu_si H 80 3 (mu_min ((mu_i H 80 3) + (1 : Int32)) ((mu_i H 82 2) - (1 : Int32)))) (some 80) 7, mu_is (mu_si (mu_si H 80 3 (mu_min ((mu_i H 80 3) + (1 : Int32)) ((mu_i H 82 2) - (1 : Int32)))) 80 4 (rw_get (mu_si H 80 3 (mu_min ((mu_i H 80 3) + (1 : Int32)) ((mu_i H 82 2) - (1 : Int32)))) 82 3 (gi_sz (mu_si H 80 3 (mu_min ((mu_i H 80 3) + (1 : Int32)) ((mu_i H 82 2) - (1 : Int32)))) 82) (mu_min ((mu_i H 80 3) + (1 : Int32)) ((mu_i H 82 2) - (1 : Int32))) 0)) (some 80) 7]) rfl (show (mu_is (mu_si H 80 3 (mu_min ((mu_i H 80 3) + (1 : Int32)) ((mu_i H 82 2) - (1 : Int32)))) (some 80) 7) ∧ (mu_is (mu_si (mu_si H 80 3 (mu_min ((mu_i H 80 3) + (1 : Int32)) ((mu_i H 82 2) - (1 : Int32)))) 80 4 (rw_get (mu_si H 80 3 (mu_min ((mu_i H 80 3) + (1 : Int32)) ((mu_i H 82 2) - (1 : Int32)))) 82 3 (gi_sz (mu_si H 80 3 (mu_min ((mu_i H 80 3) + (1 : Int32)) ((mu_i H 82 2) - (1 : Int32)))) 82) (mu_min ((mu_i H 80 3) + (1 : Int32)) ((mu_i H 82 2) - (1 : Int32))) 0)) (some 80) 7) from ⟨h.1.is rfl, h.1.is rfl⟩) ?_
  rw [(h.1.r (p := 80) (j := 0) (q := 81) rfl)]
  refine mw_go mu_g44 (k := 1) (f1 := (52, [(0, .inr (.inr (some 80)))], [.inr (.inr (mu_r H 81 5)), .inr (.inr (some 80))], (mu_si (mu_si H 80 3 (mu_min ((mu_i H 80 3) + (1 : Int32)) ((mu_i H 82 2) - (1 : Int32)))) 80 4 (rw_get (mu_si H 80 3 (mu_min ((mu_i H 80 3) + (1 : Int32)) ((mu_i H 82 2) - (1 : Int32)))) 82 3 (gi_sz (mu_si H 80 3 (mu_min ((mu_i H 80 3) + (1 : Int32)) ((mu_i H 82 2) - (1 : Int32)))) 82) (mu_min ((mu_i H 80 3) + (1 : Int32)) ((mu_i H 82 2) - (1 : Int32))) 0)))) (C := [mu_is (mu_si (mu_si H 80 3 (mu_min ((mu_i H 80 3) + (1 : Int32)) ((mu_i H 82 2) - (1 : Int32)))) 80 4 (rw_get (mu_si H 80 3 (mu_min ((mu_i H 80 3) + (1 : Int32)) ((mu_i H 82 2) - (1 : Int32)))) 82 3 (gi_sz (mu_si H 80 3 (mu_min ((mu_i H 80 3) + (1 : Int32)) ((mu_i H 82 2) - (1 : Int32)))) 82) (mu_min ((mu_i H 80 3) + (1 : Int32)) ((mu_i H 82 2) - (1 : Int32))) 0)) (some 81) 4]) rfl (show mu_is (mu_si (mu_si H 80 3 (mu_min ((mu_i H 80 3) + (1 : Int32)) ((mu_i H 82 2) - (1 : Int32)))) 80 4 (rw_get (mu_si H 80 3 (mu_min ((mu_i H 80 3) + (1 : Int32)) ((mu_i H 82 2) - (1 : Int32)))) 82 3 (gi_sz (mu_si H 80 3 (mu_min ((mu_i H 80 3) + (1 : Int32)) ((mu_i H 82 2) - (1 : Int32)))) 82) (mu_min ((mu_i H 80 3) + (1 : Int32)) ((mu_i H 82 2) - (1 : Int32))) 0)) (some 81) 4 from h.1.is rfl) ?_
  rw [(h.1.r (p := 81) (j := 5) (q := 82) rfl)]
  refine mw_go mu_g44 (k := 3) (f1 := (57, [(0, .inr (.inr (some 80)))], [.inl (1 : Int32), .inl (mu_min ((mu_i H 80 3) + (1 : Int32)) ((mu_i H 82 2) - (1 : Int32))), .inr (.inr (some 82)), .inr (.inr (some 80))], (mu_si (mu_si H 80 3 (mu_min ((mu_i H 80 3) + (1 : Int32)) ((mu_i H 82 2) - (1 : Int32)))) 80 4 (rw_get (mu_si H 80 3 (mu_min ((mu_i H 80 3) + (1 : Int32)) ((mu_i H 82 2) - (1 : Int32)))) 82 3 (gi_sz (mu_si H 80 3 (mu_min ((mu_i H 80 3) + (1 : Int32)) ((mu_i H 82 2) - (1 : Int32)))) 82) (mu_min ((mu_i H 80 3) + (1 : Int32)) ((mu_i H 82 2) - (1 : Int32))) 0)))) (C := [mu_is (mu_si (mu_si H 80 3 (mu_min ((mu_i H 80 3) + (1 : Int32)) ((mu_i H 82 2) - (1 : Int32)))) 80 4 (rw_get (mu_si H 80 3 (mu_min ((mu_i H 80 3) + (1 : Int32)) ((mu_i H 82 2) - (1 : Int32)))) 82 3 (gi_sz (mu_si H 80 3 (mu_min ((mu_i H 80 3) + (1 : Int32)) ((mu_i H 82 2) - (1 : Int32)))) 82) (mu_min ((mu_i H 80 3) + (1 : Int32)) ((mu_i H 82 2) - (1 : Int32))) 0)) (some 80) 7]) rfl (show mu_is (mu_si (mu_si H 80 3 (mu_min ((mu_i H 80 3) + (1 : Int32)) ((mu_i H 82 2) - (1 : Int32)))) 80 4 (rw_get (mu_si H 80 3 (mu_min ((mu_i H 80 3) + (1 : Int32)) ((mu_i H 82 2) - (1 : Int32)))) 82 3 (gi_sz (mu_si H 80 3 (mu_min ((mu_i H 80 3) + (1 : Int32)) ((mu_i H 82 2) - (1 : Int32)))) 82) (mu_min ((mu_i H 80 3) + (1 : Int32)) ((mu_i H 82 2) - (1 : Int32))) 0)) (some 80) 7 from h.1.is rfl) ?_
  refine mw_cIe (fun _ => rfl) (show mu_is H (some 82) 10 from h.1.is rfl) (gi_get_ok (d := d) (H := (mu_si (mu_si H 80 3 (mu_min ((mu_i H 80 3) + (1 : Int32)) ((mu_i H 82 2) - (1 : Int32)))) 80 4 (rw_get (mu_si H 80 3 (mu_min ((mu_i H 80 3) + (1 : Int32)) ((mu_i H 82 2) - (1 : Int32)))) 82 3 (gi_sz (mu_si H 80 3 (mu_min ((mu_i H 80 3) + (1 : Int32)) ((mu_i H 82 2) - (1 : Int32)))) 82) (mu_min ((mu_i H 80 3) + (1 : Int32)) ((mu_i H 82 2) - (1 : Int32))) 0))) ((h.1.si (k := 7) rfl rfl).si (k := 7) rfl rfl) (r := 82) (W := 3) rfl (mu_min ((mu_i H 80 3) + (1 : Int32)) ((mu_i H 82 2) - (1 : Int32))) (j := 1) (by decide)) ?_
  refine mw_go mu_g44 (k := 1) (f1 := (63, [(0, .inr (.inr (some 80)))], [], (mu_si (mu_si (mu_si H 80 3 (mu_min ((mu_i H 80 3) + (1 : Int32)) ((mu_i H 82 2) - (1 : Int32)))) 80 4 (rw_get (mu_si H 80 3 (mu_min ((mu_i H 80 3) + (1 : Int32)) ((mu_i H 82 2) - (1 : Int32)))) 82 3 (gi_sz (mu_si H 80 3 (mu_min ((mu_i H 80 3) + (1 : Int32)) ((mu_i H 82 2) - (1 : Int32)))) 82) (mu_min ((mu_i H 80 3) + (1 : Int32)) ((mu_i H 82 2) - (1 : Int32))) 0)) 80 5 (rw_get (mu_si (mu_si H 80 3 (mu_min ((mu_i H 80 3) + (1 : Int32)) ((mu_i H 82 2) - (1 : Int32)))) 80 4 (rw_get (mu_si H 80 3 (mu_min ((mu_i H 80 3) + (1 : Int32)) ((mu_i H 82 2) - (1 : Int32)))) 82 3 (gi_sz (mu_si H 80 3 (mu_min ((mu_i H 80 3) + (1 : Int32)) ((mu_i H 82 2) - (1 : Int32)))) 82) (mu_min ((mu_i H 80 3) + (1 : Int32)) ((mu_i H 82 2) - (1 : Int32))) 0)) 82 3 (gi_sz (mu_si (mu_si H 80 3 (mu_min ((mu_i H 80 3) + (1 : Int32)) ((mu_i H 82 2) - (1 : Int32)))) 80 4 (rw_get (mu_si H 80 3 (mu_min ((mu_i H 80 3) + (1 : Int32)) ((mu_i H 82 2) - (1 : Int32)))) 82 3 (gi_sz (mu_si H 80 3 (mu_min ((mu_i H 80 3) + (1 : Int32)) ((mu_i H 82 2) - (1 : Int32)))) 82) (mu_min ((mu_i H 80 3) + (1 : Int32)) ((mu_i H 82 2) - (1 : Int32))) 0)) 82) (mu_min ((mu_i H 80 3) + (1 : Int32)) ((mu_i H 82 2) - (1 : Int32))) 1)))) (C := [mu_is (mu_si (mu_si H 80 3 (mu_min ((mu_i H 80 3) + (1 : Int32)) ((mu_i H 82 2) - (1 : Int32)))) 80 4 (rw_get (mu_si H 80 3 (mu_min ((mu_i H 80 3) + (1 : Int32)) ((mu_i H 82 2) - (1 : Int32)))) 82 3 (gi_sz (mu_si H 80 3 (mu_min ((mu_i H 80 3) + (1 : Int32)) ((mu_i H 82 2) - (1 : Int32)))) 82) (mu_min ((mu_i H 80 3) + (1 : Int32)) ((mu_i H 82 2) - (1 : Int32))) 0)) (some 80) 7]) rfl (show mu_is (mu_si (mu_si H 80 3 (mu_min ((mu_i H 80 3) + (1 : Int32)) ((mu_i H 82 2) - (1 : Int32)))) 80 4 (rw_get (mu_si H 80 3 (mu_min ((mu_i H 80 3) + (1 : Int32)) ((mu_i H 82 2) - (1 : Int32)))) 82 3 (gi_sz (mu_si H 80 3 (mu_min ((mu_i H 80 3) + (1 : Int32)) ((mu_i H 82 2) - (1 : Int32)))) 82) (mu_min ((mu_i H 80 3) + (1 : Int32)) ((mu_i H 82 2) - (1 : Int32))) 0)) (some 80) 7 from h.1.is rfl) ?_
  exact mw_of (fun _ => mu_ret rfl trivial ⟨_, rfl, ps_adv0 h rfl rfl⟩)
end ParseText
