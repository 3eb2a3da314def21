/-! JUDGE: all heights, all SORTS -/
section JudgeTables
variable {H H1 H2 : mu_H} {m : Nat}
def jy_S (m p : Nat) : Bool := decide (p = 91 ∨ (m < p ∧ p ≤ m + 37))
/-- the Judge's stack, and what it notes of entries, may have changed -/
def jy (m : Nat) (H H1 : mu_H) : Prop := gk (jy_S m) H H1 ∧ (∀ j, mu_r H1 91 j = mu_r H 91 j) ∧ (∀ j, j < 19 → gi_sz H1 (m + 1 + 2 * j) = gi_sz H (m + 1 + 2 * j) ∧ gi_cap H1 (m + 1 + 2 * j) = gi_cap H (m + 1 + 2 * j)) ∧ (∀ j, j < 19 → ∀ i c, c < ps_W j → ¬ (j = 13 ∧ 3 ≤ c) → cel H1 (m + 1 + 2 * j) (i * ps_W j + c) = cel H (m + 1 + 2 * j) (i * ps_W j + c))
theorem jy.refl (m : Nat) (H : mu_H) : jy m H H := ⟨gk.refl _ H, fun _ => rfl, fun _ _ => ⟨rfl, rfl⟩, fun _ _ _ _ _ _ => rfl⟩
theorem jy.trans (h : jy m H H1) (h' : jy m H1 H2) : jy m H H2 := ⟨h.1.trans h'.1, fun j => (h'.2.1 j).trans (h.2.1 j), fun j hj => ⟨((h'.2.2.1 j hj).1).trans (h.2.2.1 j hj).1, ((h'.2.2.1 j hj).2).trans (h.2.2.1 j hj).2⟩, fun j hj i c hc hn => (h'.2.2.2 j hj i c hc hn).trans (h.2.2.2 j hj i c hc hn)⟩
theorem jq.jy (h : jq H H1) (hd : jd m H) : jy m H H1 := by
  obtain ⟨hg, hm, -⟩ := hd
  refine ⟨h.1.mono (fun p hp => decide_eq_true (Or.inl (Nat.eq_of_beq_eq_true hp))), h.2, fun j hj => ⟨(h.row (ps_wm hm hj)).1, ?_⟩, fun j hj i c _ _ => (h.row (ps_wm hm hj)).2 _⟩
  obtain ⟨-, -, -, hrk, hro⟩ := gi_w_ok (ps_wm hm hj)
  have hf : Nat.beq (m + 1 + 2 * j) 91 = false := by
    cases hx : Nat.beq (m + 1 + 2 * j) 91 with
    | false => rfl
    | true => have := Nat.eq_of_beq_eq_true hx; omega
  unfold gi_cap
  rw [(h.1.obj hrk hf).r, (h.1.2.1 _ (hg.o hro).2.1).2]
theorem jy.len (h : jy m H H1) (hg : gi H) : jn H1 = jn H := by
  unfold jn
  rw [h.2.1, (h.1.2.1 _ (hg.o (p := 91) (j := 2) rfl).2.1).2]
theorem jy.m1 (h : jy m H H1) : gi_sz H1 (m + 1) = gi_sz H (m + 1) := (h.2.2.1 0 (by decide)).1
theorem ck.jy (h : ck m H) (hq : jy m H H1) : ck m H1 := fun i hi => by
  rw [hq.m1] at hi
  have e0 : cel H1 (m + 1) (i * 2) = cel H (m + 1) (i * 2) := hq.2.2.2 0 (by decide) i 0 (by decide) (by omega)
  have e1 : cel H1 (m + 1) (i * 2 + 1) = cel H (m + 1) (i * 2 + 1) := hq.2.2.2 0 (by decide) i 1 (by decide) (by omega)
  rw [e0, e1]
  exact h i hi
theorem cr.jy {j r c W : Nat} (h : cr m H r W c) (hj : j < 19) (hr : r = m + 1 + 2 * j) (hW : W = ps_W j) (hc : c < W) (hn : ¬ (j = 13 ∧ 3 ≤ c)) (hq : jy m H H1) : cr m H1 r W c := fun i hi => by
  subst hr
  subst hW
  rw [(hq.2.2.1 j hj).1] at hi
  rw [hq.m1, hq.2.2.2 j hj i c hc hn]
  exact h i hi
theorem jd.set13 (h : jd m H) {c : Nat} {row v : Int32} (h3 : 3 ≤ c) (h6 : c < 6) : jd m (rw_set H (m + 27) 6 (gi_sz H (m + 27)) row c v) ∧ jy m H (rw_set H (m + 27) 6 (gi_sz H (m + 27)) row c v) := by
  obtain ⟨hg, hm, h2⟩ := h
  have hw : gi_w (m + 27) = some 6 := md_w13 hm
  obtain ⟨g1, g2⟩ := hg.set (j := c) (row := row) (v := v) hw
  have hk : gk (jy_S m) H (rw_set H (m + 27) 6 (gi_sz H (m + 27)) row c v) := gk.set hg hw (decide_eq_true (by omega))
  have hz : ∀ r' W', gi_w r' = some W' → gi_sz (rw_set H (m + 27) 6 (gi_sz H (m + 27)) row c v) r' = gi_sz H r' := fun r' W' hw' => congrArg Int32.toNatClampNeg (g2 r' 2 (by have : mu_k H r' = 10 := (hg.w hw').1.2.2; omega))
  have hcap : ∀ r', gi_cap (rw_set H (m + 27) 6 (gi_sz H (m + 27)) row c v) r' = gi_cap H r' := fun r' => by
    unfold gi_cap mu_n
    rw [rw_set_r, (rw_set_eq H (m + 27) 6 (gi_sz H (m + 27)) row c v).2.1]
  refine ⟨⟨g1, hm, by rw [rw_set_r]; exact h2⟩, hk, fun i => rw_set_r _ _ _ _ _ _ _ _ _, fun i hi => ⟨hz _ _ (ps_wm hm hi), hcap _⟩, fun j' hj' i c' hc' hq => ?_⟩
  have e1 : cel (rw_set H (m + 27) 6 (gi_sz H (m + 27)) row c v) (m + 1 + 2 * j') (i * ps_W j' + c') = mu_i (rw_set H (m + 27) 6 (gi_sz H (m + 27)) row c v) (mu_p (mu_r H (m + 1 + 2 * j') 1)) (i * ps_W j' + c') := by unfold cel; rw [rw_set_r]
  rw [e1]
  by_cases ej : j' = 13
  · subst ej
    have hW : ps_W 13 = 6 := rfl
    rw [hW] at hc' ⊢
    have hcc : c' < 3 := by omega
    show mu_i (rw_set H (m + 27) 6 (gi_sz H (m + 27)) row c v) (mu_p (mu_r H (m + 27) 1)) (i * 6 + c') = mu_i H (mu_p (mu_r H (m + 27) 1)) (i * 6 + c')
    unfold rw_set
    split
    · rfl
    · split
      · rw [mu_i_si, if_neg (fun z => by have := z.2; omega)]
      · rfl
  · have hne : mu_p (mu_r H (m + 1 + 2 * j') 1) ≠ mu_p (mu_r H (m + 27) 1) := (hg.cell hw).2.1 (m + 1 + 2 * j') 1 (gi_w_ok (ps_wm hm hj')).2.2.2.2 (by omega)
    exact (rw_set_same hne).i _
end JudgeTables
section JudgeAll
variable {H : mu_H} {d m : Nat}
/-- PathProver$Judge.haveSorts()Z -/
abbrev mu_m189 : ev_M := (4, (some .boolean), [], ev_b189)
theorem mu_g189 : mu_good mu_m189 := mu_goodk ev_k189
theorem jg_have (h : jd m H) (hck : ck m H) (hN : gi_sz H (m + 1) < jn H) (h27_0 : cr m H (m + 27) 6 0) (h27_1 : cr m H (m + 27) 6 1) (h17_1 : cr m H (m + 17) 3 1) (h17_2 : cr m H (m + 17) 3 2) (h15_2 : cr m H (m + 15) 4 2) (h15_3 : cr m H (m + 15) 4 3) : mu_TI (mu_D (d + 6)) 189 [.inr (.inr (some 91))] H (fun x H1 => (x = 0 ∨ x = 1) ∧ jd m H1 ∧ jy m H H1) := by
  have hm := h.2.1
  refine mu_meth (M := mu_m189) rfl rfl ?_
  refine mw_ht (mu_fn_of (show [0].Nodup by decide)) ?_
  refine mw_go mu_g189 (k := 2) (f1 := (2, [(1, .inl (0 : Int32)), (0, .inr (.inr (some 91)))], [], H)) (C := []) rfl trivial ?_
  refine mw_sub (L' := [(1, .inl (0 : Int32)), (0, .inr (.inr (some 91)))]) (by simp) ?_
  refine mw_down (α := Int32 × mu_H) (fun zs => (2, [(1, .inl zs.1), (0, .inr (.inr (some 91)))], [], zs.2)) (fun zs => (2147483647 - zs.1.toInt).toNat) (fun zs => jd m zs.2 ∧ jy m H zs.2) (fun zs hz iha => ?_) ((0 : Int32), H) ⟨h, (jy.refl m H)⟩
  obtain ⟨y, Hsa⟩ := zs
  obtain ⟨hpa, hta⟩ := hz
  have hpa : jd m Hsa := hpa
  have hta : jy m H Hsa := hta
  show mu_W _ _ (2, [(1, .inl y), (0, .inr (.inr (some 91)))], [], Hsa) _
  refine mw_go mu_g189 (k := 3) (f1 := (7, [(1, .inl y), (0, .inr (.inr (some 91)))], [.inr (.inr (mu_r Hsa 91 3)), .inl y], Hsa)) (C := [mu_is Hsa (some 91) 3]) rfl (show mu_is Hsa (some 91) 3 from hpa.1.is rfl) ?_
  rw [hpa.2.2]
  refine mw_go mu_g189 (k := 1) (f1 := (10, [(1, .inl y), (0, .inr (.inr (some 91)))], [.inr (.inr (mu_r Hsa m 14)), .inl y], Hsa)) (C := [mu_is Hsa (some m) 6]) rfl (show mu_is Hsa (some m) 6 from (show mu_is Hsa (some m) 6 from gi_im hpa.1 hpa.2.1)) ?_
  rw [(show mu_r Hsa m 14 = some (m + 29) from (gi_mr hpa.1 hpa.2.1 (j := 14) (by decide)).trans (congrArg some (by omega)))]
  refine mw_go mu_g189 (k := 1) (f1 := (13, [(1, .inl y), (0, .inr (.inr (some 91)))], [.inl (mu_i Hsa (m + 29) 2), .inl y], Hsa)) (C := [mu_is Hsa (some (m + 29)) 10]) rfl (show mu_is Hsa (some (m + 29)) 10 from (hpa.1.w (md_w14 hpa.2.1)).1) ?_
  refine mw_if (P := y < (mu_i Hsa (m + 29) 2)) (a := 16) (b := 96) (fun _ => rfl) trivial (fun h1 => ?_) (fun h1 => ?_)
  · -- 16: y < (mu_i Hsa (m + 29) 2)
    have huph1 := i32_up h1
    refine mw_go mu_g189 (k := 2) (f1 := (20, [(1, .inl y), (0, .inr (.inr (some 91)))], [.inr (.inr (mu_r Hsa 91 3))], Hsa)) (C := [mu_is Hsa (some 91) 3]) rfl (show mu_is Hsa (some 91) 3 from hpa.1.is rfl) ?_
    rw [hpa.2.2]
    refine mw_go mu_g189 (k := 1) (f1 := (23, [(1, .inl y), (0, .inr (.inr (some 91)))], [.inr (.inr (mu_r Hsa m 14))], Hsa)) (C := [mu_is Hsa (some m) 6]) rfl (show mu_is Hsa (some m) 6 from (show mu_is Hsa (some m) 6 from gi_im hpa.1 hpa.2.1)) ?_
    rw [(show mu_r Hsa m 14 = some (m + 29) from (gi_mr hpa.1 hpa.2.1 (j := 14) (by decide)).trans (congrArg some (by omega)))]
    refine mw_go mu_g189 (k := 2) (f1 := (25, [(1, .inl y), (0, .inr (.inr (some 91)))], [.inl (0 : Int32), .inl y, .inr (.inr (some (m + 29)))], Hsa)) (C := []) rfl trivial ?_
    refine mw_cIe (fun _ => rfl) (show mu_is Hsa (some (m + 29)) 10 from (hpa.1.w (md_w14 hpa.2.1)).1) (gi_get_ok (d := (d + 4)) (H := Hsa) hpa.1 (md_w14 hpa.2.1) y (j := 0) (by decide)) ?_
    refine mw_go mu_g189 (k := 4) (f1 := (34, [(2, .inl (rw_get Hsa (m + 29) 1 (gi_sz Hsa (m + 29)) y 0)), (1, .inl y), (0, .inr (.inr (some 91)))], [.inr (.inr (mu_r Hsa 91 3)), .inr (.inr (some 91))], Hsa)) (C := [mu_is Hsa (some 91) 3]) rfl (show mu_is Hsa (some 91) 3 from hpa.1.is rfl) ?_
    rw [hpa.2.2]
    refine mw_go mu_g189 (k := 1) (f1 := (37, [(2, .inl (rw_get Hsa (m + 29) 1 (gi_sz Hsa (m + 29)) y 0)), (1, .inl y), (0, .inr (.inr (some 91)))], [.inr (.inr (mu_r Hsa m 13)), .inr (.inr (some 91))], Hsa)) (C := [mu_is Hsa (some m) 6]) rfl (show mu_is Hsa (some m) 6 from (show mu_is Hsa (some m) 6 from gi_im hpa.1 hpa.2.1)) ?_
    rw [(show mu_r Hsa m 13 = some (m + 27) from (gi_mr hpa.1 hpa.2.1 (j := 13) (by decide)).trans (congrArg some (by omega)))]
    refine mw_go mu_g189 (k := 2) (f1 := (39, [(2, .inl (rw_get Hsa (m + 29) 1 (gi_sz Hsa (m + 29)) y 0)), (1, .inl y), (0, .inr (.inr (some 91)))], [.inl (0 : Int32), .inl (rw_get Hsa (m + 29) 1 (gi_sz Hsa (m + 29)) y 0), .inr (.inr (some (m + 27))), .inr (.inr (some 91))], Hsa)) (C := []) rfl trivial ?_
    refine mw_cIe (fun _ => rfl) (show mu_is Hsa (some (m + 27)) 10 from (hpa.1.w (md_w13 hpa.2.1)).1) (gi_get_ok (d := (d + 4)) (H := Hsa) hpa.1 (md_w13 hpa.2.1) (rw_get Hsa (m + 29) 1 (gi_sz Hsa (m + 29)) y 0) (j := 0) (by decide)) ?_
    refine mw_go mu_g189 (k := 2) (f1 := (46, [(2, .inl (rw_get Hsa (m + 29) 1 (gi_sz Hsa (m + 29)) y 0)), (1, .inl y), (0, .inr (.inr (some 91)))], [.inr (.inr (mu_r Hsa 91 3)), .inl (rw_get Hsa (m + 27) 6 (gi_sz Hsa (m + 27)) (rw_get Hsa (m + 29) 1 (gi_sz Hsa (m + 29)) y 0) 0), .inr (.inr (some 91))], Hsa)) (C := [mu_is Hsa (some 91) 3]) rfl (show mu_is Hsa (some 91) 3 from hpa.1.is rfl) ?_
    rw [hpa.2.2]
    refine mw_go mu_g189 (k := 1) (f1 := (49, [(2, .inl (rw_get Hsa (m + 29) 1 (gi_sz Hsa (m + 29)) y 0)), (1, .inl y), (0, .inr (.inr (some 91)))], [.inr (.inr (mu_r Hsa m 13)), .inl (rw_get Hsa (m + 27) 6 (gi_sz Hsa (m + 27)) (rw_get Hsa (m + 29) 1 (gi_sz Hsa (m + 29)) y 0) 0), .inr (.inr (some 91))], Hsa)) (C := [mu_is Hsa (some m) 6]) rfl (show mu_is Hsa (some m) 6 from (show mu_is Hsa (some m) 6 from gi_im hpa.1 hpa.2.1)) ?_
    rw [(show mu_r Hsa m 13 = some (m + 27) from (gi_mr hpa.1 hpa.2.1 (j := 13) (by decide)).trans (congrArg some (by omega)))]
    refine mw_go mu_g189 (k := 2) (f1 := (51, [(2, .inl (rw_get Hsa (m + 29) 1 (gi_sz Hsa (m + 29)) y 0)), (1, .inl y), (0, .inr (.inr (some 91)))], [.inl (1 : Int32), .inl (rw_get Hsa (m + 29) 1 (gi_sz Hsa (m + 29)) y 0), .inr (.inr (some (m + 27))), .inl (rw_get Hsa (m + 27) 6 (gi_sz Hsa (m + 27)) (rw_get Hsa (m + 29) 1 (gi_sz Hsa (m + 29)) y 0) 0), .inr (.inr (some 91))], Hsa)) (C := []) rfl trivial ?_
    refine mw_cIe (fun _ => rfl) (show mu_is Hsa (some (m + 27)) 10 from (hpa.1.w (md_w13 hpa.2.1)).1) (gi_get_ok (d := (d + 4)) (H := Hsa) hpa.1 (md_w13 hpa.2.1) (rw_get Hsa (m + 29) 1 (gi_sz Hsa (m + 29)) y 0) (j := 1) (by decide)) ?_
    refine mw_go mu_g189 (k := 2) (f1 := (58, [(2, .inl (rw_get Hsa (m + 29) 1 (gi_sz Hsa (m + 29)) y 0)), (1, .inl y), (0, .inr (.inr (some 91)))], [.inr (.inr (mu_r Hsa 91 3)), .inl (rw_get Hsa (m + 27) 6 (gi_sz Hsa (m + 27)) (rw_get Hsa (m + 29) 1 (gi_sz Hsa (m + 29)) y 0) 1), .inl (rw_get Hsa (m + 27) 6 (gi_sz Hsa (m + 27)) (rw_get Hsa (m + 29) 1 (gi_sz Hsa (m + 29)) y 0) 0), .inr (.inr (some 91))], Hsa)) (C := [mu_is Hsa (some 91) 3]) rfl (show mu_is Hsa (some 91) 3 from hpa.1.is rfl) ?_
    rw [hpa.2.2]
    refine mw_go mu_g189 (k := 1) (f1 := (61, [(2, .inl (rw_get Hsa (m + 29) 1 (gi_sz Hsa (m + 29)) y 0)), (1, .inl y), (0, .inr (.inr (some 91)))], [.inr (.inr (mu_r Hsa m 13)), .inl (rw_get Hsa (m + 27) 6 (gi_sz Hsa (m + 27)) (rw_get Hsa (m + 29) 1 (gi_sz Hsa (m + 29)) y 0) 1), .inl (rw_get Hsa (m + 27) 6 (gi_sz Hsa (m + 27)) (rw_get Hsa (m + 29) 1 (gi_sz Hsa (m + 29)) y 0) 0), .inr (.inr (some 91))], Hsa)) (C := [mu_is Hsa (some m) 6]) rfl (show mu_is Hsa (some m) 6 from (show mu_is Hsa (some m) 6 from gi_im hpa.1 hpa.2.1)) ?_
    rw [(show mu_r Hsa m 13 = some (m + 27) from (gi_mr hpa.1 hpa.2.1 (j := 13) (by decide)).trans (congrArg some (by omega)))]
    refine mw_go mu_g189 (k := 2) (f1 := (63, [(2, .inl (rw_get Hsa (m + 29) 1 (gi_sz Hsa (m + 29)) y 0)), (1, .inl y), (0, .inr (.inr (some 91)))], [.inl (2 : Int32), .inl (rw_get Hsa (m + 29) 1 (gi_sz Hsa (m + 29)) y 0), .inr (.inr (some (m + 27))), .inl (rw_get Hsa (m + 27) 6 (gi_sz Hsa (m + 27)) (rw_get Hsa (m + 29) 1 (gi_sz Hsa (m + 29)) y 0) 1), .inl (rw_get Hsa (m + 27) 6 (gi_sz Hsa (m + 27)) (rw_get Hsa (m + 29) 1 (gi_sz Hsa (m + 29)) y 0) 0), .inr (.inr (some 91))], Hsa)) (C := []) rfl trivial ?_
    refine mw_cIe (fun _ => rfl) (show mu_is Hsa (some (m + 27)) 10 from (hpa.1.w (md_w13 hpa.2.1)).1) (gi_get_ok (d := (d + 4)) (H := Hsa) hpa.1 (md_w13 hpa.2.1) (rw_get Hsa (m + 29) 1 (gi_sz Hsa (m + 29)) y 0) (j := 2) (by decide)) ?_
    refine mw_go mu_g189 (k := 1) (f1 := (67, [(2, .inl (rw_get Hsa (m + 29) 1 (gi_sz Hsa (m + 29)) y 0)), (1, .inl y), (0, .inr (.inr (some 91)))], [.inl (0 : Int32), .inl (rw_get Hsa (m + 27) 6 (gi_sz Hsa (m + 27)) (rw_get Hsa (m + 29) 1 (gi_sz Hsa (m + 29)) y 0) 2), .inl (rw_get Hsa (m + 27) 6 (gi_sz Hsa (m + 27)) (rw_get Hsa (m + 29) 1 (gi_sz Hsa (m + 29)) y 0) 1), .inl (rw_get Hsa (m + 27) 6 (gi_sz Hsa (m + 27)) (rw_get Hsa (m + 29) 1 (gi_sz Hsa (m + 29)) y 0) 0), .inr (.inr (some 91))], Hsa)) (C := []) rfl trivial ?_
    obtain ⟨f6, hf6, ef6⟩ := (h27_0.jy (j := 13) (by decide) (by omega) rfl (by decide) (by decide) hta).get hpa.1 (md_w13 hpa.2.1) (by decide) (rw_get Hsa (m + 29) 1 (gi_sz Hsa (m + 29)) y 0)
    obtain ⟨t6, ht6, et6⟩ := (h27_1.jy (j := 13) (by decide) (by omega) rfl (by decide) (by decide) hta).get hpa.1 (md_w13 hpa.2.1) (by decide) (rw_get Hsa (m + 29) 1 (gi_sz Hsa (m + 29)) y 0)
    rw [ef6, et6]
    refine mw_cI (fun _ => rfl) (show mu_is Hsa (some 91) 3 from hpa.1.is rfl) (jg_sortOf (d := (d + 1)) (f := f6) (t := t6) hpa (hck.jy hta) ht6 hf6 (by rw [hta.m1, hta.len h.1]; exact hN) (rw_get Hsa (m + 27) 6 (gi_sz Hsa (m + 27)) (rw_get Hsa (m + 29) 1 (gi_sz Hsa (m + 29)) y 0) 2) (0 : Int32)) (fun x6 H6 q6 => ?_)
    obtain ⟨hp6, qt6⟩ := q6
    have ht6 := hta.trans (qt6.jy hpa)
    refine mw_go mu_g189 (k := 3) (f1 := (75, [(3, .inl x6), (2, .inl (rw_get Hsa (m + 29) 1 (gi_sz Hsa (m + 29)) y 0)), (1, .inl y), (0, .inr (.inr (some 91)))], [.inr (.inr (mu_r H6 91 3))], H6)) (C := [mu_is H6 (some 91) 3]) rfl (show mu_is H6 (some 91) 3 from hp6.1.is rfl) ?_
    rw [hp6.2.2]
    refine mw_go mu_g189 (k := 1) (f1 := (78, [(3, .inl x6), (2, .inl (rw_get Hsa (m + 29) 1 (gi_sz Hsa (m + 29)) y 0)), (1, .inl y), (0, .inr (.inr (some 91)))], [.inr (.inr (mu_r H6 m 13))], H6)) (C := [mu_is H6 (some m) 6]) rfl (show mu_is H6 (some m) 6 from (show mu_is H6 (some m) 6 from gi_im hp6.1 hp6.2.1)) ?_
    rw [(show mu_r H6 m 13 = some (m + 27) from (gi_mr hp6.1 hp6.2.1 (j := 13) (by decide)).trans (congrArg some (by omega)))]
    refine mw_go mu_g189 (k := 3) (f1 := (81, [(3, .inl x6), (2, .inl (rw_get Hsa (m + 29) 1 (gi_sz Hsa (m + 29)) y 0)), (1, .inl y), (0, .inr (.inr (some 91)))], [.inl x6, .inl (4 : Int32), .inl (rw_get Hsa (m + 29) 1 (gi_sz Hsa (m + 29)) y 0), .inr (.inr (some (m + 27)))], H6)) (C := []) rfl trivial ?_
    refine mw_cV (fun _ => rfl) (show mu_is H6 (some (m + 27)) 10 from (hp6.1.w (md_w13 hp6.2.1)).1) (gi_set_ok (d := (d + 4)) hp6.1 (md_w13 hp6.2.1) (rw_get Hsa (m + 29) 1 (gi_sz Hsa (m + 29)) y 0) x6 (j := 4) (by decide)) (fun H7 q7 => ?_)
    obtain ⟨hp7, qt7⟩ := hp6.set13 (c := 4) (row := (rw_get Hsa (m + 29) 1 (gi_sz Hsa (m + 29)) y 0)) (v := x6) (by decide) (by decide)
    rw [← q7] at hp7 qt7
    have ht7 := ht6.trans qt7
    refine mw_go mu_g189 (k := 1) (f1 := (85, [(3, .inl x6), (2, .inl (rw_get Hsa (m + 29) 1 (gi_sz Hsa (m + 29)) y 0)), (1, .inl y), (0, .inr (.inr (some 91)))], [.inl x6], H7)) (C := []) rfl trivial ?_
    refine mw_if (P := x6 = 0) (a := 88) (b := 90) (fun _ => rfl) trivial (fun h8 => ?_) (fun h8 => ?_)
    · -- 88: x6 = 0
      refine mw_go mu_g189 (k := 1) (f1 := (89, [(3, .inl x6), (2, .inl (rw_get Hsa (m + 29) 1 (gi_sz Hsa (m + 29)) y 0)), (1, .inl y), (0, .inr (.inr (some 91)))], [.inl (0 : Int32)], H7)) (C := []) rfl trivial ?_
      exact mw_of (fun _ => mu_ret rfl (Or.inl rfl) ⟨_, H7, rfl, Or.inl rfl, hp7, ht7⟩)
    · -- 90: not x6 = 0
      refine mw_go mu_g189 (k := 2) (f1 := (2, [(1, .inl (y + 1)), (3, .inl x6), (2, .inl (rw_get Hsa (m + 29) 1 (gi_sz Hsa (m + 29)) y 0)), (0, .inr (.inr (some 91)))], [], H7)) (C := []) rfl trivial ?_
      exact mw_sub (by simp) (iha ((y + 1), H7) ⟨hp7, ht7⟩ (by show (2147483647 - (y + 1).toInt).toNat < (2147483647 - y.toInt).toNat; omega))
  · -- 96: not y < (mu_i Hsa (m + 29) 2)
    refine mw_go mu_g189 (k := 2) (f1 := (98, [(1, .inl (0 : Int32)), (0, .inr (.inr (some 91)))], [], Hsa)) (C := []) rfl trivial ?_
    refine mw_sub (L' := [(1, .inl (0 : Int32)), (0, .inr (.inr (some 91)))]) (by simp) ?_
    refine mw_down (α := Int32 × mu_H) (fun zs => (98, [(1, .inl zs.1), (0, .inr (.inr (some 91)))], [], zs.2)) (fun zs => (2147483647 - zs.1.toInt).toNat) (fun zs => jd m zs.2 ∧ jy m H zs.2) (fun zs hz ihb => ?_) ((0 : Int32), Hsa) ⟨hpa, hta⟩
    obtain ⟨z, Hsb⟩ := zs
    obtain ⟨hpb, htb⟩ := hz
    have hpb : jd m Hsb := hpb
    have htb : jy m H Hsb := htb
    show mu_W _ _ (98, [(1, .inl z), (0, .inr (.inr (some 91)))], [], Hsb) _
    refine mw_go mu_g189 (k := 3) (f1 := (103, [(1, .inl z), (0, .inr (.inr (some 91)))], [.inr (.inr (mu_r Hsb 91 3)), .inl z], Hsb)) (C := [mu_is Hsb (some 91) 3]) rfl (show mu_is Hsb (some 91) 3 from hpb.1.is rfl) ?_
    rw [hpb.2.2]
    refine mw_go mu_g189 (k := 1) (f1 := (106, [(1, .inl z), (0, .inr (.inr (some 91)))], [.inr (.inr (mu_r Hsb m 11)), .inl z], Hsb)) (C := [mu_is Hsb (some m) 6]) rfl (show mu_is Hsb (some m) 6 from (show mu_is Hsb (some m) 6 from gi_im hpb.1 hpb.2.1)) ?_
    rw [(show mu_r Hsb m 11 = some (m + 23) from (gi_mr hpb.1 hpb.2.1 (j := 11) (by decide)).trans (congrArg some (by omega)))]
    refine mw_go mu_g189 (k := 1) (f1 := (109, [(1, .inl z), (0, .inr (.inr (some 91)))], [.inl (mu_i Hsb (m + 23) 2), .inl z], Hsb)) (C := [mu_is Hsb (some (m + 23)) 10]) rfl (show mu_is Hsb (some (m + 23)) 10 from (hpb.1.w (md_w11 hpb.2.1)).1) ?_
    refine mw_if (P := z < (mu_i Hsb (m + 23) 2)) (a := 112) (b := 136) (fun _ => rfl) trivial (fun h9 => ?_) (fun h9 => ?_)
    · -- 112: z < (mu_i Hsb (m + 23) 2)
      have huph9 := i32_up h9
      refine mw_go mu_g189 (k := 2) (f1 := (114, [(1, .inl z), (0, .inr (.inr (some 91)))], [.inl z, .inr (.inr (some 91))], Hsb)) (C := []) rfl trivial ?_
      refine mw_cI (fun _ => rfl) (show mu_is Hsb (some 91) 3 from hpb.1.is rfl) (jg_claims (d := d) hpb (hck.jy htb) (by rw [htb.m1, htb.len h.1]; exact hN) (h17_1.jy (j := 8) (by decide) (by omega) rfl (by decide) (by decide) htb) (h17_2.jy (j := 8) (by decide) (by omega) rfl (by decide) (by decide) htb) z) (fun x10 H10 q10 => ?_)
      obtain ⟨qx10, hp10, qt10⟩ := q10; rcases qx10 with rfl | rfl
      · -- (0 : Int32)
        have ht10 := htb.trans (qt10.jy hpb)
        refine mw_if (P := (0 : Int32) = 0) (a := 128) (b := 120) (fun _ => rfl) trivial (fun h11 => ?_) (fun h11 => absurd (by decide) h11)
        refine mw_go mu_g189 (k := 1) (f1 := (129, [(1, .inl z), (0, .inr (.inr (some 91)))], [.inl (0 : Int32)], H10)) (C := []) rfl trivial ?_
        exact mw_of (fun _ => mu_ret rfl (Or.inl rfl) ⟨_, H10, rfl, Or.inl rfl, hp10, ht10⟩)
      · -- (1 : Int32)
        have ht10 := htb.trans (qt10.jy hpb)
        refine mw_if (P := (1 : Int32) = 0) (a := 128) (b := 120) (fun _ => rfl) trivial (fun h12 => absurd h12 (by decide)) (fun h12 => ?_)
        refine mw_go mu_g189 (k := 2) (f1 := (122, [(1, .inl z), (0, .inr (.inr (some 91)))], [.inl z, .inr (.inr (some 91))], H10)) (C := []) rfl trivial ?_
        refine mw_cI (fun _ => rfl) (show mu_is H10 (some 91) 3 from hp10.1.is rfl) (jg_lines (d := d) hp10 (hck.jy ht10) (by rw [ht10.m1, ht10.len h.1]; exact hN) (h15_2.jy (j := 7) (by decide) (by omega) rfl (by decide) (by decide) ht10) (h15_3.jy (j := 7) (by decide) (by omega) rfl (by decide) (by decide) ht10) z) (fun x13 H13 q13 => ?_)
        obtain ⟨qx13, hp13, qt13⟩ := q13; rcases qx13 with rfl | rfl
        · -- (0 : Int32)
          have ht13 := ht10.trans (qt13.jy hp10)
          refine mw_if (P := (0 : Int32) = 0) (a := 128) (b := 130) (fun _ => rfl) trivial (fun h14 => ?_) (fun h14 => absurd (by decide) h14)
          refine mw_go mu_g189 (k := 1) (f1 := (129, [(1, .inl z), (0, .inr (.inr (some 91)))], [.inl (0 : Int32)], H13)) (C := []) rfl trivial ?_
          exact mw_of (fun _ => mu_ret rfl (Or.inl rfl) ⟨_, H13, rfl, Or.inl rfl, hp13, ht13⟩)
        · -- (1 : Int32)
          have ht13 := ht10.trans (qt13.jy hp10)
          refine mw_if (P := (1 : Int32) = 0) (a := 128) (b := 130) (fun _ => rfl) trivial (fun h15 => absurd h15 (by decide)) (fun h15 => ?_)
          refine mw_go mu_g189 (k := 2) (f1 := (98, [(1, .inl (z + 1)), (0, .inr (.inr (some 91)))], [], H13)) (C := []) rfl trivial ?_
          exact mw_sub (by simp) (ihb ((z + 1), H13) ⟨hp13, ht13⟩ (by show (2147483647 - (z + 1).toInt).toNat < (2147483647 - z.toInt).toNat; omega))
    · -- 136: not z < (mu_i Hsb (m + 23) 2)
      refine mw_go mu_g189 (k := 1) (f1 := (137, [(1, .inl z), (0, .inr (.inr (some 91)))], [.inl (1 : Int32)], Hsb)) (C := []) rfl trivial ?_
      exact mw_of (fun _ => mu_ret rfl (Or.inr rfl) ⟨_, Hsb, rfl, Or.inr rfl, hpb, htb⟩)
/-- PathProver$Judge.areLow()Z -/
abbrev mu_m188 : ev_M := (5, (some .boolean), [], ev_b188)
theorem mu_g188 : mu_good mu_m188 := mu_goodk ev_k188
theorem jg_low (h : jd m H) (hck : ck m H) (hN : gi_sz H (m + 1) < jn H) (h27_0 : cr m H (m + 27) 6 0) (h27_1 : cr m H (m + 27) 6 1) (h17_1 : cr m H (m + 17) 3 1) (h17_2 : cr m H (m + 17) 3 2) (h15_2 : cr m H (m + 15) 4 2) (h15_3 : cr m H (m + 15) 4 3) : mu_TI (mu_D (d + 5)) 188 [.inr (.inr (some 91))] H (fun x H1 => (x = 0 ∨ x = 1) ∧ jd m H1 ∧ jy m H H1) := by
  have hm := h.2.1
  refine mu_meth (M := mu_m188) rfl rfl ?_
  refine mw_ht (mu_fn_of (show [0].Nodup by decide)) ?_
  refine mw_go mu_g188 (k := 4) (f1 := (4, [(2, .inl (0 : Int32)), (1, .inl (1 : Int32)), (0, .inr (.inr (some 91)))], [], H)) (C := []) rfl trivial ?_
  refine mw_sub (L' := [(1, .inl (1 : Int32)), (2, .inl (0 : Int32)), (0, .inr (.inr (some 91)))]) (by simp) ?_
  refine mw_down (α := Int32 × Int32 × mu_H) (fun zs => (4, [(1, .inl zs.1), (2, .inl zs.2.1), (0, .inr (.inr (some 91)))], [], zs.2.2)) (fun zs => (2147483647 - zs.2.1.toInt).toNat) (fun zs => jd m zs.2.2 ∧ jy m H zs.2.2 ∧ (zs.1 = 0 ∨ zs.1 = 1)) (fun zs hz iha => ?_) ((1 : Int32), (0 : Int32), H) ⟨h, (jy.refl m H), (show (1 : Int32) = 0 ∨ (1 : Int32) = 1 from Or.inr rfl)⟩
  obtain ⟨fa, y, Hsa⟩ := zs
  obtain ⟨hpa, hta, hfa⟩ := hz
  have hpa : jd m Hsa := hpa
  have hta : jy m H Hsa := hta
  have hfa : fa = 0 ∨ fa = 1 := hfa
  show mu_W _ _ (4, [(1, .inl fa), (2, .inl y), (0, .inr (.inr (some 91)))], [], Hsa) _
  refine mw_go mu_g188 (k := 3) (f1 := (9, [(1, .inl fa), (2, .inl y), (0, .inr (.inr (some 91)))], [.inr (.inr (mu_r Hsa 91 3)), .inl y], Hsa)) (C := [mu_is Hsa (some 91) 3]) rfl (show mu_is Hsa (some 91) 3 from hpa.1.is rfl) ?_
  rw [hpa.2.2]
  refine mw_go mu_g188 (k := 1) (f1 := (12, [(1, .inl fa), (2, .inl y), (0, .inr (.inr (some 91)))], [.inr (.inr (mu_r Hsa m 14)), .inl y], Hsa)) (C := [mu_is Hsa (some m) 6]) rfl (show mu_is Hsa (some m) 6 from (show mu_is Hsa (some m) 6 from gi_im hpa.1 hpa.2.1)) ?_
  rw [(show mu_r Hsa m 14 = some (m + 29) from (gi_mr hpa.1 hpa.2.1 (j := 14) (by decide)).trans (congrArg some (by omega)))]
  refine mw_go mu_g188 (k := 1) (f1 := (15, [(1, .inl fa), (2, .inl y), (0, .inr (.inr (some 91)))], [.inl (mu_i Hsa (m + 29) 2), .inl y], Hsa)) (C := [mu_is Hsa (some (m + 29)) 10]) rfl (show mu_is Hsa (some (m + 29)) 10 from (hpa.1.w (md_w14 hpa.2.1)).1) ?_
  refine mw_if (P := y < (mu_i Hsa (m + 29) 2)) (a := 18) (b := 108) (fun _ => rfl) trivial (fun h1 => ?_) (fun h1 => ?_)
  · -- 18: y < (mu_i Hsa (m + 29) 2)
    have huph1 := i32_up h1
    refine mw_go mu_g188 (k := 2) (f1 := (22, [(1, .inl fa), (2, .inl y), (0, .inr (.inr (some 91)))], [.inr (.inr (mu_r Hsa 91 3))], Hsa)) (C := [mu_is Hsa (some 91) 3]) rfl (show mu_is Hsa (some 91) 3 from hpa.1.is rfl) ?_
    rw [hpa.2.2]
    refine mw_go mu_g188 (k := 1) (f1 := (25, [(1, .inl fa), (2, .inl y), (0, .inr (.inr (some 91)))], [.inr (.inr (mu_r Hsa m 14))], Hsa)) (C := [mu_is Hsa (some m) 6]) rfl (show mu_is Hsa (some m) 6 from (show mu_is Hsa (some m) 6 from gi_im hpa.1 hpa.2.1)) ?_
    rw [(show mu_r Hsa m 14 = some (m + 29) from (gi_mr hpa.1 hpa.2.1 (j := 14) (by decide)).trans (congrArg some (by omega)))]
    refine mw_go mu_g188 (k := 2) (f1 := (27, [(1, .inl fa), (2, .inl y), (0, .inr (.inr (some 91)))], [.inl (0 : Int32), .inl y, .inr (.inr (some (m + 29)))], Hsa)) (C := []) rfl trivial ?_
    refine mw_cIe (fun _ => rfl) (show mu_is Hsa (some (m + 29)) 10 from (hpa.1.w (md_w14 hpa.2.1)).1) (gi_get_ok (d := (d + 3)) (H := Hsa) hpa.1 (md_w14 hpa.2.1) y (j := 0) (by decide)) ?_
    refine mw_go mu_g188 (k := 4) (f1 := (36, [(3, .inl (rw_get Hsa (m + 29) 1 (gi_sz Hsa (m + 29)) y 0)), (1, .inl fa), (2, .inl y), (0, .inr (.inr (some 91)))], [.inr (.inr (mu_r Hsa 91 3)), .inr (.inr (some 91))], Hsa)) (C := [mu_is Hsa (some 91) 3]) rfl (show mu_is Hsa (some 91) 3 from hpa.1.is rfl) ?_
    rw [hpa.2.2]
    refine mw_go mu_g188 (k := 1) (f1 := (39, [(3, .inl (rw_get Hsa (m + 29) 1 (gi_sz Hsa (m + 29)) y 0)), (1, .inl fa), (2, .inl y), (0, .inr (.inr (some 91)))], [.inr (.inr (mu_r Hsa m 13)), .inr (.inr (some 91))], Hsa)) (C := [mu_is Hsa (some m) 6]) rfl (show mu_is Hsa (some m) 6 from (show mu_is Hsa (some m) 6 from gi_im hpa.1 hpa.2.1)) ?_
    rw [(show mu_r Hsa m 13 = some (m + 27) from (gi_mr hpa.1 hpa.2.1 (j := 13) (by decide)).trans (congrArg some (by omega)))]
    refine mw_go mu_g188 (k := 2) (f1 := (41, [(3, .inl (rw_get Hsa (m + 29) 1 (gi_sz Hsa (m + 29)) y 0)), (1, .inl fa), (2, .inl y), (0, .inr (.inr (some 91)))], [.inl (0 : Int32), .inl (rw_get Hsa (m + 29) 1 (gi_sz Hsa (m + 29)) y 0), .inr (.inr (some (m + 27))), .inr (.inr (some 91))], Hsa)) (C := []) rfl trivial ?_
    refine mw_cIe (fun _ => rfl) (show mu_is Hsa (some (m + 27)) 10 from (hpa.1.w (md_w13 hpa.2.1)).1) (gi_get_ok (d := (d + 3)) (H := Hsa) hpa.1 (md_w13 hpa.2.1) (rw_get Hsa (m + 29) 1 (gi_sz Hsa (m + 29)) y 0) (j := 0) (by decide)) ?_
    refine mw_go mu_g188 (k := 2) (f1 := (48, [(3, .inl (rw_get Hsa (m + 29) 1 (gi_sz Hsa (m + 29)) y 0)), (1, .inl fa), (2, .inl y), (0, .inr (.inr (some 91)))], [.inr (.inr (mu_r Hsa 91 3)), .inl (rw_get Hsa (m + 27) 6 (gi_sz Hsa (m + 27)) (rw_get Hsa (m + 29) 1 (gi_sz Hsa (m + 29)) y 0) 0), .inr (.inr (some 91))], Hsa)) (C := [mu_is Hsa (some 91) 3]) rfl (show mu_is Hsa (some 91) 3 from hpa.1.is rfl) ?_
    rw [hpa.2.2]
    refine mw_go mu_g188 (k := 1) (f1 := (51, [(3, .inl (rw_get Hsa (m + 29) 1 (gi_sz Hsa (m + 29)) y 0)), (1, .inl fa), (2, .inl y), (0, .inr (.inr (some 91)))], [.inr (.inr (mu_r Hsa m 13)), .inl (rw_get Hsa (m + 27) 6 (gi_sz Hsa (m + 27)) (rw_get Hsa (m + 29) 1 (gi_sz Hsa (m + 29)) y 0) 0), .inr (.inr (some 91))], Hsa)) (C := [mu_is Hsa (some m) 6]) rfl (show mu_is Hsa (some m) 6 from (show mu_is Hsa (some m) 6 from gi_im hpa.1 hpa.2.1)) ?_
    rw [(show mu_r Hsa m 13 = some (m + 27) from (gi_mr hpa.1 hpa.2.1 (j := 13) (by decide)).trans (congrArg some (by omega)))]
    refine mw_go mu_g188 (k := 2) (f1 := (53, [(3, .inl (rw_get Hsa (m + 29) 1 (gi_sz Hsa (m + 29)) y 0)), (1, .inl fa), (2, .inl y), (0, .inr (.inr (some 91)))], [.inl (1 : Int32), .inl (rw_get Hsa (m + 29) 1 (gi_sz Hsa (m + 29)) y 0), .inr (.inr (some (m + 27))), .inl (rw_get Hsa (m + 27) 6 (gi_sz Hsa (m + 27)) (rw_get Hsa (m + 29) 1 (gi_sz Hsa (m + 29)) y 0) 0), .inr (.inr (some 91))], Hsa)) (C := []) rfl trivial ?_
    refine mw_cIe (fun _ => rfl) (show mu_is Hsa (some (m + 27)) 10 from (hpa.1.w (md_w13 hpa.2.1)).1) (gi_get_ok (d := (d + 3)) (H := Hsa) hpa.1 (md_w13 hpa.2.1) (rw_get Hsa (m + 29) 1 (gi_sz Hsa (m + 29)) y 0) (j := 1) (by decide)) ?_
    refine mw_go mu_g188 (k := 2) (f1 := (60, [(3, .inl (rw_get Hsa (m + 29) 1 (gi_sz Hsa (m + 29)) y 0)), (1, .inl fa), (2, .inl y), (0, .inr (.inr (some 91)))], [.inr (.inr (mu_r Hsa 91 3)), .inl (rw_get Hsa (m + 27) 6 (gi_sz Hsa (m + 27)) (rw_get Hsa (m + 29) 1 (gi_sz Hsa (m + 29)) y 0) 1), .inl (rw_get Hsa (m + 27) 6 (gi_sz Hsa (m + 27)) (rw_get Hsa (m + 29) 1 (gi_sz Hsa (m + 29)) y 0) 0), .inr (.inr (some 91))], Hsa)) (C := [mu_is Hsa (some 91) 3]) rfl (show mu_is Hsa (some 91) 3 from hpa.1.is rfl) ?_
    rw [hpa.2.2]
    refine mw_go mu_g188 (k := 1) (f1 := (63, [(3, .inl (rw_get Hsa (m + 29) 1 (gi_sz Hsa (m + 29)) y 0)), (1, .inl fa), (2, .inl y), (0, .inr (.inr (some 91)))], [.inr (.inr (mu_r Hsa m 13)), .inl (rw_get Hsa (m + 27) 6 (gi_sz Hsa (m + 27)) (rw_get Hsa (m + 29) 1 (gi_sz Hsa (m + 29)) y 0) 1), .inl (rw_get Hsa (m + 27) 6 (gi_sz Hsa (m + 27)) (rw_get Hsa (m + 29) 1 (gi_sz Hsa (m + 29)) y 0) 0), .inr (.inr (some 91))], Hsa)) (C := [mu_is Hsa (some m) 6]) rfl (show mu_is Hsa (some m) 6 from (show mu_is Hsa (some m) 6 from gi_im hpa.1 hpa.2.1)) ?_
    rw [(show mu_r Hsa m 13 = some (m + 27) from (gi_mr hpa.1 hpa.2.1 (j := 13) (by decide)).trans (congrArg some (by omega)))]
    refine mw_go mu_g188 (k := 2) (f1 := (65, [(3, .inl (rw_get Hsa (m + 29) 1 (gi_sz Hsa (m + 29)) y 0)), (1, .inl fa), (2, .inl y), (0, .inr (.inr (some 91)))], [.inl (2 : Int32), .inl (rw_get Hsa (m + 29) 1 (gi_sz Hsa (m + 29)) y 0), .inr (.inr (some (m + 27))), .inl (rw_get Hsa (m + 27) 6 (gi_sz Hsa (m + 27)) (rw_get Hsa (m + 29) 1 (gi_sz Hsa (m + 29)) y 0) 1), .inl (rw_get Hsa (m + 27) 6 (gi_sz Hsa (m + 27)) (rw_get Hsa (m + 29) 1 (gi_sz Hsa (m + 29)) y 0) 0), .inr (.inr (some 91))], Hsa)) (C := []) rfl trivial ?_
    refine mw_cIe (fun _ => rfl) (show mu_is Hsa (some (m + 27)) 10 from (hpa.1.w (md_w13 hpa.2.1)).1) (gi_get_ok (d := (d + 3)) (H := Hsa) hpa.1 (md_w13 hpa.2.1) (rw_get Hsa (m + 29) 1 (gi_sz Hsa (m + 29)) y 0) (j := 2) (by decide)) ?_
    obtain ⟨f6, hf6, ef6⟩ := (h27_0.jy (j := 13) (by decide) (by omega) rfl (by decide) (by decide) hta).get hpa.1 (md_w13 hpa.2.1) (by decide) (rw_get Hsa (m + 29) 1 (gi_sz Hsa (m + 29)) y 0)
    obtain ⟨t6, ht6, et6⟩ := (h27_1.jy (j := 13) (by decide) (by omega) rfl (by decide) (by decide) hta).get hpa.1 (md_w13 hpa.2.1) (by decide) (rw_get Hsa (m + 29) 1 (gi_sz Hsa (m + 29)) y 0)
    rw [ef6, et6]
    refine mw_cI (fun _ => rfl) (show mu_is Hsa (some 91) 3 from hpa.1.is rfl) (jg_heightOf (d := d) (f := f6) (t := t6) hpa (hck.jy hta) ht6 hf6 (by rw [hta.m1, hta.len h.1]; exact hN) (rw_get Hsa (m + 27) 6 (gi_sz Hsa (m + 27)) (rw_get Hsa (m + 29) 1 (gi_sz Hsa (m + 29)) y 0) 2)) (fun x6 H6 q6 => ?_)
    obtain ⟨hp6, qt6⟩ := q6
    have ht6 := hta.trans (qt6.jy hpa)
    refine mw_go mu_g188 (k := 3) (f1 := (77, [(4, .inl x6), (3, .inl (rw_get Hsa (m + 29) 1 (gi_sz Hsa (m + 29)) y 0)), (1, .inl fa), (2, .inl y), (0, .inr (.inr (some 91)))], [.inr (.inr (mu_r H6 91 3))], H6)) (C := [mu_is H6 (some 91) 3]) rfl (show mu_is H6 (some 91) 3 from hp6.1.is rfl) ?_
    rw [hp6.2.2]
    refine mw_go mu_g188 (k := 1) (f1 := (80, [(4, .inl x6), (3, .inl (rw_get Hsa (m + 29) 1 (gi_sz Hsa (m + 29)) y 0)), (1, .inl fa), (2, .inl y), (0, .inr (.inr (some 91)))], [.inr (.inr (mu_r H6 m 13))], H6)) (C := [mu_is H6 (some m) 6]) rfl (show mu_is H6 (some m) 6 from (show mu_is H6 (some m) 6 from gi_im hp6.1 hp6.2.1)) ?_
    rw [(show mu_r H6 m 13 = some (m + 27) from (gi_mr hp6.1 hp6.2.1 (j := 13) (by decide)).trans (congrArg some (by omega)))]
    refine mw_go mu_g188 (k := 3) (f1 := (84, [(4, .inl x6), (3, .inl (rw_get Hsa (m + 29) 1 (gi_sz Hsa (m + 29)) y 0)), (1, .inl fa), (2, .inl y), (0, .inr (.inr (some 91)))], [.inl x6, .inl (3 : Int32), .inl (rw_get Hsa (m + 29) 1 (gi_sz Hsa (m + 29)) y 0), .inr (.inr (some (m + 27)))], H6)) (C := []) rfl trivial ?_
    refine mw_cV (fun _ => rfl) (show mu_is H6 (some (m + 27)) 10 from (hp6.1.w (md_w13 hp6.2.1)).1) (gi_set_ok (d := (d + 3)) hp6.1 (md_w13 hp6.2.1) (rw_get Hsa (m + 29) 1 (gi_sz Hsa (m + 29)) y 0) x6 (j := 3) (by decide)) (fun H7 q7 => ?_)
    obtain ⟨hp7, qt7⟩ := hp6.set13 (c := 3) (row := (rw_get Hsa (m + 29) 1 (gi_sz Hsa (m + 29)) y 0)) (v := x6) (by decide) (by decide)
    rw [← q7] at hp7 qt7
    have ht7 := ht6.trans qt7
    refine mw_go mu_g188 (k := 3) (f1 := (92, [(4, .inl x6), (3, .inl (rw_get Hsa (m + 29) 1 (gi_sz Hsa (m + 29)) y 0)), (1, .inl fa), (2, .inl y), (0, .inr (.inr (some 91)))], [.inl (120 : Int32), .inl x6, .inl fa], H7)) (C := []) rfl trivial ?_
    refine mw_if (P := (120 : Int32) < x6) (a := 99) (b := 95) (fun _ => rfl) trivial (fun h8 => ?_) (fun h8 => ?_)
    · -- 99: (120 : Int32) < x6
      refine mw_go mu_g188 (k := 5) (f1 := (4, [(2, .inl (y + 1)), (1, .inl (fa &&& (0 : Int32))), (4, .inl x6), (3, .inl (rw_get Hsa (m + 29) 1 (gi_sz Hsa (m + 29)) y 0)), (0, .inr (.inr (some 91)))], [], H7)) (C := []) rfl trivial ?_
      exact mw_sub (by simp) (iha ((fa &&& (0 : Int32)), (y + 1), H7) ⟨hp7, ht7, (show (fa &&& (0 : Int32)) = 0 ∨ (fa &&& (0 : Int32)) = 1 from b_and (hfa) (Or.inl rfl))⟩ (by show (2147483647 - (y + 1).toInt).toNat < (2147483647 - y.toInt).toNat; omega))
    · -- 95: not (120 : Int32) < x6
      refine mw_go mu_g188 (k := 6) (f1 := (4, [(2, .inl (y + 1)), (1, .inl (fa &&& (1 : Int32))), (4, .inl x6), (3, .inl (rw_get Hsa (m + 29) 1 (gi_sz Hsa (m + 29)) y 0)), (0, .inr (.inr (some 91)))], [], H7)) (C := []) rfl trivial ?_
      exact mw_sub (by simp) (iha ((fa &&& (1 : Int32)), (y + 1), H7) ⟨hp7, ht7, (show (fa &&& (1 : Int32)) = 0 ∨ (fa &&& (1 : Int32)) = 1 from b_and (hfa) (Or.inr rfl))⟩ (by show (2147483647 - (y + 1).toInt).toNat < (2147483647 - y.toInt).toNat; omega))
  · -- 108: not y < (mu_i Hsa (m + 29) 2)
    refine mw_go mu_g188 (k := 2) (f1 := (110, [(2, .inl (0 : Int32)), (1, .inl fa), (0, .inr (.inr (some 91)))], [], Hsa)) (C := []) rfl trivial ?_
    refine mw_sub (L' := [(1, .inl fa), (2, .inl (0 : Int32)), (0, .inr (.inr (some 91)))]) (by simp) ?_
    refine mw_down (α := Int32 × Int32 × mu_H) (fun zs => (110, [(1, .inl zs.1), (2, .inl zs.2.1), (0, .inr (.inr (some 91)))], [], zs.2.2)) (fun zs => (2147483647 - zs.2.1.toInt).toNat) (fun zs => jd m zs.2.2 ∧ jy m H zs.2.2 ∧ (zs.1 = 0 ∨ zs.1 = 1)) (fun zs hz ihb => ?_) (fa, (0 : Int32), Hsa) ⟨hpa, hta, (show fa = 0 ∨ fa = 1 from hfa)⟩
    obtain ⟨fb, z, Hsb⟩ := zs
    obtain ⟨hpb, htb, hfb⟩ := hz
    have hpb : jd m Hsb := hpb
    have htb : jy m H Hsb := htb
    have hfb : fb = 0 ∨ fb = 1 := hfb
    show mu_W _ _ (110, [(1, .inl fb), (2, .inl z), (0, .inr (.inr (some 91)))], [], Hsb) _
    refine mw_go mu_g188 (k := 3) (f1 := (115, [(1, .inl fb), (2, .inl z), (0, .inr (.inr (some 91)))], [.inr (.inr (mu_r Hsb 91 3)), .inl z], Hsb)) (C := [mu_is Hsb (some 91) 3]) rfl (show mu_is Hsb (some 91) 3 from hpb.1.is rfl) ?_
    rw [hpb.2.2]
    refine mw_go mu_g188 (k := 1) (f1 := (118, [(1, .inl fb), (2, .inl z), (0, .inr (.inr (some 91)))], [.inr (.inr (mu_r Hsb m 11)), .inl z], Hsb)) (C := [mu_is Hsb (some m) 6]) rfl (show mu_is Hsb (some m) 6 from (show mu_is Hsb (some m) 6 from gi_im hpb.1 hpb.2.1)) ?_
    rw [(show mu_r Hsb m 11 = some (m + 23) from (gi_mr hpb.1 hpb.2.1 (j := 11) (by decide)).trans (congrArg some (by omega)))]
    refine mw_go mu_g188 (k := 1) (f1 := (121, [(1, .inl fb), (2, .inl z), (0, .inr (.inr (some 91)))], [.inl (mu_i Hsb (m + 23) 2), .inl z], Hsb)) (C := [mu_is Hsb (some (m + 23)) 10]) rfl (show mu_is Hsb (some (m + 23)) 10 from (hpb.1.w (md_w11 hpb.2.1)).1) ?_
    refine mw_if (P := z < (mu_i Hsb (m + 23) 2)) (a := 124) (b := 313) (fun _ => rfl) trivial (fun h9 => ?_) (fun h9 => ?_)
    · -- 124: z < (mu_i Hsb (m + 23) 2)
      have huph9 := i32_up h9
      refine mw_go mu_g188 (k := 2) (f1 := (128, [(1, .inl fb), (2, .inl z), (0, .inr (.inr (some 91)))], [.inr (.inr (mu_r Hsb 91 3))], Hsb)) (C := [mu_is Hsb (some 91) 3]) rfl (show mu_is Hsb (some 91) 3 from hpb.1.is rfl) ?_
      rw [hpb.2.2]
      refine mw_go mu_g188 (k := 1) (f1 := (131, [(1, .inl fb), (2, .inl z), (0, .inr (.inr (some 91)))], [.inr (.inr (mu_r Hsb m 11))], Hsb)) (C := [mu_is Hsb (some m) 6]) rfl (show mu_is Hsb (some m) 6 from (show mu_is Hsb (some m) 6 from gi_im hpb.1 hpb.2.1)) ?_
      rw [(show mu_r Hsb m 11 = some (m + 23) from (gi_mr hpb.1 hpb.2.1 (j := 11) (by decide)).trans (congrArg some (by omega)))]
      refine mw_go mu_g188 (k := 2) (f1 := (133, [(1, .inl fb), (2, .inl z), (0, .inr (.inr (some 91)))], [.inl (0 : Int32), .inl z, .inr (.inr (some (m + 23)))], Hsb)) (C := []) rfl trivial ?_
      refine mw_cIe (fun _ => rfl) (show mu_is Hsb (some (m + 23)) 10 from (hpb.1.w (md_w11 hpb.2.1)).1) (gi_get_ok (d := (d + 3)) (H := Hsb) hpb.1 (md_w11 hpb.2.1) z (j := 0) (by decide)) ?_
      refine mw_go mu_g188 (k := 3) (f1 := (141, [(3, .inl (rw_get Hsb (m + 23) 4 (gi_sz Hsb (m + 23)) z 0)), (1, .inl fb), (2, .inl z), (0, .inr (.inr (some 91)))], [.inr (.inr (mu_r Hsb 91 3))], Hsb)) (C := [mu_is Hsb (some 91) 3]) rfl (show mu_is Hsb (some 91) 3 from hpb.1.is rfl) ?_
      rw [hpb.2.2]
      refine mw_go mu_g188 (k := 1) (f1 := (144, [(3, .inl (rw_get Hsb (m + 23) 4 (gi_sz Hsb (m + 23)) z 0)), (1, .inl fb), (2, .inl z), (0, .inr (.inr (some 91)))], [.inr (.inr (mu_r Hsb m 1))], Hsb)) (C := [mu_is Hsb (some m) 6]) rfl (show mu_is Hsb (some m) 6 from (show mu_is Hsb (some m) 6 from gi_im hpb.1 hpb.2.1)) ?_
      rw [(show mu_r Hsb m 1 = some (m + 3) from (gi_mr hpb.1 hpb.2.1 (j := 1) (by decide)).trans (congrArg some (by omega)))]
      refine mw_go mu_g188 (k := 2) (f1 := (146, [(3, .inl (rw_get Hsb (m + 23) 4 (gi_sz Hsb (m + 23)) z 0)), (1, .inl fb), (2, .inl z), (0, .inr (.inr (some 91)))], [.inl (5 : Int32), .inl (rw_get Hsb (m + 23) 4 (gi_sz Hsb (m + 23)) z 0), .inr (.inr (some (m + 3)))], Hsb)) (C := []) rfl trivial ?_
      refine mw_cIe (fun _ => rfl) (show mu_is Hsb (some (m + 3)) 10 from (hpb.1.w (md_w1 hpb.2.1)).1) (gi_get_ok (d := (d + 3)) (H := Hsb) hpb.1 (md_w1 hpb.2.1) (rw_get Hsb (m + 23) 4 (gi_sz Hsb (m + 23)) z 0) (j := 5) (by decide)) ?_
      refine mw_go mu_g188 (k := 1) (f1 := (151, [(4, .inl (rw_get Hsb (m + 3) 11 (gi_sz Hsb (m + 3)) (rw_get Hsb (m + 23) 4 (gi_sz Hsb (m + 23)) z 0) 5)), (3, .inl (rw_get Hsb (m + 23) 4 (gi_sz Hsb (m + 23)) z 0)), (1, .inl fb), (2, .inl z), (0, .inr (.inr (some 91)))], [], Hsb)) (C := []) rfl trivial ?_
      refine mw_sub (L' := [(1, .inl fb), (4, .inl (rw_get Hsb (m + 3) 11 (gi_sz Hsb (m + 3)) (rw_get Hsb (m + 23) 4 (gi_sz Hsb (m + 23)) z 0) 5)), (0, .inr (.inr (some 91))), (2, .inl z), (3, .inl (rw_get Hsb (m + 23) 4 (gi_sz Hsb (m + 23)) z 0))]) (by simp) ?_
      refine mw_down (α := Int32 × Int32 × mu_H) (fun zs => (151, [(1, .inl zs.1), (4, .inl zs.2.1), (0, .inr (.inr (some 91))), (2, .inl z), (3, .inl (rw_get Hsb (m + 23) 4 (gi_sz Hsb (m + 23)) z 0))], [], zs.2.2)) (fun zs => (2147483647 - zs.2.1.toInt).toNat) (fun zs => jd m zs.2.2 ∧ jy m H zs.2.2 ∧ (zs.1 = 0 ∨ zs.1 = 1)) (fun zs hz ihc => ?_) (fb, (rw_get Hsb (m + 3) 11 (gi_sz Hsb (m + 3)) (rw_get Hsb (m + 23) 4 (gi_sz Hsb (m + 23)) z 0) 5), Hsb) ⟨hpb, htb, (show fb = 0 ∨ fb = 1 from hfb)⟩
      obtain ⟨fc, u, Hsc⟩ := zs
      obtain ⟨hpc, htc, hfc⟩ := hz
      have hpc : jd m Hsc := hpc
      have htc : jy m H Hsc := htc
      have hfc : fc = 0 ∨ fc = 1 := hfc
      show mu_W _ _ (151, [(1, .inl fc), (4, .inl u), (0, .inr (.inr (some 91))), (2, .inl z), (3, .inl (rw_get Hsb (m + 23) 4 (gi_sz Hsb (m + 23)) z 0))], [], Hsc) _
      refine mw_go mu_g188 (k := 3) (f1 := (157, [(1, .inl fc), (4, .inl u), (0, .inr (.inr (some 91))), (2, .inl z), (3, .inl (rw_get Hsb (m + 23) 4 (gi_sz Hsb (m + 23)) z 0))], [.inr (.inr (mu_r Hsc 91 3)), .inl u], Hsc)) (C := [mu_is Hsc (some 91) 3]) rfl (show mu_is Hsc (some 91) 3 from hpc.1.is rfl) ?_
      rw [hpc.2.2]
      refine mw_go mu_g188 (k := 4) (f1 := (163, [(1, .inl fc), (4, .inl u), (0, .inr (.inr (some 91))), (2, .inl z), (3, .inl (rw_get Hsb (m + 23) 4 (gi_sz Hsb (m + 23)) z 0))], [.inr (.inr (mu_r Hsc 91 3)), .inl (5 : Int32), .inl (rw_get Hsb (m + 23) 4 (gi_sz Hsb (m + 23)) z 0), .inr (.inr (some m)), .inl u], Hsc)) (C := [mu_is Hsc (some 91) 3]) rfl (show mu_is Hsc (some 91) 3 from hpc.1.is rfl) ?_
      rw [hpc.2.2]
      refine mw_go mu_g188 (k := 1) (f1 := (166, [(1, .inl fc), (4, .inl u), (0, .inr (.inr (some 91))), (2, .inl z), (3, .inl (rw_get Hsb (m + 23) 4 (gi_sz Hsb (m + 23)) z 0))], [.inr (.inr (mu_r Hsc m 8)), .inl (5 : Int32), .inl (rw_get Hsb (m + 23) 4 (gi_sz Hsb (m + 23)) z 0), .inr (.inr (some m)), .inl u], Hsc)) (C := [mu_is Hsc (some m) 6]) rfl (show mu_is Hsc (some m) 6 from (show mu_is Hsc (some m) 6 from gi_im hpc.1 hpc.2.1)) ?_
      rw [(show mu_r Hsc m 8 = some (m + 17) from (gi_mr hpc.1 hpc.2.1 (j := 8) (by decide)).trans (congrArg some (by omega)))]
      refine mw_cI (fun _ => rfl) (show mu_is Hsc (some m) 6 from (show mu_is Hsc (some m) 6 from gi_im hpc.1 hpc.2.1)) (md_stop (d := (d + 2)) hpc.1 hpc.2.1 (md_w8 hpc.2.1) (c := 5) (by decide) (rw_get Hsb (m + 23) 4 (gi_sz Hsb (m + 23)) z 0)) (fun x12 H12 q12 => ?_)
      obtain ⟨rfl, hst12⟩ := q12
      refine mw_if (P := u < x12) (a := 172) (b := 222) (fun _ => rfl) trivial (fun h13 => ?_) (fun h13 => ?_)
      · -- 172: u < x12
        have huph13 := i32_up h13
        refine mw_go mu_g188 (k := 4) (f1 := (178, [(1, .inl fc), (4, .inl u), (0, .inr (.inr (some 91))), (2, .inl z), (3, .inl (rw_get Hsb (m + 23) 4 (gi_sz Hsb (m + 23)) z 0))], [.inr (.inr (mu_r Hsc 91 3)), .inr (.inr (some 91)), .inl fc], Hsc)) (C := [mu_is Hsc (some 91) 3]) rfl (show mu_is Hsc (some 91) 3 from hpc.1.is rfl) ?_
        rw [hpc.2.2]
        refine mw_go mu_g188 (k := 1) (f1 := (181, [(1, .inl fc), (4, .inl u), (0, .inr (.inr (some 91))), (2, .inl z), (3, .inl (rw_get Hsb (m + 23) 4 (gi_sz Hsb (m + 23)) z 0))], [.inr (.inr (mu_r Hsc m 8)), .inr (.inr (some 91)), .inl fc], Hsc)) (C := [mu_is Hsc (some m) 6]) rfl (show mu_is Hsc (some m) 6 from (show mu_is Hsc (some m) 6 from gi_im hpc.1 hpc.2.1)) ?_
        rw [(show mu_r Hsc m 8 = some (m + 17) from (gi_mr hpc.1 hpc.2.1 (j := 8) (by decide)).trans (congrArg some (by omega)))]
        refine mw_go mu_g188 (k := 2) (f1 := (184, [(1, .inl fc), (4, .inl u), (0, .inr (.inr (some 91))), (2, .inl z), (3, .inl (rw_get Hsb (m + 23) 4 (gi_sz Hsb (m + 23)) z 0))], [.inl (1 : Int32), .inl u, .inr (.inr (some (m + 17))), .inr (.inr (some 91)), .inl fc], Hsc)) (C := []) rfl trivial ?_
        refine mw_cIe (fun _ => rfl) (show mu_is Hsc (some (m + 17)) 10 from (hpc.1.w (md_w8 hpc.2.1)).1) (gi_get_ok (d := (d + 3)) (H := Hsc) hpc.1 (md_w8 hpc.2.1) u (j := 1) (by decide)) ?_
        refine mw_go mu_g188 (k := 2) (f1 := (191, [(1, .inl fc), (4, .inl u), (0, .inr (.inr (some 91))), (2, .inl z), (3, .inl (rw_get Hsb (m + 23) 4 (gi_sz Hsb (m + 23)) z 0))], [.inr (.inr (mu_r Hsc 91 3)), .inl (rw_get Hsc (m + 17) 3 (gi_sz Hsc (m + 17)) u 1), .inr (.inr (some 91)), .inl fc], Hsc)) (C := [mu_is Hsc (some 91) 3]) rfl (show mu_is Hsc (some 91) 3 from hpc.1.is rfl) ?_
        rw [hpc.2.2]
        refine mw_go mu_g188 (k := 1) (f1 := (194, [(1, .inl fc), (4, .inl u), (0, .inr (.inr (some 91))), (2, .inl z), (3, .inl (rw_get Hsb (m + 23) 4 (gi_sz Hsb (m + 23)) z 0))], [.inr (.inr (mu_r Hsc m 8)), .inl (rw_get Hsc (m + 17) 3 (gi_sz Hsc (m + 17)) u 1), .inr (.inr (some 91)), .inl fc], Hsc)) (C := [mu_is Hsc (some m) 6]) rfl (show mu_is Hsc (some m) 6 from (show mu_is Hsc (some m) 6 from gi_im hpc.1 hpc.2.1)) ?_
        rw [(show mu_r Hsc m 8 = some (m + 17) from (gi_mr hpc.1 hpc.2.1 (j := 8) (by decide)).trans (congrArg some (by omega)))]
        refine mw_go mu_g188 (k := 2) (f1 := (197, [(1, .inl fc), (4, .inl u), (0, .inr (.inr (some 91))), (2, .inl z), (3, .inl (rw_get Hsb (m + 23) 4 (gi_sz Hsb (m + 23)) z 0))], [.inl (2 : Int32), .inl u, .inr (.inr (some (m + 17))), .inl (rw_get Hsc (m + 17) 3 (gi_sz Hsc (m + 17)) u 1), .inr (.inr (some 91)), .inl fc], Hsc)) (C := []) rfl trivial ?_
        refine mw_cIe (fun _ => rfl) (show mu_is Hsc (some (m + 17)) 10 from (hpc.1.w (md_w8 hpc.2.1)).1) (gi_get_ok (d := (d + 3)) (H := Hsc) hpc.1 (md_w8 hpc.2.1) u (j := 2) (by decide)) ?_
        refine mw_go mu_g188 (k := 1) (f1 := (201, [(1, .inl fc), (4, .inl u), (0, .inr (.inr (some 91))), (2, .inl z), (3, .inl (rw_get Hsb (m + 23) 4 (gi_sz Hsb (m + 23)) z 0))], [.inl z, .inl (rw_get Hsc (m + 17) 3 (gi_sz Hsc (m + 17)) u 2), .inl (rw_get Hsc (m + 17) 3 (gi_sz Hsc (m + 17)) u 1), .inr (.inr (some 91)), .inl fc], Hsc)) (C := []) rfl trivial ?_
        obtain ⟨f16, hf16, ef16⟩ := (h17_1.jy (j := 8) (by decide) (by omega) rfl (by decide) (by decide) htc).get hpc.1 (md_w8 hpc.2.1) (by decide) u
        obtain ⟨t16, ht16, et16⟩ := (h17_2.jy (j := 8) (by decide) (by omega) rfl (by decide) (by decide) htc).get hpc.1 (md_w8 hpc.2.1) (by decide) u
        rw [ef16, et16]
        refine mw_cI (fun _ => rfl) (show mu_is Hsc (some 91) 3 from hpc.1.is rfl) (jg_heightOf (d := d) (f := f16) (t := t16) hpc (hck.jy htc) ht16 hf16 (by rw [htc.m1, htc.len h.1]; exact hN) z) (fun x16 H16 q16 => ?_)
        obtain ⟨hp16, qt16⟩ := q16
        have ht16 := htc.trans (qt16.jy hpc)
        refine mw_go mu_g188 (k := 1) (f1 := (206, [(1, .inl fc), (4, .inl u), (0, .inr (.inr (some 91))), (2, .inl z), (3, .inl (rw_get Hsb (m + 23) 4 (gi_sz Hsb (m + 23)) z 0))], [.inl (120 : Int32), .inl x16, .inl fc], H16)) (C := []) rfl trivial ?_
        refine mw_if (P := (120 : Int32) < x16) (a := 213) (b := 209) (fun _ => rfl) trivial (fun h17 => ?_) (fun h17 => ?_)
        · -- 213: (120 : Int32) < x16
          refine mw_go mu_g188 (k := 5) (f1 := (151, [(4, .inl (u + 1)), (1, .inl (fc &&& (0 : Int32))), (0, .inr (.inr (some 91))), (2, .inl z), (3, .inl (rw_get Hsb (m + 23) 4 (gi_sz Hsb (m + 23)) z 0))], [], H16)) (C := []) rfl trivial ?_
          exact mw_sub (by simp) (ihc ((fc &&& (0 : Int32)), (u + 1), H16) ⟨hp16, ht16, (show (fc &&& (0 : Int32)) = 0 ∨ (fc &&& (0 : Int32)) = 1 from b_and (hfc) (Or.inl rfl))⟩ (by show (2147483647 - (u + 1).toInt).toNat < (2147483647 - u.toInt).toNat; omega))
        · -- 209: not (120 : Int32) < x16
          refine mw_go mu_g188 (k := 6) (f1 := (151, [(4, .inl (u + 1)), (1, .inl (fc &&& (1 : Int32))), (0, .inr (.inr (some 91))), (2, .inl z), (3, .inl (rw_get Hsb (m + 23) 4 (gi_sz Hsb (m + 23)) z 0))], [], H16)) (C := []) rfl trivial ?_
          exact mw_sub (by simp) (ihc ((fc &&& (1 : Int32)), (u + 1), H16) ⟨hp16, ht16, (show (fc &&& (1 : Int32)) = 0 ∨ (fc &&& (1 : Int32)) = 1 from b_and (hfc) (Or.inr rfl))⟩ (by show (2147483647 - (u + 1).toInt).toNat < (2147483647 - u.toInt).toNat; omega))
      · -- 222: not u < x12
        refine mw_go mu_g188 (k := 2) (f1 := (226, [(1, .inl fc), (4, .inl u), (0, .inr (.inr (some 91))), (2, .inl z), (3, .inl (rw_get Hsb (m + 23) 4 (gi_sz Hsb (m + 23)) z 0))], [.inr (.inr (mu_r Hsc 91 3))], Hsc)) (C := [mu_is Hsc (some 91) 3]) rfl (show mu_is Hsc (some 91) 3 from hpc.1.is rfl) ?_
        rw [hpc.2.2]
        refine mw_go mu_g188 (k := 1) (f1 := (229, [(1, .inl fc), (4, .inl u), (0, .inr (.inr (some 91))), (2, .inl z), (3, .inl (rw_get Hsb (m + 23) 4 (gi_sz Hsb (m + 23)) z 0))], [.inr (.inr (mu_r Hsc m 1))], Hsc)) (C := [mu_is Hsc (some m) 6]) rfl (show mu_is Hsc (some m) 6 from (show mu_is Hsc (some m) 6 from gi_im hpc.1 hpc.2.1)) ?_
        rw [(show mu_r Hsc m 1 = some (m + 3) from (gi_mr hpc.1 hpc.2.1 (j := 1) (by decide)).trans (congrArg some (by omega)))]
        refine mw_go mu_g188 (k := 2) (f1 := (231, [(1, .inl fc), (4, .inl u), (0, .inr (.inr (some 91))), (2, .inl z), (3, .inl (rw_get Hsb (m + 23) 4 (gi_sz Hsb (m + 23)) z 0))], [.inl (4 : Int32), .inl (rw_get Hsb (m + 23) 4 (gi_sz Hsb (m + 23)) z 0), .inr (.inr (some (m + 3)))], Hsc)) (C := []) rfl trivial ?_
        refine mw_cIe (fun _ => rfl) (show mu_is Hsc (some (m + 3)) 10 from (hpc.1.w (md_w1 hpc.2.1)).1) (gi_get_ok (d := (d + 3)) (H := Hsc) hpc.1 (md_w1 hpc.2.1) (rw_get Hsb (m + 23) 4 (gi_sz Hsb (m + 23)) z 0) (j := 4) (by decide)) ?_
        refine mw_go mu_g188 (k := 1) (f1 := (236, [(4, .inl (rw_get Hsc (m + 3) 11 (gi_sz Hsc (m + 3)) (rw_get Hsb (m + 23) 4 (gi_sz Hsb (m + 23)) z 0) 4)), (1, .inl fc), (0, .inr (.inr (some 91))), (2, .inl z), (3, .inl (rw_get Hsb (m + 23) 4 (gi_sz Hsb (m + 23)) z 0))], [], Hsc)) (C := []) rfl trivial ?_
        refine mw_sub (L' := [(1, .inl fc), (4, .inl (rw_get Hsc (m + 3) 11 (gi_sz Hsc (m + 3)) (rw_get Hsb (m + 23) 4 (gi_sz Hsb (m + 23)) z 0) 4)), (0, .inr (.inr (some 91))), (2, .inl z), (3, .inl (rw_get Hsb (m + 23) 4 (gi_sz Hsb (m + 23)) z 0))]) (by simp) ?_
        refine mw_down (α := Int32 × Int32 × mu_H) (fun zs => (236, [(1, .inl zs.1), (4, .inl zs.2.1), (0, .inr (.inr (some 91))), (2, .inl z), (3, .inl (rw_get Hsb (m + 23) 4 (gi_sz Hsb (m + 23)) z 0))], [], zs.2.2)) (fun zs => (2147483647 - zs.2.1.toInt).toNat) (fun zs => jd m zs.2.2 ∧ jy m H zs.2.2 ∧ (zs.1 = 0 ∨ zs.1 = 1)) (fun zs hz ihd => ?_) (fc, (rw_get Hsc (m + 3) 11 (gi_sz Hsc (m + 3)) (rw_get Hsb (m + 23) 4 (gi_sz Hsb (m + 23)) z 0) 4), Hsc) ⟨hpc, htc, (show fc = 0 ∨ fc = 1 from hfc)⟩
        obtain ⟨fd, v, Hsd⟩ := zs
        obtain ⟨hpd, htd, hfd⟩ := hz
        have hpd : jd m Hsd := hpd
        have htd : jy m H Hsd := htd
        have hfd : fd = 0 ∨ fd = 1 := hfd
        show mu_W _ _ (236, [(1, .inl fd), (4, .inl v), (0, .inr (.inr (some 91))), (2, .inl z), (3, .inl (rw_get Hsb (m + 23) 4 (gi_sz Hsb (m + 23)) z 0))], [], Hsd) _
        refine mw_go mu_g188 (k := 3) (f1 := (242, [(1, .inl fd), (4, .inl v), (0, .inr (.inr (some 91))), (2, .inl z), (3, .inl (rw_get Hsb (m + 23) 4 (gi_sz Hsb (m + 23)) z 0))], [.inr (.inr (mu_r Hsd 91 3)), .inl v], Hsd)) (C := [mu_is Hsd (some 91) 3]) rfl (show mu_is Hsd (some 91) 3 from hpd.1.is rfl) ?_
        rw [hpd.2.2]
        refine mw_go mu_g188 (k := 4) (f1 := (248, [(1, .inl fd), (4, .inl v), (0, .inr (.inr (some 91))), (2, .inl z), (3, .inl (rw_get Hsb (m + 23) 4 (gi_sz Hsb (m + 23)) z 0))], [.inr (.inr (mu_r Hsd 91 3)), .inl (4 : Int32), .inl (rw_get Hsb (m + 23) 4 (gi_sz Hsb (m + 23)) z 0), .inr (.inr (some m)), .inl v], Hsd)) (C := [mu_is Hsd (some 91) 3]) rfl (show mu_is Hsd (some 91) 3 from hpd.1.is rfl) ?_
        rw [hpd.2.2]
        refine mw_go mu_g188 (k := 1) (f1 := (251, [(1, .inl fd), (4, .inl v), (0, .inr (.inr (some 91))), (2, .inl z), (3, .inl (rw_get Hsb (m + 23) 4 (gi_sz Hsb (m + 23)) z 0))], [.inr (.inr (mu_r Hsd m 7)), .inl (4 : Int32), .inl (rw_get Hsb (m + 23) 4 (gi_sz Hsb (m + 23)) z 0), .inr (.inr (some m)), .inl v], Hsd)) (C := [mu_is Hsd (some m) 6]) rfl (show mu_is Hsd (some m) 6 from (show mu_is Hsd (some m) 6 from gi_im hpd.1 hpd.2.1)) ?_
        rw [(show mu_r Hsd m 7 = some (m + 15) from (gi_mr hpd.1 hpd.2.1 (j := 7) (by decide)).trans (congrArg some (by omega)))]
        refine mw_cI (fun _ => rfl) (show mu_is Hsd (some m) 6 from (show mu_is Hsd (some m) 6 from gi_im hpd.1 hpd.2.1)) (md_stop (d := (d + 2)) hpd.1 hpd.2.1 (md_w7 hpd.2.1) (c := 4) (by decide) (rw_get Hsb (m + 23) 4 (gi_sz Hsb (m + 23)) z 0)) (fun x19 H19 q19 => ?_)
        obtain ⟨rfl, hst19⟩ := q19
        refine mw_if (P := v < x19) (a := 257) (b := 307) (fun _ => rfl) trivial (fun h20 => ?_) (fun h20 => ?_)
        · -- 257: v < x19
          have huph20 := i32_up h20
          refine mw_go mu_g188 (k := 4) (f1 := (263, [(1, .inl fd), (4, .inl v), (0, .inr (.inr (some 91))), (2, .inl z), (3, .inl (rw_get Hsb (m + 23) 4 (gi_sz Hsb (m + 23)) z 0))], [.inr (.inr (mu_r Hsd 91 3)), .inr (.inr (some 91)), .inl fd], Hsd)) (C := [mu_is Hsd (some 91) 3]) rfl (show mu_is Hsd (some 91) 3 from hpd.1.is rfl) ?_
          rw [hpd.2.2]
          refine mw_go mu_g188 (k := 1) (f1 := (266, [(1, .inl fd), (4, .inl v), (0, .inr (.inr (some 91))), (2, .inl z), (3, .inl (rw_get Hsb (m + 23) 4 (gi_sz Hsb (m + 23)) z 0))], [.inr (.inr (mu_r Hsd m 7)), .inr (.inr (some 91)), .inl fd], Hsd)) (C := [mu_is Hsd (some m) 6]) rfl (show mu_is Hsd (some m) 6 from (show mu_is Hsd (some m) 6 from gi_im hpd.1 hpd.2.1)) ?_
          rw [(show mu_r Hsd m 7 = some (m + 15) from (gi_mr hpd.1 hpd.2.1 (j := 7) (by decide)).trans (congrArg some (by omega)))]
          refine mw_go mu_g188 (k := 2) (f1 := (269, [(1, .inl fd), (4, .inl v), (0, .inr (.inr (some 91))), (2, .inl z), (3, .inl (rw_get Hsb (m + 23) 4 (gi_sz Hsb (m + 23)) z 0))], [.inl (2 : Int32), .inl v, .inr (.inr (some (m + 15))), .inr (.inr (some 91)), .inl fd], Hsd)) (C := []) rfl trivial ?_
          refine mw_cIe (fun _ => rfl) (show mu_is Hsd (some (m + 15)) 10 from (hpd.1.w (md_w7 hpd.2.1)).1) (gi_get_ok (d := (d + 3)) (H := Hsd) hpd.1 (md_w7 hpd.2.1) v (j := 2) (by decide)) ?_
          refine mw_go mu_g188 (k := 2) (f1 := (276, [(1, .inl fd), (4, .inl v), (0, .inr (.inr (some 91))), (2, .inl z), (3, .inl (rw_get Hsb (m + 23) 4 (gi_sz Hsb (m + 23)) z 0))], [.inr (.inr (mu_r Hsd 91 3)), .inl (rw_get Hsd (m + 15) 4 (gi_sz Hsd (m + 15)) v 2), .inr (.inr (some 91)), .inl fd], Hsd)) (C := [mu_is Hsd (some 91) 3]) rfl (show mu_is Hsd (some 91) 3 from hpd.1.is rfl) ?_
          rw [hpd.2.2]
          refine mw_go mu_g188 (k := 1) (f1 := (279, [(1, .inl fd), (4, .inl v), (0, .inr (.inr (some 91))), (2, .inl z), (3, .inl (rw_get Hsb (m + 23) 4 (gi_sz Hsb (m + 23)) z 0))], [.inr (.inr (mu_r Hsd m 7)), .inl (rw_get Hsd (m + 15) 4 (gi_sz Hsd (m + 15)) v 2), .inr (.inr (some 91)), .inl fd], Hsd)) (C := [mu_is Hsd (some m) 6]) rfl (show mu_is Hsd (some m) 6 from (show mu_is Hsd (some m) 6 from gi_im hpd.1 hpd.2.1)) ?_
          rw [(show mu_r Hsd m 7 = some (m + 15) from (gi_mr hpd.1 hpd.2.1 (j := 7) (by decide)).trans (congrArg some (by omega)))]
          refine mw_go mu_g188 (k := 2) (f1 := (282, [(1, .inl fd), (4, .inl v), (0, .inr (.inr (some 91))), (2, .inl z), (3, .inl (rw_get Hsb (m + 23) 4 (gi_sz Hsb (m + 23)) z 0))], [.inl (3 : Int32), .inl v, .inr (.inr (some (m + 15))), .inl (rw_get Hsd (m + 15) 4 (gi_sz Hsd (m + 15)) v 2), .inr (.inr (some 91)), .inl fd], Hsd)) (C := []) rfl trivial ?_
          refine mw_cIe (fun _ => rfl) (show mu_is Hsd (some (m + 15)) 10 from (hpd.1.w (md_w7 hpd.2.1)).1) (gi_get_ok (d := (d + 3)) (H := Hsd) hpd.1 (md_w7 hpd.2.1) v (j := 3) (by decide)) ?_
          refine mw_go mu_g188 (k := 1) (f1 := (286, [(1, .inl fd), (4, .inl v), (0, .inr (.inr (some 91))), (2, .inl z), (3, .inl (rw_get Hsb (m + 23) 4 (gi_sz Hsb (m + 23)) z 0))], [.inl z, .inl (rw_get Hsd (m + 15) 4 (gi_sz Hsd (m + 15)) v 3), .inl (rw_get Hsd (m + 15) 4 (gi_sz Hsd (m + 15)) v 2), .inr (.inr (some 91)), .inl fd], Hsd)) (C := []) rfl trivial ?_
          obtain ⟨f23, hf23, ef23⟩ := (h15_2.jy (j := 7) (by decide) (by omega) rfl (by decide) (by decide) htd).get hpd.1 (md_w7 hpd.2.1) (by decide) v
          obtain ⟨t23, ht23, et23⟩ := (h15_3.jy (j := 7) (by decide) (by omega) rfl (by decide) (by decide) htd).get hpd.1 (md_w7 hpd.2.1) (by decide) v
          rw [ef23, et23]
          refine mw_cI (fun _ => rfl) (show mu_is Hsd (some 91) 3 from hpd.1.is rfl) (jg_heightOf (d := d) (f := f23) (t := t23) hpd (hck.jy htd) ht23 hf23 (by rw [htd.m1, htd.len h.1]; exact hN) z) (fun x23 H23 q23 => ?_)
          obtain ⟨hp23, qt23⟩ := q23
          have ht23 := htd.trans (qt23.jy hpd)
          refine mw_go mu_g188 (k := 1) (f1 := (291, [(1, .inl fd), (4, .inl v), (0, .inr (.inr (some 91))), (2, .inl z), (3, .inl (rw_get Hsb (m + 23) 4 (gi_sz Hsb (m + 23)) z 0))], [.inl (120 : Int32), .inl x23, .inl fd], H23)) (C := []) rfl trivial ?_
          refine mw_if (P := (120 : Int32) < x23) (a := 298) (b := 294) (fun _ => rfl) trivial (fun h24 => ?_) (fun h24 => ?_)
          · -- 298: (120 : Int32) < x23
            refine mw_go mu_g188 (k := 5) (f1 := (236, [(4, .inl (v + 1)), (1, .inl (fd &&& (0 : Int32))), (0, .inr (.inr (some 91))), (2, .inl z), (3, .inl (rw_get Hsb (m + 23) 4 (gi_sz Hsb (m + 23)) z 0))], [], H23)) (C := []) rfl trivial ?_
            exact mw_sub (by simp) (ihd ((fd &&& (0 : Int32)), (v + 1), H23) ⟨hp23, ht23, (show (fd &&& (0 : Int32)) = 0 ∨ (fd &&& (0 : Int32)) = 1 from b_and (hfd) (Or.inl rfl))⟩ (by show (2147483647 - (v + 1).toInt).toNat < (2147483647 - v.toInt).toNat; omega))
          · -- 294: not (120 : Int32) < x23
            refine mw_go mu_g188 (k := 6) (f1 := (236, [(4, .inl (v + 1)), (1, .inl (fd &&& (1 : Int32))), (0, .inr (.inr (some 91))), (2, .inl z), (3, .inl (rw_get Hsb (m + 23) 4 (gi_sz Hsb (m + 23)) z 0))], [], H23)) (C := []) rfl trivial ?_
            exact mw_sub (by simp) (ihd ((fd &&& (1 : Int32)), (v + 1), H23) ⟨hp23, ht23, (show (fd &&& (1 : Int32)) = 0 ∨ (fd &&& (1 : Int32)) = 1 from b_and (hfd) (Or.inr rfl))⟩ (by show (2147483647 - (v + 1).toInt).toNat < (2147483647 - v.toInt).toNat; omega))
        · -- 307: not v < x19
          refine mw_go mu_g188 (k := 2) (f1 := (110, [(2, .inl (z + 1)), (1, .inl fd), (4, .inl v), (0, .inr (.inr (some 91))), (3, .inl (rw_get Hsb (m + 23) 4 (gi_sz Hsb (m + 23)) z 0))], [], Hsd)) (C := []) rfl trivial ?_
          exact mw_sub (by simp) (ihb (fd, (z + 1), Hsd) ⟨hpd, htd, (show fd = 0 ∨ fd = 1 from hfd)⟩ (by show (2147483647 - (z + 1).toInt).toNat < (2147483647 - z.toInt).toNat; omega))
    · -- 313: not z < (mu_i Hsb (m + 23) 2)
      refine mw_go mu_g188 (k := 1) (f1 := (314, [(1, .inl fb), (2, .inl z), (0, .inr (.inr (some 91)))], [.inl fb], Hsb)) (C := []) rfl trivial ?_
      exact mw_of (fun _ => mu_ret rfl hfb ⟨_, Hsb, rfl, hfb, hpb, htb⟩)
end JudgeAll
