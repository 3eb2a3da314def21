/-! Machine.run: the loop over the code -/
section RunLoop
variable {H : mu_H} {m d A W l s t k o f O p n q i a b sc cp slt N : Nat} {C : Nat → Nat} {U V V1 V' : Ud} {it : Nat → Nat} {Y : Ts} {lv : Nat → Nat → Int32}
/-- an operator, whichever -/
theorem mc_applyL (h : um m H) (e : ud m H = V) (hr : ri U V Y O cp A W l a n lv it) (hk : okz Y a n l lv) (ho : 3 < oc Y (a + n)) (hO : V.2.1 100 7 = nI O) (hOt : O + tpz Y a n ≤ A) (hA : A ≤ 16777216) (hcp : V.2.1 100 5 = nI cp) (hcO : cp ≤ O) (hsf : sfz Y a (n + 1) ≤ cp) (hsl : snz Y a (n + 1) < (V.2.2.1 100 15).1) (hsl2 : (V.2.2.1 100 15).1 ≤ 16777216) :
    mu_TV (mu_D (d + 5)) 219 [.inr (.inr (some 100)), .inl (nI (oc Y (a + n))), .inl (nI (plen (oc Y (a + n)) (oa Y (a + n))))] H (fun H1 => um m H1 ∧ ur m C H H1 ∧ uq Fru V (ud m H1) ∧ ∃ it', ri U (ud m H1) Y O cp A W l a (n + 1) lv it') := by
  obtain ⟨⟨z1, z2, z3⟩, z4, z5, z6, z7⟩ := hk
  obtain ⟨y1, y2⟩ := z4 ho
  have hr0 := hr
  obtain ⟨h1, h2, h3, ⟨h4, h5, h6⟩, h7, h8⟩ := hr0
  have h13 := h1.2.2.1
  by_cases hc : oc Y (a + n) = 32 ∨ oc Y (a + n) = 33
  · have e2 : snz Y a (n + 1) = snz Y a n + 1 := if_pos hc
    have e3 : sfz Y a (n + 1) = sfz Y a n + plen (oc Y (a + n)) (oa Y (a + n)) := if_pos hc
    refine (mc_applyC (C := C) (f := tpz Y a n - plen (oc Y (a + n)) (oa Y (a + n))) (q := sfz Y a n) (sc := snz Y a n) h e h1 hO (by omega) y2 hOt hA hc hcp h4 (by rw [h5 _ (Nat.le_refl _), h6]) (by omega) hcO (by omega) hsl2 (fun k hk => by rcases h2 k hk with z | z <;> omega)).imp (fun H1 w => ?_)
    obtain ⟨w1, w2, w3, V', w4, w5, w6, w7, w8⟩ := w
    have w3' : uq Fru V (ud m H1) := w3.mono rfl
    exact ⟨w1, w2, w3', _, ri_choice hr hc z3 y2 w4 w5 w3' w6 w7 w8 hOt hcO (by omega)⟩
  · refine (mc_apply (C := C) (f := tpz Y a n - plen (oc Y (a + n)) (oa Y (a + n))) h e h1 hO (by omega) y2 hOt hA (by omega) (fun y => ?_) (fun y i i1 i2 i3 j hj => ?_) (fun y j hj => ?_)).imp (fun H1 w => ?_)
    · unfold plen
      rcases y with y | y <;> rw [y] <;> (rw [if_neg (by omega), if_neg (by omega), if_neg (by omega), if_neg (by omega)]; first | rw [if_pos rfl]; omega | (rw [if_neg (by omega), if_pos rfl]; omega))
    · rw [h3 i j (by omega) hj]
      exact z6 y i i1 i2 i3 j hj
    · rw [h3 _ j (by omega) hj, h3 _ j (by omega) hj]
      exact z7 y j hj
    · obtain ⟨w1, w2, w3, w4⟩ := w
      have w3' : uq Fru V (ud m H1) := w3.mono rfl
      have e3 : sfz Y a (n + 1) = sfz Y a n := if_neg hc
      exact ⟨w1, w2, w3', _, ri_apply hr ho hc z3 y2 w4 w3' (w3.a 100 15 rfl) (w3.i 100 16 rfl) hOt hcO (by omega)⟩
theorem snz_le (h : n ≤ N) : snz Y a n ≤ snz Y a N := by
  induction N with
  | zero => rw [Nat.le_zero.mp h]; exact Nat.le_refl _
  | succ N ih =>
    by_cases e : n = N + 1
    · rw [e]; exact Nat.le_refl _
    · refine Nat.le_trans (ih (by omega)) ?_
      show snz Y a N ≤ (if oc Y (a + N) = 32 ∨ oc Y (a + N) = 33 then snz Y a N + 1 else snz Y a N)
      split <;> omega
theorem sfz_le (h : n ≤ N) : sfz Y a n ≤ sfz Y a N := by
  induction N with
  | zero => rw [Nat.le_zero.mp h]; exact Nat.le_refl _
  | succ N ih =>
    by_cases e : n = N + 1
    · rw [e]; exact Nat.le_refl _
    · refine Nat.le_trans (ih (by omega)) ?_
      show sfz Y a N ≤ (if oc Y (a + N) = 32 ∨ oc Y (a + N) = 33 then sfz Y a N + plen (oc Y (a + N)) (oa Y (a + N)) else sfz Y a N)
      split <;> omega
/-- PathProver$Machine.run()V -/
abbrev mu_m208 : ev_M := (8, none, [], ev_b208)
theorem mu_g208 : mu_good mu_m208 := mu_goodk ev_k208
def F208a : Uf := ⟨[], [(100, 14), (100, 16)], [(100, 8), (100, 9), (100, 10), (100, 11), (100, 12), (100, 13), (100, 15)], [], [], false⟩
theorem rn_loop {Φ : mu_R → Prop} {x2 : Int32} {it0 : Nat → Nat} (h : um m H) (e : ud m H = U) (hsp : U.2.2.2.1 100 0 = some 99) (hmo : U.2.2.2.1 99 0 = some m) (hO : U.2.1 100 7 = nI O) (hcp : U.2.1 100 5 = nI cp) (hcO : cp ≤ O) (hOA : O ≤ A) (hA : A ≤ 16777216)
    (hdp : ∀ n, n ≤ N → O + tpz Y a n ≤ A) (h13 : A - O + 1 ≤ (U.2.2.1 100 13).1) (h13b : (U.2.2.1 100 13).1 ≤ 16777216) (hsf : sfz Y a N ≤ cp) (hsn : snz Y a N + 1 ≤ (U.2.2.1 100 15).1) (h15 : (U.2.2.1 100 15).1 ≤ 16777216) (h3l : (U.2.2.1 100 3).1 ≤ 16777216)
    (hj : jv Y U.1) (hJ : JW Y) (hi : i < (Y 11).1) (hb : b = a + N) (hb2 : b ≤ 67108864) (hcd : ∀ n, n < N → okz Y a n l lv) (hlf : ∀ n, n < N → oc Y (a + n) ≤ 3 → lfz U Y (O - cp) W l i (a + n) lv) (hri0 : ri U U Y O cp A W l a 0 lv it0)
    (hΦ : ∀ Q V it, ¬ (a + N < b) → um m Q → ur m C H Q → ud m Q = V → uq F208a U V → ri U V Y O cp A W l a N lv it → mu_W (mu_D (d + 5)) mu_m208 (164, [(0, .inr (.inr (some 100))), (1, .inr (.inr (some m))), (2, .inl x2)], [], Q) Φ) :
    mu_W (mu_D (d + 5)) mu_m208 (89, [(5, .inl (nI a)), (0, .inr (.inr (some 100))), (1, .inr (.inr (some m))), (2, .inl x2), (3, .inl (nI b)), (4, .inl (nI i))], [], H) Φ := by
  show mu_W _ _ (89, [(5, .inl (nI (a + 0))), (0, .inr (.inr (some 100))), (1, .inr (.inr (some m))), (2, .inl x2), (3, .inl (nI b)), (4, .inl (nI i))], [], H) _
  refine mw_sub (L' := [(5, .inl (nI (a + 0))), (0, .inr (.inr (some 100))), (1, .inr (.inr (some m))), (2, .inl x2), (3, .inl (nI b)), (4, .inl (nI i))]) (by simp) ?_
  refine mw_down (α := Nat × mu_H) (fun zs => (89, [(5, .inl (nI (a + zs.1))), (0, .inr (.inr (some 100))), (1, .inr (.inr (some m))), (2, .inl x2), (3, .inl (nI b)), (4, .inl (nI i))], [], zs.2)) (fun zs => N - zs.1) (fun zs => um m zs.2 ∧ ur m C H zs.2 ∧ (uq F208a U (ud m zs.2)) ∧ (zs.1 ≤ N) ∧ (∃ it, ri U (ud m zs.2) Y O cp A W l a zs.1 lv it)) (fun zs hza iha => ?_) (0, H) ⟨h, (ur.refl m C H), (show uq F208a U (ud m H) from by rw [e]; exact uq.refl _ _), (show 0 ≤ N from (by omega)), (show ∃ it, ri U (ud m H) Y O cp A W l a 0 lv it from by rw [e]; exact ⟨it0, hri0⟩)⟩
  obtain ⟨n, Hsa⟩ := zs
  obtain ⟨ua, hta, da, hn, hri⟩ := hza
  have ua : um m Hsa := ua
  have hta : ur m C H Hsa := hta
  have zza : uq F208a U (ud m Hsa) := da
  have hn : n ≤ N := hn
  have hri : ∃ it, ri U (ud m Hsa) Y O cp A W l a n lv it := hri
  obtain ⟨Va, da⟩ : ∃ V, ud m Hsa = V := ⟨_, rfl⟩
  rw [da] at zza hri
  show mu_W _ _ (89, [(5, .inl (nI (a + n))), (0, .inr (.inr (some 100))), (1, .inr (.inr (some m))), (2, .inl x2), (3, .inl (nI b)), (4, .inl (nI i))], [], Hsa) _
  obtain ⟨it, hri⟩ := hri
  have ht14 : tpz Y a n ≤ (Va.2.2.1 100 13).1 := hri.1.2.2.1
  have hc13 := hri.1.2.2.2.1
  have hdn0 := hdp n hn
  refine mw_go mu_g208 (k := 2) (f1 := (92, [(5, .inl (nI (a + n))), (0, .inr (.inr (some 100))), (1, .inr (.inr (some m))), (2, .inl x2), (3, .inl (nI b)), (4, .inl (nI i))], [.inl (nI b), .inl (nI (a + n))], Hsa)) (C := []) rfl trivial ?_
  refine mw_if (P := (nI (a + n)) < (nI b)) (a := 95) (b := 164) (fun _ => rfl) trivial (fun h1 => ?_) (fun h1 => ?_)
  · -- 95: (nI (a + n)) < (nI b)
    have nh1 : (a + n) < b := (nI_ltI (by omega) (by omega)).mp (show nI (a + n) < nI b from h1)
    have hn2 : n < N := by omega
    have hoc := (hcd n hn2).1.2.1
    refine mw_go mu_g208 (k := 2) (f1 := (99, [(5, .inl (nI (a + n))), (0, .inr (.inr (some 100))), (1, .inr (.inr (some m))), (2, .inl x2), (3, .inl (nI b)), (4, .inl (nI i))], [.inr (.inr (mu_r Hsa m 0))], Hsa)) (C := [mu_is Hsa (some m) 6]) rfl (show mu_is Hsa (some m) 6 from (show mu_is Hsa (some m) 6 from gi_im ua.1.1 ua.2)) ?_
    rw [(show mu_r Hsa m 0 = some (m + 1) from (gi_mr ua.1.1 ua.2 (j := 0) (by decide)).trans (congrArg some (by omega)))]
    refine mw_go mu_g208 (k := 2) (f1 := (102, [(5, .inl (nI (a + n))), (0, .inr (.inr (some 100))), (1, .inr (.inr (some m))), (2, .inl x2), (3, .inl (nI b)), (4, .inl (nI i))], [.inl (0 : Int32), .inl (nI (a + n)), .inr (.inr (some (m + 1)))], Hsa)) (C := []) rfl trivial ?_
    refine mw_cIe (fun _ => rfl) (show mu_is Hsa (some (m + 1)) 10 from ((ua.1.1.w (md_w0 ua.2)).1)) (ua.getr (d := (d + 4)) da (j := 0) (by decide) rfl (nI (a + n)) (c := 0) (by decide)) ?_
    rw [show (tget (Va.1 0) (nI (a + n)) 0) = (nI (oc Y (a + n))) from ((congrArg (fun z => tget z (nI (a + n)) 0) (show Va.1 0 = (U.1 0) from (zza.t 0 rfl))).trans (tget_nI (by omega))).trans (by rw [hj.1 0 (by decide)]; exact (hcd n hn2).1.1)]
    refine mw_go mu_g208 (k := 3) (f1 := (111, [(6, .inl (nI (oc Y (a + n)))), (5, .inl (nI (a + n))), (0, .inr (.inr (some 100))), (1, .inr (.inr (some m))), (2, .inl x2), (3, .inl (nI b)), (4, .inl (nI i))], [.inr (.inr (mu_r Hsa m 0))], Hsa)) (C := [mu_is Hsa (some m) 6]) rfl (show mu_is Hsa (some m) 6 from (show mu_is Hsa (some m) 6 from gi_im ua.1.1 ua.2)) ?_
    rw [(show mu_r Hsa m 0 = some (m + 1) from (gi_mr ua.1.1 ua.2 (j := 0) (by decide)).trans (congrArg some (by omega)))]
    refine mw_go mu_g208 (k := 2) (f1 := (114, [(6, .inl (nI (oc Y (a + n)))), (5, .inl (nI (a + n))), (0, .inr (.inr (some 100))), (1, .inr (.inr (some m))), (2, .inl x2), (3, .inl (nI b)), (4, .inl (nI i))], [.inl (1 : Int32), .inl (nI (a + n)), .inr (.inr (some (m + 1)))], Hsa)) (C := []) rfl trivial ?_
    refine mw_cIe (fun _ => rfl) (show mu_is Hsa (some (m + 1)) 10 from ((ua.1.1.w (md_w0 ua.2)).1)) (ua.getr (d := (d + 4)) da (j := 0) (by decide) rfl (nI (a + n)) (c := 1) (by decide)) ?_
    rw [show (tget (Va.1 0) (nI (a + n)) 1) = ((Y 0).2 (a + n) 1) from ((congrArg (fun z => tget z (nI (a + n)) 1) (show Va.1 0 = (U.1 0) from (zza.t 0 rfl))).trans (tget_nI (by omega))).trans (by rw [hj.1 0 (by decide)])]
    refine mw_go mu_g208 (k := 3) (f1 := (122, [(7, .inl ((Y 0).2 (a + n) 1)), (6, .inl (nI (oc Y (a + n)))), (5, .inl (nI (a + n))), (0, .inr (.inr (some 100))), (1, .inr (.inr (some m))), (2, .inl x2), (3, .inl (nI b)), (4, .inl (nI i))], [.inl (3 : Int32), .inl (nI (oc Y (a + n)))], Hsa)) (C := []) rfl trivial ?_
    refine mw_if (P := (3 : Int32) < (nI (oc Y (a + n)))) (a := 138) (b := 125) (fun _ => rfl) trivial (fun h4 => ?_) (fun h4 => ?_)
    · -- 138: (3 : Int32) < (nI (oc Y (a + n)))
      have nh4 : 3 < (oc Y (a + n)) := (nI_ltI (by omega) (by omega)).mp (show nI 3 < nI (oc Y (a + n)) from h4)
      refine mw_go mu_g208 (k := 4) (f1 := (145, [(7, .inl ((Y 0).2 (a + n) 1)), (6, .inl (nI (oc Y (a + n)))), (5, .inl (nI (a + n))), (0, .inr (.inr (some 100))), (1, .inr (.inr (some m))), (2, .inl x2), (3, .inl (nI b)), (4, .inl (nI i))], [.inl ((Y 0).2 (a + n) 1), .inl (nI (oc Y (a + n))), .inl (nI (oc Y (a + n))), .inr (.inr (some 100))], Hsa)) (C := []) rfl trivial ?_
      refine mw_cIe (fun _ => rfl) trivial (pv_parts2 (d := (d + 4)) (o := oc Y (a + n)) (a := oa Y (a + n)) (arg := (Y 0).2 (a + n) 1) (hcd n hn2).1.2.1 (fun y => ((hcd n hn2).2.2.1 y).1) (fun y => ((hcd n hn2).2.2.1 y).2)) ?_
      have hpl := (hcd n hn2).1.2.2
      refine mw_go mu_g208 (k := 2) (f1 := (152, [(7, .inl ((Y 0).2 (a + n) 1)), (6, .inl (nI (oc Y (a + n)))), (5, .inl (nI (a + n))), (0, .inr (.inr (some 100))), (1, .inr (.inr (some m))), (2, .inl x2), (3, .inl (nI b)), (4, .inl (nI i))], [.inl (mu_i Hsa 100 14), .inl (nI (plen (oc Y (a + n)) (oa Y (a + n)))), .inl (nI (oc Y (a + n))), .inr (.inr (some 100))], Hsa)) (C := [mu_is Hsa (some 100) 5]) rfl (show mu_is Hsa (some 100) 5 from (ua.1.1.is rfl)) ?_
      rw [(show mu_i Hsa 100 14 = (nI (tpz Y a n)) from (ud_i (U := Va) (m := m) (P := 100) (j := 14) da rfl).trans hri.1.2.1)]
      refine mw_cIe (fun _ => rfl) trivial (mu_min_ok (d := (d + 4)) (nI (plen (oc Y (a + n)) (oa Y (a + n)))) (nI (tpz Y a n))) ?_
      rw [show (mu_min (nI (plen (oc Y (a + n)) (oa Y (a + n)))) (nI (tpz Y a n))) = nI (min (plen (oc Y (a + n)) (oa Y (a + n))) (tpz Y a n)) from mu_min_n (a := plen (oc Y (a + n)) (oa Y (a + n))) (b := tpz Y a n) (by omega) (by omega)]
      rw [show min (plen (oc Y (a + n)) (oa Y (a + n))) (tpz Y a n) = plen (oc Y (a + n)) (oa Y (a + n)) from Nat.min_eq_left hpl]
      have hdn := hdp n (by omega)
      have hsn := snz_le (Y := Y) (a := a) (n := n + 1) (N := N) (by omega)
      have hsn2 := sfz_le (Y := Y) (a := a) (n := n + 1) (N := N) (by omega)
      have h15n : (Va.2.2.1 100 15).1 = (U.2.2.1 100 15).1 := (zza.n 100 15 rfl)
      refine mw_cV (fun _ => rfl) (show mu_is Hsa (some 100) 5 from (ua.1.1.is rfl)) (mc_applyL (d := d) (C := C) ua da hri (hcd n hn2) (by omega) ((zza.i 100 7 rfl).trans hO) (by omega) hA ((zza.i 100 5 rfl).trans hcp) hcO (by omega) (by omega) (by omega)) (fun Q7 q7 => ?_)
      obtain ⟨u7, r7, z7, it2, hri2⟩ := q7
      have ht7 : ur m C H Q7 := hta.trans r7
      obtain ⟨V7, d7⟩ : ∃ V, ud m Q7 = V := ⟨_, rfl⟩
      rw [d7] at z7 hri2
      refine mw_go mu_g208 (k := 1) (f1 := (161, [(5, .inl ((nI (a + n)) + 1)), (7, .inl ((Y 0).2 (a + n) 1)), (6, .inl (nI (oc Y (a + n)))), (0, .inr (.inr (some 100))), (1, .inr (.inr (some m))), (2, .inl x2), (3, .inl (nI b)), (4, .inl (nI i))], [], Q7)) (C := []) rfl trivial ?_
      rw [(show ((nI (a + n)) + 1) = (nI ((a + n) + 1)) from (nI_add (a + n) 1))]
      refine mw_go mu_g208 (k := 1) (f1 := (89, [(5, .inl (nI ((a + n) + 1))), (7, .inl ((Y 0).2 (a + n) 1)), (6, .inl (nI (oc Y (a + n)))), (0, .inr (.inr (some 100))), (1, .inr (.inr (some m))), (2, .inl x2), (3, .inl (nI b)), (4, .inl (nI i))], [], Q7)) (C := []) rfl trivial ?_
      show mu_W _ _ (89, [(5, .inl (nI (a + (n + 1)))), (7, .inl ((Y 0).2 (a + n) 1)), (6, .inl (nI (oc Y (a + n)))), (0, .inr (.inr (some 100))), (1, .inr (.inr (some m))), (2, .inl x2), (3, .inl (nI b)), (4, .inl (nI i))], [], Q7) _
      exact mw_sub (by simp) (iha (n + 1, Q7) ⟨u7, ht7, (show uq F208a U (ud m Q7) from by rw [d7]; exact (zza.tr z7 rfl)), (show (n + 1) ≤ N from (by omega)), (show ∃ it, ri U (ud m Q7) Y O cp A W l a (n + 1) lv it from by rw [d7]; exact ⟨_, hri2⟩)⟩ (by show N - (n + 1) < N - n; omega))
    · -- 125: not (3 : Int32) < (nI (oc Y (a + n)))
      have nh4 : ¬ 3 < (oc Y (a + n)) := fun z => h4 (show nI 3 < nI (oc Y (a + n)) from (nI_ltI (by omega) (by omega)).mpr z)
      refine mw_go mu_g208 (k := 4) (f1 := (132, [(7, .inl ((Y 0).2 (a + n) 1)), (6, .inl (nI (oc Y (a + n)))), (5, .inl (nI (a + n))), (0, .inr (.inr (some 100))), (1, .inr (.inr (some m))), (2, .inl x2), (3, .inl (nI b)), (4, .inl (nI i))], [.inl (nI i), .inl ((Y 0).2 (a + n) 1), .inl (nI (oc Y (a + n))), .inr (.inr (some 100))], Hsa)) (C := []) rfl trivial ?_
      have hdn := hdp (n + 1) (by omega)
      have htn : tpz Y a (n + 1) = tpz Y a n + 1 := by show tpz Y a n - plen (oc Y (a + n)) (oa Y (a + n)) + 1 = _; rw [plen_0 (show oc Y (a + n) ≤ 3 by omega)]; rfl
      have h13n : (Va.2.2.1 100 13).1 = (U.2.2.1 100 13).1 := (zza.n 100 13 rfl)
      have hj2 : jv Y Va.1 := by rw [show Va.1 = U.1 from funext fun q => zza.t q rfl]; exact hj
      refine mw_cV (fun _ => rfl) (show mu_is Hsa (some 100) 5 from (ua.1.1.is rfl)) (mc_pushL (d := (d + 2)) (C := C) (O := O) (B := O - cp) (q := a + n) (lv := lv) ua da hri.1 ((zza.i 100 7 rfl).trans hO) ((zza.r 100 0 rfl).trans hsp) ((zza.r 99 0 rfl).trans hmo) (by omega) hA (by omega) hj2 hJ hi (by omega) (by rw [show (Va.2.2.1 100 3).1 = (U.2.2.1 100 3).1 from (zza.n 100 3 rfl)]; exact h3l) (lfz_keep (hlf n hn2 (by omega)) hri.1.1.2.2.2.1 (zza.t 15 rfl) (zza.t 22 rfl) (zza.a 100 3 rfl) (fun s k hs hk => (hri.2.2.2.2.2 s k hs hk).1))) (fun Q8 q8 => ?_)
      obtain ⟨u8, r8, z8, slt, hps⟩ := q8
      have ht8 : ur m C H Q8 := hta.trans r8
      obtain ⟨V8, d8⟩ : ∃ V, ud m Q8 = V := ⟨_, rfl⟩
      rw [d8] at z8 hps
      have hri2 := ri_push hri (by omega) hps z8 (by omega) hcO (by omega) (by have := sfz_le (Y := Y) (a := a) (n := n) (N := N) (by omega); omega)
      refine mw_go mu_g208 (k := 2) (f1 := (161, [(5, .inl ((nI (a + n)) + 1)), (7, .inl ((Y 0).2 (a + n) 1)), (6, .inl (nI (oc Y (a + n)))), (0, .inr (.inr (some 100))), (1, .inr (.inr (some m))), (2, .inl x2), (3, .inl (nI b)), (4, .inl (nI i))], [], Q8)) (C := []) rfl trivial ?_
      rw [(show ((nI (a + n)) + 1) = (nI ((a + n) + 1)) from (nI_add (a + n) 1))]
      refine mw_go mu_g208 (k := 1) (f1 := (89, [(5, .inl (nI ((a + n) + 1))), (7, .inl ((Y 0).2 (a + n) 1)), (6, .inl (nI (oc Y (a + n)))), (0, .inr (.inr (some 100))), (1, .inr (.inr (some m))), (2, .inl x2), (3, .inl (nI b)), (4, .inl (nI i))], [], Q8)) (C := []) rfl trivial ?_
      show mu_W _ _ (89, [(5, .inl (nI (a + (n + 1)))), (7, .inl ((Y 0).2 (a + n) 1)), (6, .inl (nI (oc Y (a + n)))), (0, .inr (.inr (some 100))), (1, .inr (.inr (some m))), (2, .inl x2), (3, .inl (nI b)), (4, .inl (nI i))], [], Q8) _
      exact mw_sub (by simp) (iha (n + 1, Q8) ⟨u8, ht8, (show uq F208a U (ud m Q8) from by rw [d8]; exact (zza.tr z8 rfl)), (show (n + 1) ≤ N from (by omega)), (show ∃ it, ri U (ud m Q8) Y O cp A W l a (n + 1) lv it from by rw [d8]; exact ⟨_, hri2⟩)⟩ (by show N - (n + 1) < N - n; omega))
  · -- 164: not (nI (a + n)) < (nI b)
    have nh1 : ¬ (a + n) < b := fun z => h1 (show nI (a + n) < nI b from (nI_ltI (by omega) (by omega)).mpr z)
    exact mw_sub (by simp) (hΦ Hsa Va it (by omega) ua hta da zza (by rw [show N = n by omega]; exact hri))
end RunLoop
