/-! WHAT A NAME REACHES, in the upper layer -/
/-- the Model's tables as they were judged, but for what Space writes into them -/
def jv (W s : Ts) : Prop := (∀ j, j ≤ 12 → s j = W j) ∧ ((s 13).1 = (W 13).1 ∧ ∀ i c, c < 3 → (s 13).2 i c = (W 13).2 i c) ∧ ((s 15).1 = (W 15).1 ∧ ∀ i c, c ≠ 2 → (s 15).2 i c = (W 15).2 i c) ∧ ((s 16).1 = (W 16).1 ∧ ∀ i c, c < 3 → (s 16).2 i c = (W 16).2 i c) ∧ (s 17).1 = (W 17).1 ∧ ∀ i c, c < 3 → (s 17).2 i c = (W 17).2 i c
/-- the INSTANCE that a NAME has come to after so many steps -/
def rci (W : Ts) (a i : Nat) : Nat → Nat
  | 0 => i
  | y + 1 => ((W 12).2 (ia W (rci W a i y) + ((W 10).2 (a + y) 0).toNatClampNeg) 0).toNatClampNeg
def rq2 (W : Ts) (r i : Nat) : Nat := rci W ((W 9).2 r 0).toNatClampNeg i (((W 9).2 r 1).toNatClampNeg - 1)
/-- what a NAME reaches in an INSTANCE -/
def rch (W : Ts) (r i : Nat) : Int32 :=
  if (W 9).2 r 2 = 5 then (W 9).2 r 3
  else if (W 9).2 r 2 = 3 then (W 12).2 (ia W (rq2 W r i) + ((W 9).2 r 3).toNatClampNeg) 0
  else if (W 9).2 r 2 = 1 then (W 11).2 (rq2 W r i) 2 + (W 9).2 r 3
  else (W 11).2 (rq2 W r i) 2 + (W 9).2 r 3 + (W 11).2 (rq2 W r i) 3
section UReach
variable {H : mu_H} {d m i r p a b j : Nat} {W X : Ts}
theorem um.getk (h : um m H) (e : ak m H = X) (hj : j < 28) {r : Nat} (hr : r = ra m j) (x : Int32) {c : Nat} (hc : c < 2 ^ 31) : mu_TI (mu_D (d + 1)) 46 [.inr (.inr (some r)), .inl x, .inl (nI c)] H (fun y H1 => y = tget (X j) x c ∧ H1 = H) := by
  rw [← e]
  exact h.getr (U := ud m H) rfl hj hr x hc
theorem um_reach (h : um m H) (hj : jv W (ak m H)) (hW : JW W) (hi : i < (W 11).1) (hr1 : sp W (im W i) 6 ≤ r) (hr2 : r < sp W (im W i + 1) 6) : mu_TI (mu_D (d + 2)) 125 [.inr (.inr (some m)), .inl (nI r), .inl (nI i)] H (fun x H1 => H = H1 ∧ x = rch W r i ∧ (((W 9).2 r 2 = 5) ∨ ((W 9).2 r 2 = 3 ∧ ∃ w v, w < (W 15).1 ∧ x = nI w ∧ (W 15).2 w 0 = nI v) ∨ (¬ (W 9).2 r 2 = 5 ∧ ¬ (W 9).2 r 2 = 3 ∧ ∃ e, e < (W 13).1 ∧ x = nI e))) := by
  have b := hW.2.2.2.2.2.2
  have b9 := b 9 (by decide)
  have b10 := b 10 (by decide)
  have b11 := b 11 (by decide)
  obtain ⟨-, -, -, hkM, b1⟩ := hW.inst hi
  obtain ⟨lr1, lr2, lr3⟩ := hW.le hkM (c := 6) (j := 9) (by decide) (by decide) rfl
  obtain ⟨a, l, Q, ka1, ka2, kal, hQ, hwk, hkn⟩ := hW.2.2.2.2.1 i hi r hr1 hr2
  have hfw0 : fw W (W 10) (im W i) (a + 0) (l - 1 - 0) Q := wk_fw hwk 0 Q rfl
  refine mu_meth (M := mu_m125) rfl rfl ?_
  refine mw_ht (mu_fn_of (show [0, 1, 2].Nodup by decide)) ?_
  refine mw_go mu_g125 (k := 2) (f1 := (4, [(0, .inr (.inr (some m))), (1, .inl (nI r)), (2, .inl (nI i))], [.inr (.inr (mu_r H m 9))], H)) (C := [mu_is H (some m) 6]) rfl (show mu_is H (some m) 6 from (show mu_is H (some m) 6 from gi_im h.1.1 h.2)) ?_
  rw [(show mu_r H m 9 = some (m + 19) from (gi_mr h.1.1 h.2 (j := 9) (by decide)).trans (congrArg some (by omega)))]
  refine mw_go mu_g125 (k := 2) (f1 := (6, [(0, .inr (.inr (some m))), (1, .inl (nI r)), (2, .inl (nI i))], [.inl (2 : Int32), .inl (nI r), .inr (.inr (some (m + 19)))], H)) (C := []) rfl trivial ?_
  refine mw_cIe (fun _ => rfl) (show mu_is H (some (m + 19)) 10 from (h.1.1.w (md_w9 h.2)).1) (um.getk (d := d) h rfl (j := 9) (by decide) rfl (nI r) (c := 2) (by decide)) ?_
  rw [show (tget ((ak m H) 9) (nI r) 2) = ((W 9).2 r 2) from (tget_nI (by omega)).trans (by rw [hj.1 9 (by decide)])]
  refine mw_go mu_g125 (k := 3) (f1 := (14, [(3, .inl ((W 9).2 r 2)), (0, .inr (.inr (some m))), (1, .inl (nI r)), (2, .inl (nI i))], [.inr (.inr (mu_r H m 9))], H)) (C := [mu_is H (some m) 6]) rfl (show mu_is H (some m) 6 from (show mu_is H (some m) 6 from gi_im h.1.1 h.2)) ?_
  rw [(show mu_r H m 9 = some (m + 19) from (gi_mr h.1.1 h.2 (j := 9) (by decide)).trans (congrArg some (by omega)))]
  refine mw_go mu_g125 (k := 2) (f1 := (16, [(3, .inl ((W 9).2 r 2)), (0, .inr (.inr (some m))), (1, .inl (nI r)), (2, .inl (nI i))], [.inl (3 : Int32), .inl (nI r), .inr (.inr (some (m + 19)))], H)) (C := []) rfl trivial ?_
  refine mw_cIe (fun _ => rfl) (show mu_is H (some (m + 19)) 10 from (h.1.1.w (md_w9 h.2)).1) (um.getk (d := d) h rfl (j := 9) (by decide) rfl (nI r) (c := 3) (by decide)) ?_
  rw [show (tget ((ak m H) 9) (nI r) 3) = ((W 9).2 r 3) from (tget_nI (by omega)).trans (by rw [hj.1 9 (by decide)])]
  refine mw_go mu_g125 (k := 3) (f1 := (23, [(4, .inl ((W 9).2 r 3)), (3, .inl ((W 9).2 r 2)), (0, .inr (.inr (some m))), (1, .inl (nI r)), (2, .inl (nI i))], [.inl (5 : Int32), .inl ((W 9).2 r 2)], H)) (C := []) rfl trivial ?_
  refine mw_if (P := ((W 9).2 r 2) = (5 : Int32)) (a := 26) (b := 29) (fun _ => rfl) trivial (fun h3 => ?_) (fun h3 => ?_)
  · -- 26: ((W 9).2 r 2) = (5 : Int32)
    refine mw_go mu_g125 (k := 1) (f1 := (28, [(4, .inl ((W 9).2 r 3)), (3, .inl ((W 9).2 r 2)), (0, .inr (.inr (some m))), (1, .inl (nI r)), (2, .inl (nI i))], [.inl ((W 9).2 r 3)], H)) (C := []) rfl trivial ?_
    exact mw_of (fun _ => mu_ret rfl trivial ⟨_, _, rfl, rfl, (if_pos h3).symm, Or.inl h3⟩)
  · -- 29: not ((W 9).2 r 2) = (5 : Int32)
    refine mw_go mu_g125 (k := 4) (f1 := (36, [(5, .inl (nI i)), (4, .inl ((W 9).2 r 3)), (3, .inl ((W 9).2 r 2)), (0, .inr (.inr (some m))), (1, .inl (nI r)), (2, .inl (nI i))], [.inr (.inr (mu_r H m 9))], H)) (C := [mu_is H (some m) 6]) rfl (show mu_is H (some m) 6 from (show mu_is H (some m) 6 from gi_im h.1.1 h.2)) ?_
    rw [(show mu_r H m 9 = some (m + 19) from (gi_mr h.1.1 h.2 (j := 9) (by decide)).trans (congrArg some (by omega)))]
    refine mw_go mu_g125 (k := 2) (f1 := (38, [(5, .inl (nI i)), (4, .inl ((W 9).2 r 3)), (3, .inl ((W 9).2 r 2)), (0, .inr (.inr (some m))), (1, .inl (nI r)), (2, .inl (nI i))], [.inl (0 : Int32), .inl (nI r), .inr (.inr (some (m + 19)))], H)) (C := []) rfl trivial ?_
    refine mw_cIe (fun _ => rfl) (show mu_is H (some (m + 19)) 10 from (h.1.1.w (md_w9 h.2)).1) (um.getk (d := d) h rfl (j := 9) (by decide) rfl (nI r) (c := 0) (by decide)) ?_
    rw [show (tget ((ak m H) 9) (nI r) 0) = (nI a) from ((tget_nI (by omega)).trans (by rw [hj.1 9 (by decide)])).trans ka1]
    refine mw_go mu_g125 (k := 3) (f1 := (46, [(7, .inl (0 : Int32)), (6, .inl (nI a)), (5, .inl (nI i)), (4, .inl ((W 9).2 r 3)), (3, .inl ((W 9).2 r 2)), (0, .inr (.inr (some m))), (1, .inl (nI r)), (2, .inl (nI i))], [], H)) (C := []) rfl trivial ?_
    show mu_W _ _ (46, [(7, .inl (nI 0)), (6, .inl (nI a)), (5, .inl (nI i)), (4, .inl ((W 9).2 r 3)), (3, .inl ((W 9).2 r 2)), (0, .inr (.inr (some m))), (1, .inl (nI r)), (2, .inl (nI i))], [], H) _
    refine mw_sub (L' := [(5, .inl (nI i)), (7, .inl (nI 0)), (0, .inr (.inr (some m))), (1, .inl (nI r)), (2, .inl (nI i)), (3, .inl ((W 9).2 r 2)), (4, .inl ((W 9).2 r 3)), (6, .inl (nI a))]) (by simp) ?_
    refine mw_down (α := Nat × Nat) (fun zs => (46, [(5, .inl (nI zs.1)), (7, .inl (nI zs.2)), (0, .inr (.inr (some m))), (1, .inl (nI r)), (2, .inl (nI i)), (3, .inl ((W 9).2 r 2)), (4, .inl ((W 9).2 r 3)), (6, .inl (nI a))], [], H)) (fun zs => l - 1 - zs.2) (fun zs => (zs.1 < (W 11).1) ∧ (zs.2 ≤ l - 1) ∧ (fw W (W 10) (im W zs.1) (a + zs.2) (l - 1 - zs.2) Q) ∧ (zs.1 = rci W a i zs.2)) (fun zs hs ih => ?_) (i, 0) ⟨(show i < (W 11).1 from hi), (show 0 ≤ l - 1 from by omega), (show fw W (W 10) (im W i) (a + 0) (l - 1 - 0) Q from hfw0), rfl⟩
    obtain ⟨ii, y⟩ := zs
    obtain ⟨hi1, hyl, hfw, hii⟩ := hs
    have hi1 : ii < (W 11).1 := hi1
    have hyl : y ≤ l - 1 := hyl
    have hii : ii = rci W a i y := hii
    have hfw : fw W (W 10) (im W ii) (a + y) (l - 1 - y) Q := hfw
    show mu_W _ _ (46, [(5, .inl (nI ii)), (7, .inl (nI y)), (0, .inr (.inr (some m))), (1, .inl (nI r)), (2, .inl (nI i)), (3, .inl ((W 9).2 r 2)), (4, .inl ((W 9).2 r 3)), (6, .inl (nI a))], [], H) _
    refine mw_go mu_g125 (k := 3) (f1 := (52, [(5, .inl (nI ii)), (7, .inl (nI y)), (0, .inr (.inr (some m))), (1, .inl (nI r)), (2, .inl (nI i)), (3, .inl ((W 9).2 r 2)), (4, .inl ((W 9).2 r 3)), (6, .inl (nI a))], [.inr (.inr (mu_r H m 9)), .inl (nI y)], H)) (C := [mu_is H (some m) 6]) rfl (show mu_is H (some m) 6 from (show mu_is H (some m) 6 from gi_im h.1.1 h.2)) ?_
    rw [(show mu_r H m 9 = some (m + 19) from (gi_mr h.1.1 h.2 (j := 9) (by decide)).trans (congrArg some (by omega)))]
    refine mw_go mu_g125 (k := 2) (f1 := (54, [(5, .inl (nI ii)), (7, .inl (nI y)), (0, .inr (.inr (some m))), (1, .inl (nI r)), (2, .inl (nI i)), (3, .inl ((W 9).2 r 2)), (4, .inl ((W 9).2 r 3)), (6, .inl (nI a))], [.inl (1 : Int32), .inl (nI r), .inr (.inr (some (m + 19))), .inl (nI y)], H)) (C := []) rfl trivial ?_
    refine mw_cIe (fun _ => rfl) (show mu_is H (some (m + 19)) 10 from (h.1.1.w (md_w9 h.2)).1) (um.getk (d := d) h rfl (j := 9) (by decide) rfl (nI r) (c := 1) (by decide)) ?_
    rw [show (tget ((ak m H) 9) (nI r) 1) = (nI l) from ((tget_nI (by omega)).trans (by rw [hj.1 9 (by decide)])).trans ka2]
    refine mw_go mu_g125 (k := 2) (f1 := (59, [(5, .inl (nI ii)), (7, .inl (nI y)), (0, .inr (.inr (some m))), (1, .inl (nI r)), (2, .inl (nI i)), (3, .inl ((W 9).2 r 2)), (4, .inl ((W 9).2 r 3)), (6, .inl (nI a))], [.inl ((nI l) - (1 : Int32)), .inl (nI y)], H)) (C := []) rfl trivial ?_
    refine mw_if (P := (nI y) < ((nI l) - (1 : Int32))) (a := 62) (b := 102) (fun _ => rfl) trivial (fun h6 => ?_) (fun h6 => ?_)
    · -- 62: (nI y) < ((nI l) - (1 : Int32))
      obtain ⟨ji1, ji2, ji3, ji4, ji5⟩ := hW.inst hi1
      obtain ⟨lv1, lv2, lv3⟩ := hW.le ji4 (c := 2) (j := 3) (by decide) (by decide) rfl
      have hyb : y < l - 1 := lt_last (by omega) (by omega) h6
      obtain ⟨vv, q2, hq1, hv, hty, hst, hq4, hfw2⟩ : ∃ v q2, im W ii < (W 1).1 ∧ (sp W (im W ii) 2 ≤ v ∧ v < sp W (im W ii + 1) 2) ∧ (W 3).2 v 1 = 3 ∧ (W 10).2 (a + y) 0 = nI (v - sp W (im W ii) 2) ∧ (W 3).2 v 4 = nI q2 ∧ fw W (W 10) q2 (a + y + 1) (l - 1 - y - 1) Q := by
        have z := hfw
        rw [show l - 1 - y = (l - 1 - y - 1) + 1 by omega] at z
        exact z
      have hq2 := fw_lt hQ hfw2
      obtain ⟨i2, hi2, ei2, em2⟩ := (hW.2.1 ii hi1 vv hv.1 hv.2).1 hty
      refine mw_go mu_g125 (k := 2) (f1 := (66, [(5, .inl (nI ii)), (7, .inl (nI y)), (0, .inr (.inr (some m))), (1, .inl (nI r)), (2, .inl (nI i)), (3, .inl ((W 9).2 r 2)), (4, .inl ((W 9).2 r 3)), (6, .inl (nI a))], [.inr (.inr (mu_r H m 12))], H)) (C := [mu_is H (some m) 6]) rfl (show mu_is H (some m) 6 from (show mu_is H (some m) 6 from gi_im h.1.1 h.2)) ?_
      rw [(show mu_r H m 12 = some (m + 25) from (gi_mr h.1.1 h.2 (j := 12) (by decide)).trans (congrArg some (by omega)))]
      refine mw_go mu_g125 (k := 2) (f1 := (70, [(5, .inl (nI ii)), (7, .inl (nI y)), (0, .inr (.inr (some m))), (1, .inl (nI r)), (2, .inl (nI i)), (3, .inl ((W 9).2 r 2)), (4, .inl ((W 9).2 r 3)), (6, .inl (nI a))], [.inr (.inr (mu_r H m 11)), .inr (.inr (some (m + 25)))], H)) (C := [mu_is H (some m) 6]) rfl (show mu_is H (some m) 6 from (show mu_is H (some m) 6 from gi_im h.1.1 h.2)) ?_
      rw [(show mu_r H m 11 = some (m + 23) from (gi_mr h.1.1 h.2 (j := 11) (by decide)).trans (congrArg some (by omega)))]
      refine mw_go mu_g125 (k := 2) (f1 := (73, [(5, .inl (nI ii)), (7, .inl (nI y)), (0, .inr (.inr (some m))), (1, .inl (nI r)), (2, .inl (nI i)), (3, .inl ((W 9).2 r 2)), (4, .inl ((W 9).2 r 3)), (6, .inl (nI a))], [.inl (1 : Int32), .inl (nI ii), .inr (.inr (some (m + 23))), .inr (.inr (some (m + 25)))], H)) (C := []) rfl trivial ?_
      refine mw_cIe (fun _ => rfl) (show mu_is H (some (m + 23)) 10 from (h.1.1.w (md_w11 h.2)).1) (um.getk (d := d) h rfl (j := 11) (by decide) rfl (nI ii) (c := 1) (by decide)) ?_
      rw [show (tget ((ak m H) 11) (nI ii) 1) = (nI (ia W ii)) from ((tget_nI (by omega)).trans (by rw [hj.1 11 (by decide)])).trans (hW.1 ii hi1).1.2.1]
      refine mw_go mu_g125 (k := 2) (f1 := (80, [(5, .inl (nI ii)), (7, .inl (nI y)), (0, .inr (.inr (some m))), (1, .inl (nI r)), (2, .inl (nI i)), (3, .inl ((W 9).2 r 2)), (4, .inl ((W 9).2 r 3)), (6, .inl (nI a))], [.inr (.inr (mu_r H m 10)), .inl (nI (ia W ii)), .inr (.inr (some (m + 25)))], H)) (C := [mu_is H (some m) 6]) rfl (show mu_is H (some m) 6 from (show mu_is H (some m) 6 from gi_im h.1.1 h.2)) ?_
      rw [(show mu_r H m 10 = some (m + 21) from (gi_mr h.1.1 h.2 (j := 10) (by decide)).trans (congrArg some (by omega)))]
      refine mw_go mu_g125 (k := 4) (f1 := (86, [(5, .inl (nI ii)), (7, .inl (nI y)), (0, .inr (.inr (some m))), (1, .inl (nI r)), (2, .inl (nI i)), (3, .inl ((W 9).2 r 2)), (4, .inl ((W 9).2 r 3)), (6, .inl (nI a))], [.inl (0 : Int32), .inl ((nI a) + (nI y)), .inr (.inr (some (m + 21))), .inl (nI (ia W ii)), .inr (.inr (some (m + 25)))], H)) (C := []) rfl trivial ?_
      refine mw_cIe (fun _ => rfl) (show mu_is H (some (m + 21)) 10 from (h.1.1.w (md_w10 h.2)).1) (um.getk (d := d) h rfl (j := 10) (by decide) rfl ((nI a) + (nI y)) (c := 0) (by decide)) ?_
      rw [show (tget ((ak m H) 10) ((nI a) + (nI y)) 0) = (nI (vv - sp W (im W ii) 2)) from (by rw [nI_add]; exact ((tget_nI (by omega)).trans (by rw [hj.1 10 (by decide)])).trans hst)]
      refine mw_go mu_g125 (k := 2) (f1 := (91, [(5, .inl (nI ii)), (7, .inl (nI y)), (0, .inr (.inr (some m))), (1, .inl (nI r)), (2, .inl (nI i)), (3, .inl ((W 9).2 r 2)), (4, .inl ((W 9).2 r 3)), (6, .inl (nI a))], [.inl (0 : Int32), .inl ((nI (ia W ii)) + (nI (vv - sp W (im W ii) 2))), .inr (.inr (some (m + 25)))], H)) (C := []) rfl trivial ?_
      refine mw_cIe (fun _ => rfl) (show mu_is H (some (m + 25)) 10 from (h.1.1.w (md_w12 h.2)).1) (um.getk (d := d) h rfl (j := 12) (by decide) rfl ((nI (ia W ii)) + (nI (vv - sp W (im W ii) 2))) (c := 0) (by decide)) ?_
      rw [show (tget ((ak m H) 12) ((nI (ia W ii)) + (nI (vv - sp W (im W ii) 2))) 0) = (nI i2) from (by rw [nI_add]; exact ((tget_nI (by omega)).trans (by rw [hj.1 12 (by decide)])).trans ei2)]
      refine mw_go mu_g125 (k := 3) (f1 := (46, [(7, .inl ((nI y) + 1)), (5, .inl (nI i2)), (0, .inr (.inr (some m))), (1, .inl (nI r)), (2, .inl (nI i)), (3, .inl ((W 9).2 r 2)), (4, .inl ((W 9).2 r 3)), (6, .inl (nI a))], [], H)) (C := []) rfl trivial ?_
      rw [nI_1 y]
      exact mw_sub (by simp) (ih (i2, y + 1) ⟨(show i2 < (W 11).1 from hi2), (show (y + 1) ≤ l - 1 from by omega), (show fw W (W 10) (im W i2) (a + (y + 1)) (l - 1 - (y + 1)) Q from (by rw [em2, hq4, nI_clamp (by omega), show a + (y + 1) = a + y + 1 by omega, show l - 1 - (y + 1) = l - 1 - y - 1 by omega]; exact hfw2)), (show i2 = ((W 12).2 (ia W (rci W a i y) + ((W 10).2 (a + y) 0).toNatClampNeg) 0).toNatClampNeg by rw [← hii, hst, nI_clamp (by omega), ei2, nI_clamp (by omega)])⟩ (by show l - 1 - (y + 1) < l - 1 - y; omega))
    · -- 102: not (nI y) < ((nI l) - (1 : Int32))
      obtain ⟨ji1, ji2, ji3, ji4, ji5⟩ := hW.inst hi1
      obtain ⟨lv1, lv2, lv3⟩ := hW.le ji4 (c := 2) (j := 3) (by decide) (by decide) rfl
      have hye : y = l - 1 := by have := ge_last (by omega) h6; omega
      have hQe : Q = im W ii := by rw [hye, Nat.sub_self] at hfw; exact hfw
      rw [hQe] at hkn
      have hq0 : rq2 W r i = ii := by unfold rq2; rw [ka1, ka2, nI_clamp (by omega), nI_clamp (by omega), ← hye]; exact hii.symm
      refine mw_go mu_g125 (k := 2) (f1 := (104, [(5, .inl (nI ii)), (7, .inl (nI y)), (0, .inr (.inr (some m))), (1, .inl (nI r)), (2, .inl (nI i)), (3, .inl ((W 9).2 r 2)), (4, .inl ((W 9).2 r 3)), (6, .inl (nI a))], [.inl (3 : Int32), .inl ((W 9).2 r 2)], H)) (C := []) rfl trivial ?_
      refine mw_if (P := ((W 9).2 r 2) = (3 : Int32)) (a := 107) (b := 129) (fun _ => rfl) trivial (fun h10 => ?_) (fun h10 => ?_)
      · -- 107: ((W 9).2 r 2) = (3 : Int32)
        obtain ⟨tv, et, htv, hnt⟩ := kn3 hkn h10
        obtain ⟨ww, hww, ew, ew2⟩ := (hW.2.1 ii hi1 tv htv.1 htv.2).2 hnt
        refine mw_go mu_g125 (k := 2) (f1 := (111, [(5, .inl (nI ii)), (7, .inl (nI y)), (0, .inr (.inr (some m))), (1, .inl (nI r)), (2, .inl (nI i)), (3, .inl ((W 9).2 r 2)), (4, .inl ((W 9).2 r 3)), (6, .inl (nI a))], [.inr (.inr (mu_r H m 12))], H)) (C := [mu_is H (some m) 6]) rfl (show mu_is H (some m) 6 from (show mu_is H (some m) 6 from gi_im h.1.1 h.2)) ?_
        rw [(show mu_r H m 12 = some (m + 25) from (gi_mr h.1.1 h.2 (j := 12) (by decide)).trans (congrArg some (by omega)))]
        refine mw_go mu_g125 (k := 2) (f1 := (115, [(5, .inl (nI ii)), (7, .inl (nI y)), (0, .inr (.inr (some m))), (1, .inl (nI r)), (2, .inl (nI i)), (3, .inl ((W 9).2 r 2)), (4, .inl ((W 9).2 r 3)), (6, .inl (nI a))], [.inr (.inr (mu_r H m 11)), .inr (.inr (some (m + 25)))], H)) (C := [mu_is H (some m) 6]) rfl (show mu_is H (some m) 6 from (show mu_is H (some m) 6 from gi_im h.1.1 h.2)) ?_
        rw [(show mu_r H m 11 = some (m + 23) from (gi_mr h.1.1 h.2 (j := 11) (by decide)).trans (congrArg some (by omega)))]
        refine mw_go mu_g125 (k := 2) (f1 := (118, [(5, .inl (nI ii)), (7, .inl (nI y)), (0, .inr (.inr (some m))), (1, .inl (nI r)), (2, .inl (nI i)), (3, .inl ((W 9).2 r 2)), (4, .inl ((W 9).2 r 3)), (6, .inl (nI a))], [.inl (1 : Int32), .inl (nI ii), .inr (.inr (some (m + 23))), .inr (.inr (some (m + 25)))], H)) (C := []) rfl trivial ?_
        refine mw_cIe (fun _ => rfl) (show mu_is H (some (m + 23)) 10 from (h.1.1.w (md_w11 h.2)).1) (um.getk (d := d) h rfl (j := 11) (by decide) rfl (nI ii) (c := 1) (by decide)) ?_
        rw [show (tget ((ak m H) 11) (nI ii) 1) = (nI (ia W ii)) from ((tget_nI (by omega)).trans (by rw [hj.1 11 (by decide)])).trans (hW.1 ii hi1).1.2.1]
        refine mw_go mu_g125 (k := 3) (f1 := (125, [(5, .inl (nI ii)), (7, .inl (nI y)), (0, .inr (.inr (some m))), (1, .inl (nI r)), (2, .inl (nI i)), (3, .inl ((W 9).2 r 2)), (4, .inl ((W 9).2 r 3)), (6, .inl (nI a))], [.inl (0 : Int32), .inl ((nI (ia W ii)) + ((W 9).2 r 3)), .inr (.inr (some (m + 25)))], H)) (C := []) rfl trivial ?_
        refine mw_cIe (fun _ => rfl) (show mu_is H (some (m + 25)) 10 from (h.1.1.w (md_w12 h.2)).1) (um.getk (d := d) h rfl (j := 12) (by decide) rfl ((nI (ia W ii)) + ((W 9).2 r 3)) (c := 0) (by decide)) ?_
        rw [show (tget ((ak m H) 12) ((nI (ia W ii)) + ((W 9).2 r 3)) 0) = (nI ww) from (by rw [et, nI_add]; exact ((tget_nI (by omega)).trans (by rw [hj.1 12 (by decide)])).trans ew)]
        exact mw_of (fun _ => mu_ret rfl trivial ⟨_, _, rfl, rfl, (by unfold rch; rw [if_neg h3, if_pos h10, hq0, et, nI_clamp (by omega)]; exact ew.symm), Or.inr (Or.inl ⟨h10, ww, tv, hww, rfl, ew2⟩)⟩)
      · -- 129: not ((W 9).2 r 2) = (3 : Int32)
        refine mw_go mu_g125 (k := 2) (f1 := (133, [(5, .inl (nI ii)), (7, .inl (nI y)), (0, .inr (.inr (some m))), (1, .inl (nI r)), (2, .inl (nI i)), (3, .inl ((W 9).2 r 2)), (4, .inl ((W 9).2 r 3)), (6, .inl (nI a))], [.inr (.inr (mu_r H m 11))], H)) (C := [mu_is H (some m) 6]) rfl (show mu_is H (some m) 6 from (show mu_is H (some m) 6 from gi_im h.1.1 h.2)) ?_
        rw [(show mu_r H m 11 = some (m + 23) from (gi_mr h.1.1 h.2 (j := 11) (by decide)).trans (congrArg some (by omega)))]
        refine mw_go mu_g125 (k := 2) (f1 := (136, [(5, .inl (nI ii)), (7, .inl (nI y)), (0, .inr (.inr (some m))), (1, .inl (nI r)), (2, .inl (nI i)), (3, .inl ((W 9).2 r 2)), (4, .inl ((W 9).2 r 3)), (6, .inl (nI a))], [.inl (2 : Int32), .inl (nI ii), .inr (.inr (some (m + 23)))], H)) (C := []) rfl trivial ?_
        refine mw_cIe (fun _ => rfl) (show mu_is H (some (m + 23)) 10 from (h.1.1.w (md_w11 h.2)).1) (um.getk (d := d) h rfl (j := 11) (by decide) rfl (nI ii) (c := 2) (by decide)) ?_
        rw [show (tget ((ak m H) 11) (nI ii) 2) = (nI (ie W ii)) from ((tget_nI (by omega)).trans (by rw [hj.1 11 (by decide)])).trans (hW.1 ii hi1).1.2.2.1]
        refine mw_go mu_g125 (k := 5) (f1 := (146, [(7, .inl ((nI (ie W ii)) + ((W 9).2 r 3))), (5, .inl (nI ii)), (0, .inr (.inr (some m))), (1, .inl (nI r)), (2, .inl (nI i)), (3, .inl ((W 9).2 r 2)), (4, .inl ((W 9).2 r 3)), (6, .inl (nI a))], [.inl (1 : Int32), .inl ((W 9).2 r 2)], H)) (C := []) rfl trivial ?_
        refine mw_if (P := ((W 9).2 r 2) = (1 : Int32)) (a := 149) (b := 154) (fun _ => rfl) trivial (fun h14 => ?_) (fun h14 => ?_)
        · -- 149: ((W 9).2 r 2) = (1 : Int32)
          obtain ⟨tv, et, ht1, ht2⟩ := kn1 hkn h14
          refine mw_go mu_g125 (k := 2) (f1 := (167, [(7, .inl ((nI (ie W ii)) + ((W 9).2 r 3))), (5, .inl (nI ii)), (0, .inr (.inr (some m))), (1, .inl (nI r)), (2, .inl (nI i)), (3, .inl ((W 9).2 r 2)), (4, .inl ((W 9).2 r 3)), (6, .inl (nI a))], [.inl ((nI (ie W ii)) + ((W 9).2 r 3))], H)) (C := []) rfl trivial ?_
          have en1 : np W (im W ii) = sp W (im W ii + 1) 1 - sp W (im W ii) 1 := rfl
          have en3 : ndU W (im W ii) = sp W (im W ii + 1) 3 - sp W (im W ii) 3 := rfl
          refine mw_of (fun _ => mu_ret rfl trivial ⟨_, _, rfl, rfl, (by unfold rch; rw [if_neg h3, if_neg h10, if_pos h14, hq0, (hW.1 ii hi1).1.2.2.1]), Or.inr (Or.inr ⟨h3, h10, ie W ii + (tv - sp W (im W ii) 1), by omega, by rw [et, nI_add]⟩)⟩)
        · -- 154: not ((W 9).2 r 2) = (1 : Int32)
          obtain ⟨tv, et, ht1, ht2⟩ := kn2 hkn h3 h10 h14
          refine mw_go mu_g125 (k := 3) (f1 := (160, [(7, .inl ((nI (ie W ii)) + ((W 9).2 r 3))), (5, .inl (nI ii)), (0, .inr (.inr (some m))), (1, .inl (nI r)), (2, .inl (nI i)), (3, .inl ((W 9).2 r 2)), (4, .inl ((W 9).2 r 3)), (6, .inl (nI a))], [.inr (.inr (mu_r H m 11)), .inl ((nI (ie W ii)) + ((W 9).2 r 3))], H)) (C := [mu_is H (some m) 6]) rfl (show mu_is H (some m) 6 from (show mu_is H (some m) 6 from gi_im h.1.1 h.2)) ?_
          rw [(show mu_r H m 11 = some (m + 23) from (gi_mr h.1.1 h.2 (j := 11) (by decide)).trans (congrArg some (by omega)))]
          refine mw_go mu_g125 (k := 2) (f1 := (163, [(7, .inl ((nI (ie W ii)) + ((W 9).2 r 3))), (5, .inl (nI ii)), (0, .inr (.inr (some m))), (1, .inl (nI r)), (2, .inl (nI i)), (3, .inl ((W 9).2 r 2)), (4, .inl ((W 9).2 r 3)), (6, .inl (nI a))], [.inl (3 : Int32), .inl (nI ii), .inr (.inr (some (m + 23))), .inl ((nI (ie W ii)) + ((W 9).2 r 3))], H)) (C := []) rfl trivial ?_
          refine mw_cIe (fun _ => rfl) (show mu_is H (some (m + 23)) 10 from (h.1.1.w (md_w11 h.2)).1) (um.getk (d := d) h rfl (j := 11) (by decide) rfl (nI ii) (c := 3) (by decide)) ?_
          rw [show (tget ((ak m H) 11) (nI ii) 3) = (nI (np W (im W ii))) from ((tget_nI (by omega)).trans (by rw [hj.1 11 (by decide)])).trans (hW.1 ii hi1).1.2.2.2]
          refine mw_go mu_g125 (k := 1) (f1 := (167, [(7, .inl ((nI (ie W ii)) + ((W 9).2 r 3))), (5, .inl (nI ii)), (0, .inr (.inr (some m))), (1, .inl (nI r)), (2, .inl (nI i)), (3, .inl ((W 9).2 r 2)), (4, .inl ((W 9).2 r 3)), (6, .inl (nI a))], [.inl (((nI (ie W ii)) + ((W 9).2 r 3)) + (nI (np W (im W ii))))], H)) (C := []) rfl trivial ?_
          have en1 : np W (im W ii) = sp W (im W ii + 1) 1 - sp W (im W ii) 1 := rfl
          have en3 : ndU W (im W ii) = sp W (im W ii + 1) 3 - sp W (im W ii) 3 := rfl
          refine mw_of (fun _ => mu_ret rfl trivial ⟨_, _, rfl, rfl, (by unfold rch; rw [if_neg h3, if_neg h10, if_neg h14, hq0, (hW.1 ii hi1).1.2.2.1, (hW.1 ii hi1).1.2.2.2]), Or.inr (Or.inr ⟨h3, h10, ie W ii + (tv - sp W (im W ii) 3) + np W (im W ii), by omega, by rw [et, nI_add, nI_add]⟩)⟩)
end UReach
