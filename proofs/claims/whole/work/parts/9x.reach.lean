/-! A MODEL THAT HAS GROWN: what NAMES reach -/
/-- what ordering and judging leave as it is -/
def jz (W s : Ts) : Prop := (∀ j, j ≠ 13 → j ≠ 14 → j ≠ 20 → s j = W j) ∧ (s 13).1 = (W 13).1 ∧ ∀ i c, c < 3 → (s 13).2 i c = (W 13).2 i c
/-- all slots are filled; all NAMES are known -/
def Gf (W : Ts) : Prop := ∀ i, i < (W 11).1 → ∀ v, sp W (im W i) 2 ≤ v → v < sp W (im W i + 1) 2 → vin W W v ((W 12).2 (ia W i + (v - sp W (im W i) 2)) 0)
def Kn (W : Ts) : Prop := ∀ i, i < (W 11).1 → ∀ r, sp W (im W i) 6 ≤ r → r < sp W (im W i + 1) 6 → KN W W (im W i) r
def JW (W : Ts) : Prop := Gi W W ∧ Gf W ∧ Ge W W ∧ (Gc W W 16 ∧ Gc W W 17) ∧ Kn W ∧ (Cm W ∧ Cc W) ∧ ∀ j, j < 19 → (W j).1 ≤ 67108864
/-- n steps lead from here on -/
def fw (W : Ts) (st : Tb) : Nat → Nat → Nat → Nat → Prop
  | q, _, 0, Q => Q = q
  | q, a, n + 1, Q => ∃ v q2, q < (W 1).1 ∧ (sp W q 2 ≤ v ∧ v < sp W (q + 1) 2) ∧ (W 3).2 v 1 = 3 ∧ st.2 a 0 = nI (v - sp W q 2) ∧ (W 3).2 v 4 = nI q2 ∧ fw W st q2 (a + 1) n Q
section Reach
variable {W s : Ts} {st : Tb} {k a q Q i r : Nat} {kd tg : Int32}
theorem fw_lt (hQ : Q < (W 1).1) : ∀ {n q a : Nat}, fw W st q a n Q → q < (W 1).1
  | 0, _, _, h => by
    have h : Q = _ := h
    rw [← h]; exact hQ
  | n + 1, _, _, h => by
    obtain ⟨v, q2, h1, -⟩ := h
    exact h1
theorem wk_fw : ∀ {n q : Nat}, wk W st k a n q → ∀ n' Q, fw W st q (a + n) n' Q → fw W st k a (n + n') Q
  | 0, _, h, n', Q, hf => by
    have h : _ = k := h
    subst h
    rw [Nat.zero_add]
    exact hf
  | n + 1, q, h, n', Q, hf => by
    obtain ⟨q', v, h1, h2, h3, h4, h5, h6⟩ := h
    have z := wk_fw h1 (n' + 1) Q ⟨v, q, h2, h3, h4, h5, h6, hf⟩
    rw [show n + (n' + 1) = n + 1 + n' by omega] at z
    exact z
theorem JW.inst (h : JW W) (hi : i < (W 11).1) : ia W i + (sp W (im W i + 1) 2 - sp W (im W i) 2) ≤ 67108864 ∧ ie W i + np W (im W i) + ndU W (im W i) ≤ (W 13).1 ∧ (W 13).1 ≤ 67108864 ∧ im W i < (W 1).1 ∧ (W 1).1 ≤ 67108864 := by
  obtain ⟨-, h2, h3, h4, -⟩ := h.1 i hi
  have b := h.2.2.2.2.2.2
  have b12 := b 12 (by decide)
  unfold nv at h3
  exact ⟨by omega, h4, b 13 (by decide), h2, b 1 (by decide)⟩
theorem JW.le (h : JW W) (hk : k < (W 1).1) {c j : Nat} (h1 : 1 ≤ c) (h6 : c ≤ 6) (hj : tabc c = j) : sp W k c ≤ sp W (k + 1) c ∧ sp W (k + 1) c ≤ (W j).1 ∧ (W j).1 ≤ 67108864 := by
  have ht := tabc_lt h6
  rw [← hj]
  exact ⟨(h.2.2.2.2.2.1.1 k hk c h1 h6).2.1, (h.2.2.2.2.2.1.1 k hk c h1 h6).2.2, h.2.2.2.2.2.2 _ (by omega)⟩
theorem kn3 (h : kn W q kd tg) (e : kd = 3) : ∃ v, tg = nI (v - sp W q 2) ∧ (sp W q 2 ≤ v ∧ v < sp W (q + 1) 2) ∧ ¬ (W 3).2 v 1 = 3 := by
  rcases h with z | ⟨-, z⟩ | ⟨z, -⟩ | ⟨z, -⟩
  · rw [e] at z; exact absurd z (by decide)
  · exact z
  · rw [e] at z; exact absurd z (by decide)
  · rw [e] at z; exact absurd z (by decide)
theorem kn1 (h : kn W q kd tg) (e : kd = 1) : ∃ v, tg = nI (v - sp W q 1) ∧ sp W q 1 ≤ v ∧ v < sp W (q + 1) 1 := by
  rcases h with z | ⟨z, -⟩ | ⟨z, -⟩ | ⟨-, z⟩
  · rw [e] at z; exact absurd z (by decide)
  · rw [e] at z; exact absurd z (by decide)
  · rw [e] at z; exact absurd z (by decide)
  · exact z
theorem kn2 (h : kn W q kd tg) (e5 : ¬ kd = 5) (e3 : ¬ kd = 3) (e1 : ¬ kd = 1) : ∃ v, tg = nI (v - sp W q 3) ∧ sp W q 3 ≤ v ∧ v < sp W (q + 1) 3 := by
  rcases h with z | ⟨z, -⟩ | ⟨-, z⟩ | ⟨z, -⟩
  · exact absurd z e5
  · exact absurd z e3
  · exact z
  · exact absurd z e1
end Reach
section Reach2
variable {H : mu_H} {d m i r p a b : Nat} {W : Ts}
theorem md_reach2 (h : dm m H) (hj : jz W (ak m H)) (hW : JW W) (hi : i < (W 11).1) (hr1 : sp W (im W i) 6 ≤ r) (hr2 : r < sp W (im W i + 1) 6) : mu_TI (mu_D (d + 2)) 125 [.inr (.inr (some m)), .inl (nI r), .inl (nI i)] H (fun x H1 => H = H1 ∧ (((W 9).2 r 2 = 5) ∨ ((W 9).2 r 2 = 3 ∧ ∃ w v, w < (W 15).1 ∧ x = nI w ∧ (W 15).2 w 0 = nI v) ∨ (¬ (W 9).2 r 2 = 5 ∧ ¬ (W 9).2 r 2 = 3 ∧ ∃ e, e < (W 13).1 ∧ x = nI e))) := by
  have b := hW.2.2.2.2.2.2
  have b9 := b 9 (by decide)
  have b10 := b 10 (by decide)
  have b11 := b 11 (by decide)
  obtain ⟨-, -, -, hkM, b1⟩ := hW.inst hi
  obtain ⟨lr1, lr2, lr3⟩ := hW.le hkM (c := 6) (j := 9) (by decide) (by decide) rfl
  obtain ⟨a, l, Q, ka1, ka2, kal, hQ, hwk, hkn⟩ := hW.2.2.2.2.1 i hi r hr1 hr2
  have hfw0 : fw W (W 10) (im W i) (a + 0) (l - 1 - 0) Q := wk_fw hwk 0 Q rfl
  refine mu_meth (M := mu_m125) rfl rfl ?_
  refine mw_ht (mu_fn_of (show [0, 1, 2].Nodup by decide)) ?_
  refine mw_go mu_g125 (k := 2) (f1 := (4, [(0, .inr (.inr (some m))), (1, .inl (nI r)), (2, .inl (nI i))], [.inr (.inr (mu_r H m 9))], H)) (C := [mu_is H (some m) 6]) rfl (show mu_is H (some m) 6 from (show mu_is H (some m) 6 from gi_im h.1 h.2.1)) ?_
  rw [(show mu_r H m 9 = some (m + 19) from (gi_mr h.1 h.2.1 (j := 9) (by decide)).trans (congrArg some (by omega)))]
  refine mw_go mu_g125 (k := 2) (f1 := (6, [(0, .inr (.inr (some m))), (1, .inl (nI r)), (2, .inl (nI i))], [.inl (2 : Int32), .inl (nI r), .inr (.inr (some (m + 19)))], H)) (C := []) rfl trivial ?_
  refine mw_cIe (fun _ => rfl) (show mu_is H (some (m + 19)) 10 from (h.1.w (md_w9 h.2.1)).1) (dm.getr (d := d) h rfl (j := 9) (by decide) rfl (nI r) (c := 2) (by decide)) ?_
  rw [show (tget ((ak m H) 9) (nI r) 2) = ((W 9).2 r 2) from (tget_nI (by omega)).trans (by rw [hj.1 9 (by decide) (by decide) (by decide)])]
  refine mw_go mu_g125 (k := 3) (f1 := (14, [(3, .inl ((W 9).2 r 2)), (0, .inr (.inr (some m))), (1, .inl (nI r)), (2, .inl (nI i))], [.inr (.inr (mu_r H m 9))], H)) (C := [mu_is H (some m) 6]) rfl (show mu_is H (some m) 6 from (show mu_is H (some m) 6 from gi_im h.1 h.2.1)) ?_
  rw [(show mu_r H m 9 = some (m + 19) from (gi_mr h.1 h.2.1 (j := 9) (by decide)).trans (congrArg some (by omega)))]
  refine mw_go mu_g125 (k := 2) (f1 := (16, [(3, .inl ((W 9).2 r 2)), (0, .inr (.inr (some m))), (1, .inl (nI r)), (2, .inl (nI i))], [.inl (3 : Int32), .inl (nI r), .inr (.inr (some (m + 19)))], H)) (C := []) rfl trivial ?_
  refine mw_cIe (fun _ => rfl) (show mu_is H (some (m + 19)) 10 from (h.1.w (md_w9 h.2.1)).1) (dm.getr (d := d) h rfl (j := 9) (by decide) rfl (nI r) (c := 3) (by decide)) ?_
  rw [show (tget ((ak m H) 9) (nI r) 3) = ((W 9).2 r 3) from (tget_nI (by omega)).trans (by rw [hj.1 9 (by decide) (by decide) (by decide)])]
  refine mw_go mu_g125 (k := 3) (f1 := (23, [(4, .inl ((W 9).2 r 3)), (3, .inl ((W 9).2 r 2)), (0, .inr (.inr (some m))), (1, .inl (nI r)), (2, .inl (nI i))], [.inl (5 : Int32), .inl ((W 9).2 r 2)], H)) (C := []) rfl trivial ?_
  refine mw_if (P := ((W 9).2 r 2) = (5 : Int32)) (a := 26) (b := 29) (fun _ => rfl) trivial (fun h3 => ?_) (fun h3 => ?_)
  · -- 26: ((W 9).2 r 2) = (5 : Int32)
    refine mw_go mu_g125 (k := 1) (f1 := (28, [(4, .inl ((W 9).2 r 3)), (3, .inl ((W 9).2 r 2)), (0, .inr (.inr (some m))), (1, .inl (nI r)), (2, .inl (nI i))], [.inl ((W 9).2 r 3)], H)) (C := []) rfl trivial ?_
    exact mw_of (fun _ => mu_ret rfl trivial ⟨_, _, rfl, rfl, Or.inl h3⟩)
  · -- 29: not ((W 9).2 r 2) = (5 : Int32)
    refine mw_go mu_g125 (k := 4) (f1 := (36, [(5, .inl (nI i)), (4, .inl ((W 9).2 r 3)), (3, .inl ((W 9).2 r 2)), (0, .inr (.inr (some m))), (1, .inl (nI r)), (2, .inl (nI i))], [.inr (.inr (mu_r H m 9))], H)) (C := [mu_is H (some m) 6]) rfl (show mu_is H (some m) 6 from (show mu_is H (some m) 6 from gi_im h.1 h.2.1)) ?_
    rw [(show mu_r H m 9 = some (m + 19) from (gi_mr h.1 h.2.1 (j := 9) (by decide)).trans (congrArg some (by omega)))]
    refine mw_go mu_g125 (k := 2) (f1 := (38, [(5, .inl (nI i)), (4, .inl ((W 9).2 r 3)), (3, .inl ((W 9).2 r 2)), (0, .inr (.inr (some m))), (1, .inl (nI r)), (2, .inl (nI i))], [.inl (0 : Int32), .inl (nI r), .inr (.inr (some (m + 19)))], H)) (C := []) rfl trivial ?_
    refine mw_cIe (fun _ => rfl) (show mu_is H (some (m + 19)) 10 from (h.1.w (md_w9 h.2.1)).1) (dm.getr (d := d) h rfl (j := 9) (by decide) rfl (nI r) (c := 0) (by decide)) ?_
    rw [show (tget ((ak m H) 9) (nI r) 0) = (nI a) from ((tget_nI (by omega)).trans (by rw [hj.1 9 (by decide) (by decide) (by decide)])).trans ka1]
    refine mw_go mu_g125 (k := 3) (f1 := (46, [(7, .inl (0 : Int32)), (6, .inl (nI a)), (5, .inl (nI i)), (4, .inl ((W 9).2 r 3)), (3, .inl ((W 9).2 r 2)), (0, .inr (.inr (some m))), (1, .inl (nI r)), (2, .inl (nI i))], [], H)) (C := []) rfl trivial ?_
    show mu_W _ _ (46, [(7, .inl (nI 0)), (6, .inl (nI a)), (5, .inl (nI i)), (4, .inl ((W 9).2 r 3)), (3, .inl ((W 9).2 r 2)), (0, .inr (.inr (some m))), (1, .inl (nI r)), (2, .inl (nI i))], [], H) _
    refine mw_sub (L' := [(5, .inl (nI i)), (7, .inl (nI 0)), (0, .inr (.inr (some m))), (1, .inl (nI r)), (2, .inl (nI i)), (3, .inl ((W 9).2 r 2)), (4, .inl ((W 9).2 r 3)), (6, .inl (nI a))]) (by simp) ?_
    refine mw_down (α := Nat × Nat) (fun zs => (46, [(5, .inl (nI zs.1)), (7, .inl (nI zs.2)), (0, .inr (.inr (some m))), (1, .inl (nI r)), (2, .inl (nI i)), (3, .inl ((W 9).2 r 2)), (4, .inl ((W 9).2 r 3)), (6, .inl (nI a))], [], H)) (fun zs => l - 1 - zs.2) (fun zs => (zs.1 < (W 11).1) ∧ (zs.2 ≤ l - 1) ∧ (fw W (W 10) (im W zs.1) (a + zs.2) (l - 1 - zs.2) Q)) (fun zs hs ih => ?_) (i, 0) ⟨(show i < (W 11).1 from hi), (show 0 ≤ l - 1 from by omega), (show fw W (W 10) (im W i) (a + 0) (l - 1 - 0) Q from hfw0)⟩
    obtain ⟨ii, y⟩ := zs
    obtain ⟨hi1, hyl, hfw⟩ := hs
    have hi1 : ii < (W 11).1 := hi1
    have hyl : y ≤ l - 1 := hyl
    have hfw : fw W (W 10) (im W ii) (a + y) (l - 1 - y) Q := hfw
    show mu_W _ _ (46, [(5, .inl (nI ii)), (7, .inl (nI y)), (0, .inr (.inr (some m))), (1, .inl (nI r)), (2, .inl (nI i)), (3, .inl ((W 9).2 r 2)), (4, .inl ((W 9).2 r 3)), (6, .inl (nI a))], [], H) _
    refine mw_go mu_g125 (k := 3) (f1 := (52, [(5, .inl (nI ii)), (7, .inl (nI y)), (0, .inr (.inr (some m))), (1, .inl (nI r)), (2, .inl (nI i)), (3, .inl ((W 9).2 r 2)), (4, .inl ((W 9).2 r 3)), (6, .inl (nI a))], [.inr (.inr (mu_r H m 9)), .inl (nI y)], H)) (C := [mu_is H (some m) 6]) rfl (show mu_is H (some m) 6 from (show mu_is H (some m) 6 from gi_im h.1 h.2.1)) ?_
    rw [(show mu_r H m 9 = some (m + 19) from (gi_mr h.1 h.2.1 (j := 9) (by decide)).trans (congrArg some (by omega)))]
    refine mw_go mu_g125 (k := 2) (f1 := (54, [(5, .inl (nI ii)), (7, .inl (nI y)), (0, .inr (.inr (some m))), (1, .inl (nI r)), (2, .inl (nI i)), (3, .inl ((W 9).2 r 2)), (4, .inl ((W 9).2 r 3)), (6, .inl (nI a))], [.inl (1 : Int32), .inl (nI r), .inr (.inr (some (m + 19))), .inl (nI y)], H)) (C := []) rfl trivial ?_
    refine mw_cIe (fun _ => rfl) (show mu_is H (some (m + 19)) 10 from (h.1.w (md_w9 h.2.1)).1) (dm.getr (d := d) h rfl (j := 9) (by decide) rfl (nI r) (c := 1) (by decide)) ?_
    rw [show (tget ((ak m H) 9) (nI r) 1) = (nI l) from ((tget_nI (by omega)).trans (by rw [hj.1 9 (by decide) (by decide) (by decide)])).trans ka2]
    refine mw_go mu_g125 (k := 2) (f1 := (59, [(5, .inl (nI ii)), (7, .inl (nI y)), (0, .inr (.inr (some m))), (1, .inl (nI r)), (2, .inl (nI i)), (3, .inl ((W 9).2 r 2)), (4, .inl ((W 9).2 r 3)), (6, .inl (nI a))], [.inl ((nI l) - (1 : Int32)), .inl (nI y)], H)) (C := []) rfl trivial ?_
    refine mw_if (P := (nI y) < ((nI l) - (1 : Int32))) (a := 62) (b := 102) (fun _ => rfl) trivial (fun h6 => ?_) (fun h6 => ?_)
    · -- 62: (nI y) < ((nI l) - (1 : Int32))
      obtain ⟨ji1, ji2, ji3, ji4, ji5⟩ := hW.inst hi1
      obtain ⟨lv1, lv2, lv3⟩ := hW.le ji4 (c := 2) (j := 3) (by decide) (by decide) rfl
      have hyb : y < l - 1 := lt_last (by omega) (by omega) h6
      obtain ⟨vv, q2, hq1, hv, hty, hst, hq4, hfw2⟩ : ∃ v q2, im W ii < (W 1).1 ∧ (sp W (im W ii) 2 ≤ v ∧ v < sp W (im W ii + 1) 2) ∧ (W 3).2 v 1 = 3 ∧ (W 10).2 (a + y) 0 = nI (v - sp W (im W ii) 2) ∧ (W 3).2 v 4 = nI q2 ∧ fw W (W 10) q2 (a + y + 1) (l - 1 - y - 1) Q := by
        have z := hfw
        rw [show l - 1 - y = (l - 1 - y - 1) + 1 by omega] at z
        exact z
      have hq2 := fw_lt hQ hfw2
      obtain ⟨i2, hi2, ei2, em2⟩ := (hW.2.1 ii hi1 vv hv.1 hv.2).1 hty
      refine mw_go mu_g125 (k := 2) (f1 := (66, [(5, .inl (nI ii)), (7, .inl (nI y)), (0, .inr (.inr (some m))), (1, .inl (nI r)), (2, .inl (nI i)), (3, .inl ((W 9).2 r 2)), (4, .inl ((W 9).2 r 3)), (6, .inl (nI a))], [.inr (.inr (mu_r H m 12))], H)) (C := [mu_is H (some m) 6]) rfl (show mu_is H (some m) 6 from (show mu_is H (some m) 6 from gi_im h.1 h.2.1)) ?_
      rw [(show mu_r H m 12 = some (m + 25) from (gi_mr h.1 h.2.1 (j := 12) (by decide)).trans (congrArg some (by omega)))]
      refine mw_go mu_g125 (k := 2) (f1 := (70, [(5, .inl (nI ii)), (7, .inl (nI y)), (0, .inr (.inr (some m))), (1, .inl (nI r)), (2, .inl (nI i)), (3, .inl ((W 9).2 r 2)), (4, .inl ((W 9).2 r 3)), (6, .inl (nI a))], [.inr (.inr (mu_r H m 11)), .inr (.inr (some (m + 25)))], H)) (C := [mu_is H (some m) 6]) rfl (show mu_is H (some m) 6 from (show mu_is H (some m) 6 from gi_im h.1 h.2.1)) ?_
      rw [(show mu_r H m 11 = some (m + 23) from (gi_mr h.1 h.2.1 (j := 11) (by decide)).trans (congrArg some (by omega)))]
      refine mw_go mu_g125 (k := 2) (f1 := (73, [(5, .inl (nI ii)), (7, .inl (nI y)), (0, .inr (.inr (some m))), (1, .inl (nI r)), (2, .inl (nI i)), (3, .inl ((W 9).2 r 2)), (4, .inl ((W 9).2 r 3)), (6, .inl (nI a))], [.inl (1 : Int32), .inl (nI ii), .inr (.inr (some (m + 23))), .inr (.inr (some (m + 25)))], H)) (C := []) rfl trivial ?_
      refine mw_cIe (fun _ => rfl) (show mu_is H (some (m + 23)) 10 from (h.1.w (md_w11 h.2.1)).1) (dm.getr (d := d) h rfl (j := 11) (by decide) rfl (nI ii) (c := 1) (by decide)) ?_
      rw [show (tget ((ak m H) 11) (nI ii) 1) = (nI (ia W ii)) from ((tget_nI (by omega)).trans (by rw [hj.1 11 (by decide) (by decide) (by decide)])).trans (hW.1 ii hi1).1.2.1]
      refine mw_go mu_g125 (k := 2) (f1 := (80, [(5, .inl (nI ii)), (7, .inl (nI y)), (0, .inr (.inr (some m))), (1, .inl (nI r)), (2, .inl (nI i)), (3, .inl ((W 9).2 r 2)), (4, .inl ((W 9).2 r 3)), (6, .inl (nI a))], [.inr (.inr (mu_r H m 10)), .inl (nI (ia W ii)), .inr (.inr (some (m + 25)))], H)) (C := [mu_is H (some m) 6]) rfl (show mu_is H (some m) 6 from (show mu_is H (some m) 6 from gi_im h.1 h.2.1)) ?_
      rw [(show mu_r H m 10 = some (m + 21) from (gi_mr h.1 h.2.1 (j := 10) (by decide)).trans (congrArg some (by omega)))]
      refine mw_go mu_g125 (k := 4) (f1 := (86, [(5, .inl (nI ii)), (7, .inl (nI y)), (0, .inr (.inr (some m))), (1, .inl (nI r)), (2, .inl (nI i)), (3, .inl ((W 9).2 r 2)), (4, .inl ((W 9).2 r 3)), (6, .inl (nI a))], [.inl (0 : Int32), .inl ((nI a) + (nI y)), .inr (.inr (some (m + 21))), .inl (nI (ia W ii)), .inr (.inr (some (m + 25)))], H)) (C := []) rfl trivial ?_
      refine mw_cIe (fun _ => rfl) (show mu_is H (some (m + 21)) 10 from (h.1.w (md_w10 h.2.1)).1) (dm.getr (d := d) h rfl (j := 10) (by decide) rfl ((nI a) + (nI y)) (c := 0) (by decide)) ?_
      rw [show (tget ((ak m H) 10) ((nI a) + (nI y)) 0) = (nI (vv - sp W (im W ii) 2)) from (by rw [nI_add]; exact ((tget_nI (by omega)).trans (by rw [hj.1 10 (by decide) (by decide) (by decide)])).trans hst)]
      refine mw_go mu_g125 (k := 2) (f1 := (91, [(5, .inl (nI ii)), (7, .inl (nI y)), (0, .inr (.inr (some m))), (1, .inl (nI r)), (2, .inl (nI i)), (3, .inl ((W 9).2 r 2)), (4, .inl ((W 9).2 r 3)), (6, .inl (nI a))], [.inl (0 : Int32), .inl ((nI (ia W ii)) + (nI (vv - sp W (im W ii) 2))), .inr (.inr (some (m + 25)))], H)) (C := []) rfl trivial ?_
      refine mw_cIe (fun _ => rfl) (show mu_is H (some (m + 25)) 10 from (h.1.w (md_w12 h.2.1)).1) (dm.getr (d := d) h rfl (j := 12) (by decide) rfl ((nI (ia W ii)) + (nI (vv - sp W (im W ii) 2))) (c := 0) (by decide)) ?_
      rw [show (tget ((ak m H) 12) ((nI (ia W ii)) + (nI (vv - sp W (im W ii) 2))) 0) = (nI i2) from (by rw [nI_add]; exact ((tget_nI (by omega)).trans (by rw [hj.1 12 (by decide) (by decide) (by decide)])).trans ei2)]
      refine mw_go mu_g125 (k := 3) (f1 := (46, [(7, .inl ((nI y) + 1)), (5, .inl (nI i2)), (0, .inr (.inr (some m))), (1, .inl (nI r)), (2, .inl (nI i)), (3, .inl ((W 9).2 r 2)), (4, .inl ((W 9).2 r 3)), (6, .inl (nI a))], [], H)) (C := []) rfl trivial ?_
      rw [nI_1 y]
      exact mw_sub (by simp) (ih (i2, y + 1) ⟨(show i2 < (W 11).1 from hi2), (show (y + 1) ≤ l - 1 from by omega), (show fw W (W 10) (im W i2) (a + (y + 1)) (l - 1 - (y + 1)) Q from (by rw [em2, hq4, nI_clamp (by omega), show a + (y + 1) = a + y + 1 by omega, show l - 1 - (y + 1) = l - 1 - y - 1 by omega]; exact hfw2))⟩ (by show l - 1 - (y + 1) < l - 1 - y; omega))
    · -- 102: not (nI y) < ((nI l) - (1 : Int32))
      obtain ⟨ji1, ji2, ji3, ji4, ji5⟩ := hW.inst hi1
      obtain ⟨lv1, lv2, lv3⟩ := hW.le ji4 (c := 2) (j := 3) (by decide) (by decide) rfl
      have hye : y = l - 1 := by have := ge_last (by omega) h6; omega
      have hQe : Q = im W ii := by rw [hye, Nat.sub_self] at hfw; exact hfw
      rw [hQe] at hkn
      refine mw_go mu_g125 (k := 2) (f1 := (104, [(5, .inl (nI ii)), (7, .inl (nI y)), (0, .inr (.inr (some m))), (1, .inl (nI r)), (2, .inl (nI i)), (3, .inl ((W 9).2 r 2)), (4, .inl ((W 9).2 r 3)), (6, .inl (nI a))], [.inl (3 : Int32), .inl ((W 9).2 r 2)], H)) (C := []) rfl trivial ?_
      refine mw_if (P := ((W 9).2 r 2) = (3 : Int32)) (a := 107) (b := 129) (fun _ => rfl) trivial (fun h10 => ?_) (fun h10 => ?_)
      · -- 107: ((W 9).2 r 2) = (3 : Int32)
        obtain ⟨tv, et, htv, hnt⟩ := kn3 hkn h10
        obtain ⟨ww, hww, ew, ew2⟩ := (hW.2.1 ii hi1 tv htv.1 htv.2).2 hnt
        refine mw_go mu_g125 (k := 2) (f1 := (111, [(5, .inl (nI ii)), (7, .inl (nI y)), (0, .inr (.inr (some m))), (1, .inl (nI r)), (2, .inl (nI i)), (3, .inl ((W 9).2 r 2)), (4, .inl ((W 9).2 r 3)), (6, .inl (nI a))], [.inr (.inr (mu_r H m 12))], H)) (C := [mu_is H (some m) 6]) rfl (show mu_is H (some m) 6 from (show mu_is H (some m) 6 from gi_im h.1 h.2.1)) ?_
        rw [(show mu_r H m 12 = some (m + 25) from (gi_mr h.1 h.2.1 (j := 12) (by decide)).trans (congrArg some (by omega)))]
        refine mw_go mu_g125 (k := 2) (f1 := (115, [(5, .inl (nI ii)), (7, .inl (nI y)), (0, .inr (.inr (some m))), (1, .inl (nI r)), (2, .inl (nI i)), (3, .inl ((W 9).2 r 2)), (4, .inl ((W 9).2 r 3)), (6, .inl (nI a))], [.inr (.inr (mu_r H m 11)), .inr (.inr (some (m + 25)))], H)) (C := [mu_is H (some m) 6]) rfl (show mu_is H (some m) 6 from (show mu_is H (some m) 6 from gi_im h.1 h.2.1)) ?_
        rw [(show mu_r H m 11 = some (m + 23) from (gi_mr h.1 h.2.1 (j := 11) (by decide)).trans (congrArg some (by omega)))]
        refine mw_go mu_g125 (k := 2) (f1 := (118, [(5, .inl (nI ii)), (7, .inl (nI y)), (0, .inr (.inr (some m))), (1, .inl (nI r)), (2, .inl (nI i)), (3, .inl ((W 9).2 r 2)), (4, .inl ((W 9).2 r 3)), (6, .inl (nI a))], [.inl (1 : Int32), .inl (nI ii), .inr (.inr (some (m + 23))), .inr (.inr (some (m + 25)))], H)) (C := []) rfl trivial ?_
        refine mw_cIe (fun _ => rfl) (show mu_is H (some (m + 23)) 10 from (h.1.w (md_w11 h.2.1)).1) (dm.getr (d := d) h rfl (j := 11) (by decide) rfl (nI ii) (c := 1) (by decide)) ?_
        rw [show (tget ((ak m H) 11) (nI ii) 1) = (nI (ia W ii)) from ((tget_nI (by omega)).trans (by rw [hj.1 11 (by decide) (by decide) (by decide)])).trans (hW.1 ii hi1).1.2.1]
        refine mw_go mu_g125 (k := 3) (f1 := (125, [(5, .inl (nI ii)), (7, .inl (nI y)), (0, .inr (.inr (some m))), (1, .inl (nI r)), (2, .inl (nI i)), (3, .inl ((W 9).2 r 2)), (4, .inl ((W 9).2 r 3)), (6, .inl (nI a))], [.inl (0 : Int32), .inl ((nI (ia W ii)) + ((W 9).2 r 3)), .inr (.inr (some (m + 25)))], H)) (C := []) rfl trivial ?_
        refine mw_cIe (fun _ => rfl) (show mu_is H (some (m + 25)) 10 from (h.1.w (md_w12 h.2.1)).1) (dm.getr (d := d) h rfl (j := 12) (by decide) rfl ((nI (ia W ii)) + ((W 9).2 r 3)) (c := 0) (by decide)) ?_
        rw [show (tget ((ak m H) 12) ((nI (ia W ii)) + ((W 9).2 r 3)) 0) = (nI ww) from (by rw [et, nI_add]; exact ((tget_nI (by omega)).trans (by rw [hj.1 12 (by decide) (by decide) (by decide)])).trans ew)]
        exact mw_of (fun _ => mu_ret rfl trivial ⟨_, _, rfl, rfl, Or.inr (Or.inl ⟨h10, ww, tv, hww, rfl, ew2⟩)⟩)
      · -- 129: not ((W 9).2 r 2) = (3 : Int32)
        refine mw_go mu_g125 (k := 2) (f1 := (133, [(5, .inl (nI ii)), (7, .inl (nI y)), (0, .inr (.inr (some m))), (1, .inl (nI r)), (2, .inl (nI i)), (3, .inl ((W 9).2 r 2)), (4, .inl ((W 9).2 r 3)), (6, .inl (nI a))], [.inr (.inr (mu_r H m 11))], H)) (C := [mu_is H (some m) 6]) rfl (show mu_is H (some m) 6 from (show mu_is H (some m) 6 from gi_im h.1 h.2.1)) ?_
        rw [(show mu_r H m 11 = some (m + 23) from (gi_mr h.1 h.2.1 (j := 11) (by decide)).trans (congrArg some (by omega)))]
        refine mw_go mu_g125 (k := 2) (f1 := (136, [(5, .inl (nI ii)), (7, .inl (nI y)), (0, .inr (.inr (some m))), (1, .inl (nI r)), (2, .inl (nI i)), (3, .inl ((W 9).2 r 2)), (4, .inl ((W 9).2 r 3)), (6, .inl (nI a))], [.inl (2 : Int32), .inl (nI ii), .inr (.inr (some (m + 23)))], H)) (C := []) rfl trivial ?_
        refine mw_cIe (fun _ => rfl) (show mu_is H (some (m + 23)) 10 from (h.1.w (md_w11 h.2.1)).1) (dm.getr (d := d) h rfl (j := 11) (by decide) rfl (nI ii) (c := 2) (by decide)) ?_
        rw [show (tget ((ak m H) 11) (nI ii) 2) = (nI (ie W ii)) from ((tget_nI (by omega)).trans (by rw [hj.1 11 (by decide) (by decide) (by decide)])).trans (hW.1 ii hi1).1.2.2.1]
        refine mw_go mu_g125 (k := 5) (f1 := (146, [(7, .inl ((nI (ie W ii)) + ((W 9).2 r 3))), (5, .inl (nI ii)), (0, .inr (.inr (some m))), (1, .inl (nI r)), (2, .inl (nI i)), (3, .inl ((W 9).2 r 2)), (4, .inl ((W 9).2 r 3)), (6, .inl (nI a))], [.inl (1 : Int32), .inl ((W 9).2 r 2)], H)) (C := []) rfl trivial ?_
        refine mw_if (P := ((W 9).2 r 2) = (1 : Int32)) (a := 149) (b := 154) (fun _ => rfl) trivial (fun h14 => ?_) (fun h14 => ?_)
        · -- 149: ((W 9).2 r 2) = (1 : Int32)
          obtain ⟨tv, et, ht1, ht2⟩ := kn1 hkn h14
          refine mw_go mu_g125 (k := 2) (f1 := (167, [(7, .inl ((nI (ie W ii)) + ((W 9).2 r 3))), (5, .inl (nI ii)), (0, .inr (.inr (some m))), (1, .inl (nI r)), (2, .inl (nI i)), (3, .inl ((W 9).2 r 2)), (4, .inl ((W 9).2 r 3)), (6, .inl (nI a))], [.inl ((nI (ie W ii)) + ((W 9).2 r 3))], H)) (C := []) rfl trivial ?_
          have en1 : np W (im W ii) = sp W (im W ii + 1) 1 - sp W (im W ii) 1 := rfl
          have en3 : ndU W (im W ii) = sp W (im W ii + 1) 3 - sp W (im W ii) 3 := rfl
          refine mw_of (fun _ => mu_ret rfl trivial ⟨_, _, rfl, rfl, Or.inr (Or.inr ⟨h3, h10, ie W ii + (tv - sp W (im W ii) 1), by omega, by rw [et, nI_add]⟩)⟩)
        · -- 154: not ((W 9).2 r 2) = (1 : Int32)
          obtain ⟨tv, et, ht1, ht2⟩ := kn2 hkn h3 h10 h14
          refine mw_go mu_g125 (k := 3) (f1 := (160, [(7, .inl ((nI (ie W ii)) + ((W 9).2 r 3))), (5, .inl (nI ii)), (0, .inr (.inr (some m))), (1, .inl (nI r)), (2, .inl (nI i)), (3, .inl ((W 9).2 r 2)), (4, .inl ((W 9).2 r 3)), (6, .inl (nI a))], [.inr (.inr (mu_r H m 11)), .inl ((nI (ie W ii)) + ((W 9).2 r 3))], H)) (C := [mu_is H (some m) 6]) rfl (show mu_is H (some m) 6 from (show mu_is H (some m) 6 from gi_im h.1 h.2.1)) ?_
          rw [(show mu_r H m 11 = some (m + 23) from (gi_mr h.1 h.2.1 (j := 11) (by decide)).trans (congrArg some (by omega)))]
          refine mw_go mu_g125 (k := 2) (f1 := (163, [(7, .inl ((nI (ie W ii)) + ((W 9).2 r 3))), (5, .inl (nI ii)), (0, .inr (.inr (some m))), (1, .inl (nI r)), (2, .inl (nI i)), (3, .inl ((W 9).2 r 2)), (4, .inl ((W 9).2 r 3)), (6, .inl (nI a))], [.inl (3 : Int32), .inl (nI ii), .inr (.inr (some (m + 23))), .inl ((nI (ie W ii)) + ((W 9).2 r 3))], H)) (C := []) rfl trivial ?_
          refine mw_cIe (fun _ => rfl) (show mu_is H (some (m + 23)) 10 from (h.1.w (md_w11 h.2.1)).1) (dm.getr (d := d) h rfl (j := 11) (by decide) rfl (nI ii) (c := 3) (by decide)) ?_
          rw [show (tget ((ak m H) 11) (nI ii) 3) = (nI (np W (im W ii))) from ((tget_nI (by omega)).trans (by rw [hj.1 11 (by decide) (by decide) (by decide)])).trans (hW.1 ii hi1).1.2.2.2]
          refine mw_go mu_g125 (k := 1) (f1 := (167, [(7, .inl ((nI (ie W ii)) + ((W 9).2 r 3))), (5, .inl (nI ii)), (0, .inr (.inr (some m))), (1, .inl (nI r)), (2, .inl (nI i)), (3, .inl ((W 9).2 r 2)), (4, .inl ((W 9).2 r 3)), (6, .inl (nI a))], [.inl (((nI (ie W ii)) + ((W 9).2 r 3)) + (nI (np W (im W ii))))], H)) (C := []) rfl trivial ?_
          have en1 : np W (im W ii) = sp W (im W ii + 1) 1 - sp W (im W ii) 1 := rfl
          have en3 : ndU W (im W ii) = sp W (im W ii + 1) 3 - sp W (im W ii) 3 := rfl
          refine mw_of (fun _ => mu_ret rfl trivial ⟨_, _, rfl, rfl, Or.inr (Or.inr ⟨h3, h10, ie W ii + (tv - sp W (im W ii) 3) + np W (im W ii), by omega, by rw [et, nI_add, nI_add]⟩)⟩)
theorem jg_named2 (h : dm m H) (hj : jz W (ak m H)) (hW : JW W) (hi : i < (W 11).1) (hrg : rg W (im W i) false a b) (hp1 : a ≤ p) (hp2 : p < b) : mu_TI (mu_D (d + 3)) 199 [.inr (.inr (some 91)), .inl (nI p), .inl (nI i)] H (fun x H1 => (x = -1 ∧ H = H1) ∨ (∃ e, e < (W 13).1 ∧ x = nI e ∧ H = H1)) := by
  have b0 := hW.2.2.2.2.2.2 0 (by decide)
  have b9 := hW.2.2.2.2.2.2 9 (by decide)
  have hb0 := hrg.2.1
  obtain ⟨-, -, -, hkM, b1⟩ := hW.inst hi
  obtain ⟨lr1, lr2, lr3⟩ := hW.le hkM (c := 6) (j := 9) (by decide) (by decide) rfl
  refine mu_meth (M := mu_m199) rfl rfl ?_
  refine mw_ht (mu_fn_of (show [0, 1, 2].Nodup by decide)) ?_
  refine mw_go mu_g199 (k := 2) (f1 := (4, [(0, .inr (.inr (some 91))), (1, .inl (nI p)), (2, .inl (nI i))], [.inr (.inr (mu_r H 91 3))], H)) (C := [mu_is H (some 91) 3]) rfl (show mu_is H (some 91) 3 from h.1.is rfl) ?_
  rw [h.2.2.2]
  refine mw_go mu_g199 (k := 1) (f1 := (7, [(0, .inr (.inr (some 91))), (1, .inl (nI p)), (2, .inl (nI i))], [.inr (.inr (mu_r H m 0))], H)) (C := [mu_is H (some m) 6]) rfl (show mu_is H (some m) 6 from (show mu_is H (some m) 6 from gi_im h.1 h.2.1)) ?_
  rw [(show mu_r H m 0 = some (m + 1) from (gi_mr h.1 h.2.1 (j := 0) (by decide)).trans (congrArg some (by omega)))]
  refine mw_go mu_g199 (k := 2) (f1 := (9, [(0, .inr (.inr (some 91))), (1, .inl (nI p)), (2, .inl (nI i))], [.inl (1 : Int32), .inl (nI p), .inr (.inr (some (m + 1)))], H)) (C := []) rfl trivial ?_
  refine mw_cIe (fun _ => rfl) (show mu_is H (some (m + 1)) 10 from (h.1.w (md_w0 h.2.1)).1) (dm.getr (d := (d + 1)) h rfl (j := 0) (by decide) rfl (nI p) (c := 1) (by decide)) ?_
  rw [show (tget ((ak m H) 0) (nI p) 1) = ((W 0).2 p 1) from (tget_nI (by omega)).trans (by rw [hj.1 0 (by decide) (by decide) (by decide)])]
  refine mw_go mu_g199 (k := 3) (f1 := (17, [(3, .inl ((W 0).2 p 1)), (0, .inr (.inr (some 91))), (1, .inl (nI p)), (2, .inl (nI i))], [.inr (.inr (mu_r H 91 3))], H)) (C := [mu_is H (some 91) 3]) rfl (show mu_is H (some 91) 3 from h.1.is rfl) ?_
  rw [h.2.2.2]
  refine mw_go mu_g199 (k := 1) (f1 := (20, [(3, .inl ((W 0).2 p 1)), (0, .inr (.inr (some 91))), (1, .inl (nI p)), (2, .inl (nI i))], [.inr (.inr (mu_r H m 0))], H)) (C := [mu_is H (some m) 6]) rfl (show mu_is H (some m) 6 from (show mu_is H (some m) 6 from gi_im h.1 h.2.1)) ?_
  rw [(show mu_r H m 0 = some (m + 1) from (gi_mr h.1 h.2.1 (j := 0) (by decide)).trans (congrArg some (by omega)))]
  refine mw_go mu_g199 (k := 2) (f1 := (22, [(3, .inl ((W 0).2 p 1)), (0, .inr (.inr (some 91))), (1, .inl (nI p)), (2, .inl (nI i))], [.inl (0 : Int32), .inl (nI p), .inr (.inr (some (m + 1)))], H)) (C := []) rfl trivial ?_
  refine mw_cIe (fun _ => rfl) (show mu_is H (some (m + 1)) 10 from (h.1.w (md_w0 h.2.1)).1) (dm.getr (d := (d + 1)) h rfl (j := 0) (by decide) rfl (nI p) (c := 0) (by decide)) ?_
  rw [show (tget ((ak m H) 0) (nI p) 0) = ((W 0).2 p 0) from (tget_nI (by omega)).trans (by rw [hj.1 0 (by decide) (by decide) (by decide)])]
  refine mw_go mu_g199 (k := 1) (f1 := (26, [(3, .inl ((W 0).2 p 1)), (0, .inr (.inr (some 91))), (1, .inl (nI p)), (2, .inl (nI i))], [.inl (2 : Int32), .inl ((W 0).2 p 0)], H)) (C := []) rfl trivial ?_
  refine mw_if (P := ((W 0).2 p 0) = (2 : Int32)) (a := 47) (b := 29) (fun _ => rfl) trivial (fun h3 => ?_) (fun h3 => ?_)
  · -- 47: ((W 0).2 p 0) = (2 : Int32)
    obtain ⟨r, er, hr1, hr2⟩ := hrg.2.2.2 p hp1 hp2 (Or.inl h3)
    refine mw_go mu_g199 (k := 2) (f1 := (51, [(3, .inl ((W 0).2 p 1)), (0, .inr (.inr (some 91))), (1, .inl (nI p)), (2, .inl (nI i))], [.inr (.inr (mu_r H 91 3))], H)) (C := [mu_is H (some 91) 3]) rfl (show mu_is H (some 91) 3 from h.1.is rfl) ?_
    rw [h.2.2.2]
    refine mw_go mu_g199 (k := 1) (f1 := (54, [(3, .inl ((W 0).2 p 1)), (0, .inr (.inr (some 91))), (1, .inl (nI p)), (2, .inl (nI i))], [.inr (.inr (mu_r H m 9))], H)) (C := [mu_is H (some m) 6]) rfl (show mu_is H (some m) 6 from (show mu_is H (some m) 6 from gi_im h.1 h.2.1)) ?_
    rw [(show mu_r H m 9 = some (m + 19) from (gi_mr h.1 h.2.1 (j := 9) (by decide)).trans (congrArg some (by omega)))]
    refine mw_go mu_g199 (k := 2) (f1 := (56, [(3, .inl ((W 0).2 p 1)), (0, .inr (.inr (some 91))), (1, .inl (nI p)), (2, .inl (nI i))], [.inl (2 : Int32), .inl ((W 0).2 p 1), .inr (.inr (some (m + 19)))], H)) (C := []) rfl trivial ?_
    refine mw_cIe (fun _ => rfl) (show mu_is H (some (m + 19)) 10 from (h.1.w (md_w9 h.2.1)).1) (dm.getr (d := (d + 1)) h rfl (j := 9) (by decide) rfl ((W 0).2 p 1) (c := 2) (by decide)) ?_
    rw [show (tget ((ak m H) 9) ((W 0).2 p 1) 2) = ((W 9).2 r 2) from (by rw [er]; exact (tget_nI (by omega)).trans (by rw [hj.1 9 (by decide) (by decide) (by decide)]))]
    refine mw_go mu_g199 (k := 3) (f1 := (64, [(4, .inl ((W 9).2 r 2)), (3, .inl ((W 0).2 p 1)), (0, .inr (.inr (some 91))), (1, .inl (nI p)), (2, .inl (nI i))], [.inl (1 : Int32), .inl ((W 9).2 r 2)], H)) (C := []) rfl trivial ?_
    refine mw_if (P := ((W 9).2 r 2) = (1 : Int32)) (a := 73) (b := 67) (fun _ => rfl) trivial (fun h5 => ?_) (fun h5 => ?_)
    · -- 73: ((W 9).2 r 2) = (1 : Int32)
      refine mw_go mu_g199 (k := 2) (f1 := (77, [(4, .inl ((W 9).2 r 2)), (3, .inl ((W 0).2 p 1)), (0, .inr (.inr (some 91))), (1, .inl (nI p)), (2, .inl (nI i))], [.inr (.inr (mu_r H 91 3))], H)) (C := [mu_is H (some 91) 3]) rfl (show mu_is H (some 91) 3 from h.1.is rfl) ?_
      rw [h.2.2.2]
      refine mw_go mu_g199 (k := 2) (f1 := (79, [(4, .inl ((W 9).2 r 2)), (3, .inl ((W 0).2 p 1)), (0, .inr (.inr (some 91))), (1, .inl (nI p)), (2, .inl (nI i))], [.inl (nI i), .inl ((W 0).2 p 1), .inr (.inr (some m))], H)) (C := []) rfl trivial ?_
      rw [er]
      refine mw_cI (fun _ => rfl) (show mu_is H (some m) 6 from (show mu_is H (some m) 6 from gi_im h.1 h.2.1)) (md_reach2 (d := d) h hj hW hi hr1 hr2) (fun x6 H6 q6 => ?_)
      obtain ⟨rfl, qr6⟩ := q6
      refine mw_go mu_g199 (k := 1) (f1 := (86, [(4, .inl ((W 9).2 r 2)), (3, .inl (nI r)), (0, .inr (.inr (some 91))), (1, .inl (nI p)), (2, .inl (nI i))], [.inl x6], H)) (C := []) rfl trivial ?_
      exact mw_of (fun _ => mu_ret rfl trivial ⟨_, _, rfl, Or.inr (by rcases qr6 with z | ⟨z, -⟩ | ⟨-, -, e, z1, z2⟩; exact absurd (h5.symm.trans z) (by decide); exact absurd (h5.symm.trans z) (by decide); exact ⟨e, z1, z2, rfl⟩)⟩)
    · -- 67: not ((W 9).2 r 2) = (1 : Int32)
      refine mw_go mu_g199 (k := 2) (f1 := (70, [(4, .inl ((W 9).2 r 2)), (3, .inl ((W 0).2 p 1)), (0, .inr (.inr (some 91))), (1, .inl (nI p)), (2, .inl (nI i))], [.inl (2 : Int32), .inl ((W 9).2 r 2)], H)) (C := []) rfl trivial ?_
      refine mw_if (P := ((W 9).2 r 2) = (2 : Int32)) (a := 73) (b := 85) (fun _ => rfl) trivial (fun h7 => ?_) (fun h7 => ?_)
      · -- 73: ((W 9).2 r 2) = (2 : Int32)
        refine mw_go mu_g199 (k := 2) (f1 := (77, [(4, .inl ((W 9).2 r 2)), (3, .inl ((W 0).2 p 1)), (0, .inr (.inr (some 91))), (1, .inl (nI p)), (2, .inl (nI i))], [.inr (.inr (mu_r H 91 3))], H)) (C := [mu_is H (some 91) 3]) rfl (show mu_is H (some 91) 3 from h.1.is rfl) ?_
        rw [h.2.2.2]
        refine mw_go mu_g199 (k := 2) (f1 := (79, [(4, .inl ((W 9).2 r 2)), (3, .inl ((W 0).2 p 1)), (0, .inr (.inr (some 91))), (1, .inl (nI p)), (2, .inl (nI i))], [.inl (nI i), .inl ((W 0).2 p 1), .inr (.inr (some m))], H)) (C := []) rfl trivial ?_
        rw [er]
        refine mw_cI (fun _ => rfl) (show mu_is H (some m) 6 from (show mu_is H (some m) 6 from gi_im h.1 h.2.1)) (md_reach2 (d := d) h hj hW hi hr1 hr2) (fun x8 H8 q8 => ?_)
        obtain ⟨rfl, qr8⟩ := q8
        refine mw_go mu_g199 (k := 1) (f1 := (86, [(4, .inl ((W 9).2 r 2)), (3, .inl (nI r)), (0, .inr (.inr (some 91))), (1, .inl (nI p)), (2, .inl (nI i))], [.inl x8], H)) (C := []) rfl trivial ?_
        exact mw_of (fun _ => mu_ret rfl trivial ⟨_, _, rfl, Or.inr (by rcases qr8 with z | ⟨z, -⟩ | ⟨-, -, e, z1, z2⟩; exact absurd (h7.symm.trans z) (by decide); exact absurd (h7.symm.trans z) (by decide); exact ⟨e, z1, z2, rfl⟩)⟩)
      · -- 85: not ((W 9).2 r 2) = (2 : Int32)
        refine mw_go mu_g199 (k := 1) (f1 := (86, [(4, .inl ((W 9).2 r 2)), (3, .inl ((W 0).2 p 1)), (0, .inr (.inr (some 91))), (1, .inl (nI p)), (2, .inl (nI i))], [.inl (-1 : Int32)], H)) (C := []) rfl trivial ?_
        exact mw_of (fun _ => mu_ret rfl trivial ⟨_, _, rfl, Or.inl ⟨rfl, rfl⟩⟩)
  · -- 29: not ((W 0).2 p 0) = (2 : Int32)
    refine mw_go mu_g199 (k := 2) (f1 := (33, [(3, .inl ((W 0).2 p 1)), (0, .inr (.inr (some 91))), (1, .inl (nI p)), (2, .inl (nI i))], [.inr (.inr (mu_r H 91 3))], H)) (C := [mu_is H (some 91) 3]) rfl (show mu_is H (some 91) 3 from h.1.is rfl) ?_
    rw [h.2.2.2]
    refine mw_go mu_g199 (k := 1) (f1 := (36, [(3, .inl ((W 0).2 p 1)), (0, .inr (.inr (some 91))), (1, .inl (nI p)), (2, .inl (nI i))], [.inr (.inr (mu_r H m 0))], H)) (C := [mu_is H (some m) 6]) rfl (show mu_is H (some m) 6 from (show mu_is H (some m) 6 from gi_im h.1 h.2.1)) ?_
    rw [(show mu_r H m 0 = some (m + 1) from (gi_mr h.1 h.2.1 (j := 0) (by decide)).trans (congrArg some (by omega)))]
    refine mw_go mu_g199 (k := 2) (f1 := (38, [(3, .inl ((W 0).2 p 1)), (0, .inr (.inr (some 91))), (1, .inl (nI p)), (2, .inl (nI i))], [.inl (0 : Int32), .inl (nI p), .inr (.inr (some (m + 1)))], H)) (C := []) rfl trivial ?_
    refine mw_cIe (fun _ => rfl) (show mu_is H (some (m + 1)) 10 from (h.1.w (md_w0 h.2.1)).1) (dm.getr (d := (d + 1)) h rfl (j := 0) (by decide) rfl (nI p) (c := 0) (by decide)) ?_
    rw [show (tget ((ak m H) 0) (nI p) 0) = ((W 0).2 p 0) from (tget_nI (by omega)).trans (by rw [hj.1 0 (by decide) (by decide) (by decide)])]
    refine mw_go mu_g199 (k := 1) (f1 := (42, [(3, .inl ((W 0).2 p 1)), (0, .inr (.inr (some 91))), (1, .inl (nI p)), (2, .inl (nI i))], [.inl (3 : Int32), .inl ((W 0).2 p 0)], H)) (C := []) rfl trivial ?_
    refine mw_if (P := ((W 0).2 p 0) = (3 : Int32)) (a := 47) (b := 45) (fun _ => rfl) trivial (fun h10 => ?_) (fun h10 => ?_)
    · -- 47: ((W 0).2 p 0) = (3 : Int32)
      obtain ⟨r, er, hr1, hr2⟩ := hrg.2.2.2 p hp1 hp2 (Or.inr h10)
      refine mw_go mu_g199 (k := 2) (f1 := (51, [(3, .inl ((W 0).2 p 1)), (0, .inr (.inr (some 91))), (1, .inl (nI p)), (2, .inl (nI i))], [.inr (.inr (mu_r H 91 3))], H)) (C := [mu_is H (some 91) 3]) rfl (show mu_is H (some 91) 3 from h.1.is rfl) ?_
      rw [h.2.2.2]
      refine mw_go mu_g199 (k := 1) (f1 := (54, [(3, .inl ((W 0).2 p 1)), (0, .inr (.inr (some 91))), (1, .inl (nI p)), (2, .inl (nI i))], [.inr (.inr (mu_r H m 9))], H)) (C := [mu_is H (some m) 6]) rfl (show mu_is H (some m) 6 from (show mu_is H (some m) 6 from gi_im h.1 h.2.1)) ?_
      rw [(show mu_r H m 9 = some (m + 19) from (gi_mr h.1 h.2.1 (j := 9) (by decide)).trans (congrArg some (by omega)))]
      refine mw_go mu_g199 (k := 2) (f1 := (56, [(3, .inl ((W 0).2 p 1)), (0, .inr (.inr (some 91))), (1, .inl (nI p)), (2, .inl (nI i))], [.inl (2 : Int32), .inl ((W 0).2 p 1), .inr (.inr (some (m + 19)))], H)) (C := []) rfl trivial ?_
      refine mw_cIe (fun _ => rfl) (show mu_is H (some (m + 19)) 10 from (h.1.w (md_w9 h.2.1)).1) (dm.getr (d := (d + 1)) h rfl (j := 9) (by decide) rfl ((W 0).2 p 1) (c := 2) (by decide)) ?_
      rw [show (tget ((ak m H) 9) ((W 0).2 p 1) 2) = ((W 9).2 r 2) from (by rw [er]; exact (tget_nI (by omega)).trans (by rw [hj.1 9 (by decide) (by decide) (by decide)]))]
      refine mw_go mu_g199 (k := 3) (f1 := (64, [(4, .inl ((W 9).2 r 2)), (3, .inl ((W 0).2 p 1)), (0, .inr (.inr (some 91))), (1, .inl (nI p)), (2, .inl (nI i))], [.inl (1 : Int32), .inl ((W 9).2 r 2)], H)) (C := []) rfl trivial ?_
      refine mw_if (P := ((W 9).2 r 2) = (1 : Int32)) (a := 73) (b := 67) (fun _ => rfl) trivial (fun h12 => ?_) (fun h12 => ?_)
      · -- 73: ((W 9).2 r 2) = (1 : Int32)
        refine mw_go mu_g199 (k := 2) (f1 := (77, [(4, .inl ((W 9).2 r 2)), (3, .inl ((W 0).2 p 1)), (0, .inr (.inr (some 91))), (1, .inl (nI p)), (2, .inl (nI i))], [.inr (.inr (mu_r H 91 3))], H)) (C := [mu_is H (some 91) 3]) rfl (show mu_is H (some 91) 3 from h.1.is rfl) ?_
        rw [h.2.2.2]
        refine mw_go mu_g199 (k := 2) (f1 := (79, [(4, .inl ((W 9).2 r 2)), (3, .inl ((W 0).2 p 1)), (0, .inr (.inr (some 91))), (1, .inl (nI p)), (2, .inl (nI i))], [.inl (nI i), .inl ((W 0).2 p 1), .inr (.inr (some m))], H)) (C := []) rfl trivial ?_
        rw [er]
        refine mw_cI (fun _ => rfl) (show mu_is H (some m) 6 from (show mu_is H (some m) 6 from gi_im h.1 h.2.1)) (md_reach2 (d := d) h hj hW hi hr1 hr2) (fun x13 H13 q13 => ?_)
        obtain ⟨rfl, qr13⟩ := q13
        refine mw_go mu_g199 (k := 1) (f1 := (86, [(4, .inl ((W 9).2 r 2)), (3, .inl (nI r)), (0, .inr (.inr (some 91))), (1, .inl (nI p)), (2, .inl (nI i))], [.inl x13], H)) (C := []) rfl trivial ?_
        exact mw_of (fun _ => mu_ret rfl trivial ⟨_, _, rfl, Or.inr (by rcases qr13 with z | ⟨z, -⟩ | ⟨-, -, e, z1, z2⟩; exact absurd (h12.symm.trans z) (by decide); exact absurd (h12.symm.trans z) (by decide); exact ⟨e, z1, z2, rfl⟩)⟩)
      · -- 67: not ((W 9).2 r 2) = (1 : Int32)
        refine mw_go mu_g199 (k := 2) (f1 := (70, [(4, .inl ((W 9).2 r 2)), (3, .inl ((W 0).2 p 1)), (0, .inr (.inr (some 91))), (1, .inl (nI p)), (2, .inl (nI i))], [.inl (2 : Int32), .inl ((W 9).2 r 2)], H)) (C := []) rfl trivial ?_
        refine mw_if (P := ((W 9).2 r 2) = (2 : Int32)) (a := 73) (b := 85) (fun _ => rfl) trivial (fun h14 => ?_) (fun h14 => ?_)
        · -- 73: ((W 9).2 r 2) = (2 : Int32)
          refine mw_go mu_g199 (k := 2) (f1 := (77, [(4, .inl ((W 9).2 r 2)), (3, .inl ((W 0).2 p 1)), (0, .inr (.inr (some 91))), (1, .inl (nI p)), (2, .inl (nI i))], [.inr (.inr (mu_r H 91 3))], H)) (C := [mu_is H (some 91) 3]) rfl (show mu_is H (some 91) 3 from h.1.is rfl) ?_
          rw [h.2.2.2]
          refine mw_go mu_g199 (k := 2) (f1 := (79, [(4, .inl ((W 9).2 r 2)), (3, .inl ((W 0).2 p 1)), (0, .inr (.inr (some 91))), (1, .inl (nI p)), (2, .inl (nI i))], [.inl (nI i), .inl ((W 0).2 p 1), .inr (.inr (some m))], H)) (C := []) rfl trivial ?_
          rw [er]
          refine mw_cI (fun _ => rfl) (show mu_is H (some m) 6 from (show mu_is H (some m) 6 from gi_im h.1 h.2.1)) (md_reach2 (d := d) h hj hW hi hr1 hr2) (fun x15 H15 q15 => ?_)
          obtain ⟨rfl, qr15⟩ := q15
          refine mw_go mu_g199 (k := 1) (f1 := (86, [(4, .inl ((W 9).2 r 2)), (3, .inl (nI r)), (0, .inr (.inr (some 91))), (1, .inl (nI p)), (2, .inl (nI i))], [.inl x15], H)) (C := []) rfl trivial ?_
          exact mw_of (fun _ => mu_ret rfl trivial ⟨_, _, rfl, Or.inr (by rcases qr15 with z | ⟨z, -⟩ | ⟨-, -, e, z1, z2⟩; exact absurd (h14.symm.trans z) (by decide); exact absurd (h14.symm.trans z) (by decide); exact ⟨e, z1, z2, rfl⟩)⟩)
        · -- 85: not ((W 9).2 r 2) = (2 : Int32)
          refine mw_go mu_g199 (k := 1) (f1 := (86, [(4, .inl ((W 9).2 r 2)), (3, .inl ((W 0).2 p 1)), (0, .inr (.inr (some 91))), (1, .inl (nI p)), (2, .inl (nI i))], [.inl (-1 : Int32)], H)) (C := []) rfl trivial ?_
          exact mw_of (fun _ => mu_ret rfl trivial ⟨_, _, rfl, Or.inl ⟨rfl, rfl⟩⟩)
    · -- 45: not ((W 0).2 p 0) = (3 : Int32)
      refine mw_go mu_g199 (k := 1) (f1 := (46, [(3, .inl ((W 0).2 p 1)), (0, .inr (.inr (some 91))), (1, .inl (nI p)), (2, .inl (nI i))], [.inl (-1 : Int32)], H)) (C := []) rfl trivial ?_
      exact mw_of (fun _ => mu_ret rfl trivial ⟨_, _, rfl, Or.inl ⟨rfl, rfl⟩⟩)
end Reach2
