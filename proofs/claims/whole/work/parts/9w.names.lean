/-! SOUND AS DATA: what NAMES mean -/
/-- what looking up NAMES leaves as it is -/
def kz (Z s : Ts) : Prop := (∀ j, j ≠ 9 → j ≠ 10 → s j = Z j) ∧ (s 9).1 = (Z 9).1 ∧ (∀ i c, c < 2 → (s 9).2 i c = (Z 9).2 i c) ∧ (s 10).1 = (Z 10).1
/-- n steps lead from a MODULE to another -/
def wk (Z : Ts) (st : Tb) (k a : Nat) : Nat → Nat → Prop
  | 0, q => q = k
  | n + 1, q => ∃ q' v, wk Z st k a n q' ∧ q' < (Z 1).1 ∧ (sp Z q' 2 ≤ v ∧ v < sp Z (q' + 1) 2) ∧ (Z 3).2 v 1 = 3 ∧ st.2 (a + n) 0 = nI (v - sp Z q' 2) ∧ (Z 3).2 v 4 = nI q
/-- what NAMES stand for, by their kind -/
def kn (Z : Ts) (q : Nat) (kd tg : Int32) : Prop := kd = 5 ∨ (kd = 3 ∧ ∃ v, tg = nI (v - sp Z q 2) ∧ (sp Z q 2 ≤ v ∧ v < sp Z (q + 1) 2) ∧ ¬ (Z 3).2 v 1 = 3) ∨ (kd = 2 ∧ ∃ v, tg = nI (v - sp Z q 3) ∧ sp Z q 3 ≤ v ∧ v < sp Z (q + 1) 3) ∨ (kd = 1 ∧ ∃ v, tg = nI (v - sp Z q 1) ∧ sp Z q 1 ≤ v ∧ v < sp Z (q + 1) 1)
def KN (Z s : Ts) (k r : Nat) : Prop := ∃ a l q, (Z 9).2 r 0 = nI a ∧ (Z 9).2 r 1 = nI l ∧ a + l ≤ (Z 10).1 ∧ q < (Z 1).1 ∧ wk Z (s 10) k a (l - 1) q ∧ kn Z q ((s 9).2 r 2) ((s 9).2 r 3)
def RF (Z : Ts) : Prop := ∀ r, r < (Z 9).1 → ∃ a l, (Z 9).2 r 0 = nI a ∧ (Z 9).2 r 1 = nI l ∧ a + l ≤ (Z 10).1 ∧ ∀ r', r < r' → r' < (Z 9).1 → a + l ≤ ((Z 9).2 r' 0).toNatClampNeg
def KZ (Z : Ts) : Prop := Cm Z ∧ VMs Z ∧ MB Z ∧ (∀ j, j < 11 → (Z j).1 ≤ 67108864) ∧ RF Z
section Names
variable {Z s s' : Ts} {k a l n q w r : Nat} {row y kd tg : Int32} {m : Nat} {H H1 : mu_H}
theorem kz.set9 (h : kz Z s) {c : Nat} (hc : 2 ≤ c) : kz Z (ax 9 s row c y) := ⟨fun j h9 h10 => (ax_ne h9).trans (h.1 j h9 h10), by rw [ax_n]; exact h.2.1, fun i c' hc' => (ax_c (fun _ _ => by omega)).trans (h.2.2.1 i c' hc'), by rw [ax_n]; exact h.2.2.2⟩
theorem kz.set10 (h : kz Z s) {c : Nat} : kz Z (ax 10 s row c y) := ⟨fun j h9 h10 => (ax_ne h10).trans (h.1 j h9 h10), by rw [ax_n]; exact h.2.1, fun i c' hc' => (ax_c (fun z => absurd z (by decide))).trans (h.2.2.1 i c' hc'), by rw [ax_n]; exact h.2.2.2⟩
theorem kz.spc (h : kz Z s) {c : Nat} (hc : c ≤ 5) : sp s k c = sp Z k c := by
  have h1 : tabc c ≠ 9 ∧ tabc c ≠ 10 := (show ∀ c, c ≤ 5 → tabc c ≠ 9 ∧ tabc c ≠ 10 by decide) c hc
  unfold sp
  rw [h.1 1 (by decide) (by decide), h.1 _ h1.1 h1.2]
theorem kz.start (h : kz Z s) (hZ : KZ Z) {c : Nat} (hk : k < (Z 1).1) (h1 : 1 ≤ c) (h6 : c ≤ 6) : tget (s 1) (nI k) c = nI (sp Z k c) := by
  have hb := hZ.2.2.2.1 1 (by decide)
  rw [tget_nI (by omega), h.1 1 (by decide) (by decide)]
  exact (hZ.1 k hk c h1 h6).1
theorem kz.stop6 (h : kz Z s) (hZ : KZ Z) (hk : k < (Z 1).1) : stp s (nI k) 6 9 = nI (sp Z (k + 1) 6) := by
  have hb := hZ.2.2.2.1 1 (by decide)
  have := sp_stp hZ.1 hk hb (c := 6) (j := 9) (by decide) (by decide) rfl
  unfold stp at this ⊢
  rw [h.1 1 (by decide) (by decide), h.2.1]
  exact this
theorem KZ.le (hZ : KZ Z) (hk : k < (Z 1).1) {c j : Nat} (h1 : 1 ≤ c) (h6 : c ≤ 6) (hj : tabc c = j) : sp Z k c ≤ sp Z (k + 1) c ∧ sp Z (k + 1) c ≤ (Z j).1 ∧ (Z j).1 ≤ 67108864 := by
  have ht := tabc_lt h6
  rw [← hj]
  exact ⟨(hZ.1 k hk c h1 h6).2.1, (hZ.1 k hk c h1 h6).2.2, hZ.2.2.2.1 _ ht⟩
theorem wk_congr {st st' : Tb} : ∀ {n q : Nat}, (∀ p, a ≤ p → p < a + n → st'.2 p 0 = st.2 p 0) → wk Z st k a n q → wk Z st' k a n q
  | 0, _, _, h => h
  | n + 1, q, hs, h => by
    obtain ⟨q', v, h1, h2, h3, h4, h5, h6⟩ := h
    exact ⟨q', v, wk_congr (fun p a1 a2 => hs p a1 (by omega)) h1, h2, h3, h4, by rw [hs (a + n) (by omega) (by omega)]; exact h5, h6⟩
theorem KN.keep (h : KN Z s k r) (hr : r ≠ w) (hw : (Z 9).2 w 0 = nI a) (ha : a < 2147483648) (hlt : r < w) (hwn : w < (Z 9).1) (hZ : RF Z) (hb : (Z 10).1 ≤ 67108864) (e9 : ∀ r q, r ≠ w → (s' 9).2 r q = (s 9).2 r q) (e10 : ∀ p, ¬ (a ≤ p ∧ p < a + l) → (s' 10).2 p 0 = (s 10).2 p 0) : KN Z s' k r := by
  obtain ⟨a', l', q, h1, h2, h3, h4, h5, h6⟩ := h
  obtain ⟨x, y, x1, x2, x3, x4⟩ := hZ r (by omega)
  have hx : x = a' := nI_inj (by omega) (by omega) (x1.symm.trans h1)
  have hy : y = l' := nI_inj (by omega) (by omega) (x2.symm.trans h2)
  subst hx hy
  have hd := x4 w hlt hwn
  rw [hw, nI_clamp ha] at hd
  exact ⟨x, y, q, h1, h2, h3, h4, wk_congr (fun p p1 p2 => e10 p (by omega)) h5, by rw [e9 r 2 hr, e9 r 3 hr]; exact h6⟩
theorem lt_last {y l : Nat} (hl : l < 2147483648) (hy : y < 2147483648) (h : nI y < nI l - 1) : y < l - 1 := by
  cases l with
  | zero =>
    exfalso
    have e : nI 0 - 1 = (-1 : Int32) := by decide
    rw [e] at h
    have h2 := Int32.lt_iff_toInt_lt.mp h
    rw [nI_toInt hy] at h2
    have : (-1 : Int32).toInt = -1 := by decide
    omega
  | succ n =>
    rw [nI_pred] at h
    have := (nI_ltI hy (by omega)).mp h
    omega
theorem ge_last {y l : Nat} (hl : l < 2147483648) (h : ¬ nI y < nI l - 1) : l - 1 ≤ y := by
  cases l with
  | zero => omega
  | succ n =>
    rw [nI_pred] at h
    refine Nat.le_of_not_lt (fun z => h (nI_lt (by omega) (by omega)))
theorem MC.same (h : MC (ak m H 19) H) (e : ak m H1 19 = ak m H 19) (h95 : ∀ i, mu_i H1 95 i = mu_i H 95 i) : MC (ak m H1 19) H1 := by
  rw [e]
  exact ⟨fun i hi => by rw [h95]; exact h.1 i hi, h.2⟩
end Names
section NamesKnown
variable {H : mu_H} {d m k w a l : Nat} {Z : Ts} {C : Nat → Nat}
theorem so_isKnown2 (h : dm m H) (hZ : KZ Z) (hk0 : kz Z (ak m H)) (hMC0 : MC (ak m H 19) H) (hkM : k < (Z 1).1) (hwN : w < (Z 9).1) (ha : (Z 9).2 w 0 = nI a) (hl : (Z 9).2 w 1 = nI l) (hal : a + l ≤ (Z 10).1) : mu_TI (mu_D (d + 3)) 173 [.inr (.inr (some 92)), .inl (nI k), .inl (nI w)] H (fun x H1 => (x = 0 ∨ x = 1) ∧ dm m H1 ∧ rl m C H H1 ∧ (∀ z, mu_i H1 95 z = mu_i H 95 z) ∧ kz Z (ak m H1) ∧ (∀ r q, r ≠ w → (ak m H1 9).2 r q = (ak m H 9).2 r q) ∧ (∀ p, ¬ (a ≤ p ∧ p < a + (l - 1)) → (ak m H1 10).2 p 0 = (ak m H 10).2 p 0) ∧ (x = 1 → KN Z (ak m H1) k w)) := by
  have b1 := hZ.2.2.2.1 1 (by decide)
  have b3 := hZ.2.2.2.1 3 (by decide)
  have b9 := hZ.2.2.2.1 9 (by decide)
  have b10 := hZ.2.2.2.1 10 (by decide)
  refine mu_meth (M := mu_m173) rfl rfl ?_
  refine mw_ht (mu_fn_of (show [0, 1, 2].Nodup by decide)) ?_
  refine mw_go mu_g173 (k := 4) (f1 := (6, [(3, .inl (nI k)), (0, .inr (.inr (some 92))), (1, .inl (nI k)), (2, .inl (nI w))], [.inr (.inr (mu_r H 92 2))], H)) (C := [mu_is H (some 92) 12]) rfl (show mu_is H (some 92) 12 from h.1.is rfl) ?_
  rw [h.2.2.1]
  refine mw_go mu_g173 (k := 1) (f1 := (9, [(3, .inl (nI k)), (0, .inr (.inr (some 92))), (1, .inl (nI k)), (2, .inl (nI w))], [.inr (.inr (mu_r H m 9))], H)) (C := [mu_is H (some m) 6]) rfl (show mu_is H (some m) 6 from (show mu_is H (some m) 6 from gi_im h.1 h.2.1)) ?_
  rw [(show mu_r H m 9 = some (m + 19) from (gi_mr h.1 h.2.1 (j := 9) (by decide)).trans (congrArg some (by omega)))]
  refine mw_go mu_g173 (k := 2) (f1 := (11, [(3, .inl (nI k)), (0, .inr (.inr (some 92))), (1, .inl (nI k)), (2, .inl (nI w))], [.inl (0 : Int32), .inl (nI w), .inr (.inr (some (m + 19)))], H)) (C := []) rfl trivial ?_
  refine mw_cIe (fun _ => rfl) (show mu_is H (some (m + 19)) 10 from (h.1.w (md_w9 h.2.1)).1) (dm.getr (d := (d + 1)) h rfl (j := 9) (by decide) rfl (nI w) (c := 0) (by decide)) ?_
  rw [show (tget ((ak m H) 9) (nI w) 0) = (nI a) from (tget_nI (by omega)).trans ((hk0.2.2.1 w 0 (by decide)).trans ha)]
  refine mw_go mu_g173 (k := 3) (f1 := (20, [(4, .inl (nI a)), (3, .inl (nI k)), (0, .inr (.inr (some 92))), (1, .inl (nI k)), (2, .inl (nI w))], [.inr (.inr (mu_r H 92 2))], H)) (C := [mu_is H (some 92) 12]) rfl (show mu_is H (some 92) 12 from h.1.is rfl) ?_
  rw [h.2.2.1]
  refine mw_go mu_g173 (k := 1) (f1 := (23, [(4, .inl (nI a)), (3, .inl (nI k)), (0, .inr (.inr (some 92))), (1, .inl (nI k)), (2, .inl (nI w))], [.inr (.inr (mu_r H m 9))], H)) (C := [mu_is H (some m) 6]) rfl (show mu_is H (some m) 6 from (show mu_is H (some m) 6 from gi_im h.1 h.2.1)) ?_
  rw [(show mu_r H m 9 = some (m + 19) from (gi_mr h.1 h.2.1 (j := 9) (by decide)).trans (congrArg some (by omega)))]
  refine mw_go mu_g173 (k := 2) (f1 := (25, [(4, .inl (nI a)), (3, .inl (nI k)), (0, .inr (.inr (some 92))), (1, .inl (nI k)), (2, .inl (nI w))], [.inl (1 : Int32), .inl (nI w), .inr (.inr (some (m + 19)))], H)) (C := []) rfl trivial ?_
  refine mw_cIe (fun _ => rfl) (show mu_is H (some (m + 19)) 10 from (h.1.w (md_w9 h.2.1)).1) (dm.getr (d := (d + 1)) h rfl (j := 9) (by decide) rfl (nI w) (c := 1) (by decide)) ?_
  rw [show (tget ((ak m H) 9) (nI w) 1) = (nI l) from (tget_nI (by omega)).trans ((hk0.2.2.1 w 1 (by decide)).trans hl)]
  refine mw_go mu_g173 (k := 5) (f1 := (35, [(6, .inl (0 : Int32)), (5, .inl ((nI l) - (1 : Int32))), (4, .inl (nI a)), (3, .inl (nI k)), (0, .inr (.inr (some 92))), (1, .inl (nI k)), (2, .inl (nI w))], [], H)) (C := []) rfl trivial ?_
  show mu_W _ _ (35, [(6, .inl (nI 0)), (5, .inl ((nI l) - (1 : Int32))), (4, .inl (nI a)), (3, .inl (nI k)), (0, .inr (.inr (some 92))), (1, .inl (nI k)), (2, .inl (nI w))], [], H) _
  refine mw_sub (L' := [(3, .inl (nI k)), (6, .inl (nI 0)), (0, .inr (.inr (some 92))), (1, .inl (nI k)), (2, .inl (nI w)), (4, .inl (nI a)), (5, .inl ((nI l) - (1 : Int32)))]) (by simp) ?_
  refine mw_down (α := Nat × Nat × mu_H) (fun zs => (35, [(3, .inl (nI zs.1)), (6, .inl (nI zs.2.1)), (0, .inr (.inr (some 92))), (1, .inl (nI k)), (2, .inl (nI w)), (4, .inl (nI a)), (5, .inl ((nI l) - (1 : Int32)))], [], zs.2.2)) (fun zs => l - 1 - zs.2.1) (fun zs => dm m zs.2.2 ∧ rl m C H zs.2.2 ∧ (zs.1 < (Z 1).1) ∧ (zs.2.1 ≤ l - 1) ∧ (kz Z (ak m zs.2.2)) ∧ (wk Z (ak m zs.2.2 10) k a zs.2.1 zs.1) ∧ (∀ p, ¬ (a ≤ p ∧ p < a + zs.2.1) → (ak m zs.2.2 10).2 p 0 = (ak m H 10).2 p 0) ∧ (ak m zs.2.2 9 = ak m H 9) ∧ (∀ z, mu_i zs.2.2 95 z = mu_i H 95 z) ∧ (MC (ak m zs.2.2 19) zs.2.2)) (fun zs hza iha => ?_) (k, 0, H) ⟨h, (rl.refl m C H), (show k < (Z 1).1 from hkM), (show 0 ≤ l - 1 from by omega), (show kz Z (ak m H) from hk0), (show wk Z (ak m H 10) k a 0 k from rfl), (show ∀ p, ¬ (a ≤ p ∧ p < a + 0) → (ak m H 10).2 p 0 = (ak m H 10).2 p 0 from (fun _ _ => rfl)), (show ak m H 9 = ak m H 9 from rfl), (show ∀ z, mu_i H 95 z = mu_i H 95 z from (fun _ => rfl)), (show MC (ak m H 19) H from hMC0)⟩
  obtain ⟨q, y, Hsa⟩ := zs
  obtain ⟨hpa, hta, hqM, hyl, hkz, hwk, hst, he9, h95, hMC⟩ := hza
  have hpa : dm m Hsa := hpa
  have hta : rl m C H Hsa := hta
  have hqM : q < (Z 1).1 := hqM
  have hyl : y ≤ l - 1 := hyl
  have hkz : kz Z (ak m Hsa) := hkz
  have hwk : wk Z (ak m Hsa 10) k a y q := hwk
  have hst : ∀ p, ¬ (a ≤ p ∧ p < a + y) → (ak m Hsa 10).2 p 0 = (ak m H 10).2 p 0 := hst
  have he9 : ak m Hsa 9 = ak m H 9 := he9
  have h95 : ∀ z, mu_i Hsa 95 z = mu_i H 95 z := h95
  have hMC : MC (ak m Hsa 19) Hsa := hMC
  show mu_W _ _ (35, [(3, .inl (nI q)), (6, .inl (nI y)), (0, .inr (.inr (some 92))), (1, .inl (nI k)), (2, .inl (nI w)), (4, .inl (nI a)), (5, .inl ((nI l) - (1 : Int32)))], [], Hsa) _
  refine mw_go mu_g173 (k := 2) (f1 := (39, [(3, .inl (nI q)), (6, .inl (nI y)), (0, .inr (.inr (some 92))), (1, .inl (nI k)), (2, .inl (nI w)), (4, .inl (nI a)), (5, .inl ((nI l) - (1 : Int32)))], [.inl ((nI l) - (1 : Int32)), .inl (nI y)], Hsa)) (C := []) rfl trivial ?_
  refine mw_if (P := (nI y) < ((nI l) - (1 : Int32))) (a := 42) (b := 136) (fun _ => rfl) trivial (fun h3 => ?_) (fun h3 => ?_)
  · -- 42: (nI y) < ((nI l) - (1 : Int32))
    have hyb : y < l - 1 := lt_last (by omega) (by omega) h3
    refine mw_go mu_g173 (k := 4) (f1 := (48, [(3, .inl (nI q)), (6, .inl (nI y)), (0, .inr (.inr (some 92))), (1, .inl (nI k)), (2, .inl (nI w)), (4, .inl (nI a)), (5, .inl ((nI l) - (1 : Int32)))], [.inr (.inr (mu_r Hsa 92 2)), .inl (nI q), .inr (.inr (some 92))], Hsa)) (C := [mu_is Hsa (some 92) 12]) rfl (show mu_is Hsa (some 92) 12 from hpa.1.is rfl) ?_
    rw [hpa.2.2.1]
    refine mw_go mu_g173 (k := 1) (f1 := (51, [(3, .inl (nI q)), (6, .inl (nI y)), (0, .inr (.inr (some 92))), (1, .inl (nI k)), (2, .inl (nI w)), (4, .inl (nI a)), (5, .inl ((nI l) - (1 : Int32)))], [.inr (.inr (mu_r Hsa m 10)), .inl (nI q), .inr (.inr (some 92))], Hsa)) (C := [mu_is Hsa (some m) 6]) rfl (show mu_is Hsa (some m) 6 from (show mu_is Hsa (some m) 6 from gi_im hpa.1 hpa.2.1)) ?_
    rw [(show mu_r Hsa m 10 = some (m + 21) from (gi_mr hpa.1 hpa.2.1 (j := 10) (by decide)).trans (congrArg some (by omega)))]
    refine mw_go mu_g173 (k := 4) (f1 := (57, [(3, .inl (nI q)), (6, .inl (nI y)), (0, .inr (.inr (some 92))), (1, .inl (nI k)), (2, .inl (nI w)), (4, .inl (nI a)), (5, .inl ((nI l) - (1 : Int32)))], [.inl (0 : Int32), .inl ((nI a) + (nI y)), .inr (.inr (some (m + 21))), .inl (nI q), .inr (.inr (some 92))], Hsa)) (C := []) rfl trivial ?_
    refine mw_cIe (fun _ => rfl) (show mu_is Hsa (some (m + 21)) 10 from (hpa.1.w (md_w10 hpa.2.1)).1) (dm.getr (d := (d + 1)) hpa rfl (j := 10) (by decide) rfl ((nI a) + (nI y)) (c := 0) (by decide)) ?_
    refine mw_cI (fun _ => rfl) (show mu_is Hsa (some 92) 12 from hpa.1.is rfl) (so_find2 (d := d) hpa rfl hMC (nI q) (tget ((ak m Hsa) 10) ((nI a) + (nI y)) 0)) (fun x5 H5 q5 => ?_)
    rcases q5 with ⟨rfl, rfl⟩ | ⟨r, hr, rfl, e0, e1, rfl⟩
    · -- (-1 : Int32)
      refine mw_go mu_g173 (k := 3) (f1 := (68, [(7, .inl (-1 : Int32)), (3, .inl (nI q)), (6, .inl (nI y)), (0, .inr (.inr (some 92))), (1, .inl (nI k)), (2, .inl (nI w)), (4, .inl (nI a)), (5, .inl ((nI l) - (1 : Int32)))], [.inl (-1 : Int32), .inr (.inr (some 92))], Hsa)) (C := []) rfl trivial ?_
      refine mw_cIe (fun _ => rfl) (show mu_is Hsa (some 92) 12 from hpa.1.is rfl) (so_kindOf2 (d := d) hpa rfl (-1 : Int32)) ?_
      rw [show kdo ((ak m Hsa) 19) (-1 : Int32) = (0 : Int32) from rfl]
      refine mw_go mu_g173 (k := 1) (f1 := (72, [(7, .inl (-1 : Int32)), (3, .inl (nI q)), (6, .inl (nI y)), (0, .inr (.inr (some 92))), (1, .inl (nI k)), (2, .inl (nI w)), (4, .inl (nI a)), (5, .inl ((nI l) - (1 : Int32)))], [.inl (4 : Int32), .inl (0 : Int32)], Hsa)) (C := []) rfl trivial ?_
      refine mw_if (P := (0 : Int32) = (4 : Int32)) (a := 77) (b := 75) (fun _ => rfl) trivial (fun h7 => absurd h7 (by decide)) (fun h7 => ?_)
      refine mw_go mu_g173 (k := 1) (f1 := (76, [(7, .inl (-1 : Int32)), (3, .inl (nI q)), (6, .inl (nI y)), (0, .inr (.inr (some 92))), (1, .inl (nI k)), (2, .inl (nI w)), (4, .inl (nI a)), (5, .inl ((nI l) - (1 : Int32)))], [.inl (0 : Int32)], Hsa)) (C := []) rfl trivial ?_
      exact mw_of (fun _ => mu_ret rfl (Or.inl rfl) ⟨_, Hsa, rfl, Or.inl rfl, hpa, hta, fun z => h95 z, hkz, fun r q hr => by rw [he9], fun p hp => hst p (by omega), fun z => absurd z (by decide)⟩)
    · -- (nI r)
      have hr6 : r < 67108864 := Nat.lt_of_lt_of_le hr (hpa.lt rfl (by decide))
      have hrZ : r < (Z 19).1 := by rw [← hkz.1 19 (by decide) (by decide)]; exact hr
      have e0Z : (Z 19).2 r 0 = nI q := by rw [← hkz.1 19 (by decide) (by decide)]; exact e0
      refine mw_go mu_g173 (k := 3) (f1 := (68, [(7, .inl (nI r)), (3, .inl (nI q)), (6, .inl (nI y)), (0, .inr (.inr (some 92))), (1, .inl (nI k)), (2, .inl (nI w)), (4, .inl (nI a)), (5, .inl ((nI l) - (1 : Int32)))], [.inl (nI r), .inr (.inr (some 92))], Hsa)) (C := []) rfl trivial ?_
      refine mw_cIe (fun _ => rfl) (show mu_is Hsa (some 92) 12 from hpa.1.is rfl) (so_kindOf2 (d := d) hpa rfl (nI r)) ?_
      rw [show kdo ((ak m Hsa) 19) (nI r) = (Z 19).2 r 2 from (if_neg (nI_pos (by omega))).trans ((tget_nI (by omega)).trans (by rw [hkz.1 19 (by decide) (by decide)]))]
      refine mw_go mu_g173 (k := 1) (f1 := (72, [(7, .inl (nI r)), (3, .inl (nI q)), (6, .inl (nI y)), (0, .inr (.inr (some 92))), (1, .inl (nI k)), (2, .inl (nI w)), (4, .inl (nI a)), (5, .inl ((nI l) - (1 : Int32)))], [.inl (4 : Int32), .inl ((Z 19).2 r 2)], Hsa)) (C := []) rfl trivial ?_
      refine mw_if (P := ((Z 19).2 r 2) = (4 : Int32)) (a := 77) (b := 75) (fun _ => rfl) trivial (fun h9 => ?_) (fun h9 => ?_)
      · -- 77: ((Z 19).2 r 2) = (4 : Int32)
        refine mw_go mu_g173 (k := 2) (f1 := (80, [(7, .inl (nI r)), (3, .inl (nI q)), (6, .inl (nI y)), (0, .inr (.inr (some 92))), (1, .inl (nI k)), (2, .inl (nI w)), (4, .inl (nI a)), (5, .inl ((nI l) - (1 : Int32)))], [.inl (nI r), .inr (.inr (some 92))], Hsa)) (C := []) rfl trivial ?_
        refine mw_cIe (fun _ => rfl) (show mu_is Hsa (some 92) 12 from hpa.1.is rfl) (so_rowOf2 (d := d) hpa rfl (nI r)) ?_
        obtain ⟨vv, ev, hv1, hv2, hv3⟩ := ((hZ.2.2.1 r hrZ).2 q hqM e0Z).2.2.2 h9
        rw [show rwo ((ak m Hsa) 19) (nI r) = nI vv from (if_neg (nI_pos (by omega))).trans ((tget_nI (by omega)).trans (by rw [hkz.1 19 (by decide) (by decide)]; exact ev))]
        refine mw_go mu_g173 (k := 3) (f1 := (89, [(8, .inl (nI vv)), (7, .inl (nI r)), (3, .inl (nI q)), (6, .inl (nI y)), (0, .inr (.inr (some 92))), (1, .inl (nI k)), (2, .inl (nI w)), (4, .inl (nI a)), (5, .inl ((nI l) - (1 : Int32)))], [.inr (.inr (mu_r Hsa 92 2))], Hsa)) (C := [mu_is Hsa (some 92) 12]) rfl (show mu_is Hsa (some 92) 12 from hpa.1.is rfl) ?_
        rw [hpa.2.2.1]
        refine mw_go mu_g173 (k := 1) (f1 := (92, [(8, .inl (nI vv)), (7, .inl (nI r)), (3, .inl (nI q)), (6, .inl (nI y)), (0, .inr (.inr (some 92))), (1, .inl (nI k)), (2, .inl (nI w)), (4, .inl (nI a)), (5, .inl ((nI l) - (1 : Int32)))], [.inr (.inr (mu_r Hsa m 10))], Hsa)) (C := [mu_is Hsa (some m) 6]) rfl (show mu_is Hsa (some m) 6 from (show mu_is Hsa (some m) 6 from gi_im hpa.1 hpa.2.1)) ?_
        rw [(show mu_r Hsa m 10 = some (m + 21) from (gi_mr hpa.1 hpa.2.1 (j := 10) (by decide)).trans (congrArg some (by omega)))]
        refine mw_go mu_g173 (k := 7) (f1 := (104, [(8, .inl (nI vv)), (7, .inl (nI r)), (3, .inl (nI q)), (6, .inl (nI y)), (0, .inr (.inr (some 92))), (1, .inl (nI k)), (2, .inl (nI w)), (4, .inl (nI a)), (5, .inl ((nI l) - (1 : Int32)))], [.inr (.inr (mu_r Hsa 92 2)), .inl (nI vv), .inl (0 : Int32), .inl ((nI a) + (nI y)), .inr (.inr (some (m + 21)))], Hsa)) (C := [mu_is Hsa (some 92) 12]) rfl (show mu_is Hsa (some 92) 12 from hpa.1.is rfl) ?_
        rw [hpa.2.2.1]
        refine mw_go mu_g173 (k := 1) (f1 := (107, [(8, .inl (nI vv)), (7, .inl (nI r)), (3, .inl (nI q)), (6, .inl (nI y)), (0, .inr (.inr (some 92))), (1, .inl (nI k)), (2, .inl (nI w)), (4, .inl (nI a)), (5, .inl ((nI l) - (1 : Int32)))], [.inr (.inr (mu_r Hsa m 1)), .inl (nI vv), .inl (0 : Int32), .inl ((nI a) + (nI y)), .inr (.inr (some (m + 21)))], Hsa)) (C := [mu_is Hsa (some m) 6]) rfl (show mu_is Hsa (some m) 6 from (show mu_is Hsa (some m) 6 from gi_im hpa.1 hpa.2.1)) ?_
        rw [(show mu_r Hsa m 1 = some (m + 3) from (gi_mr hpa.1 hpa.2.1 (j := 1) (by decide)).trans (congrArg some (by omega)))]
        refine mw_go mu_g173 (k := 2) (f1 := (109, [(8, .inl (nI vv)), (7, .inl (nI r)), (3, .inl (nI q)), (6, .inl (nI y)), (0, .inr (.inr (some 92))), (1, .inl (nI k)), (2, .inl (nI w)), (4, .inl (nI a)), (5, .inl ((nI l) - (1 : Int32)))], [.inl (2 : Int32), .inl (nI q), .inr (.inr (some (m + 3))), .inl (nI vv), .inl (0 : Int32), .inl ((nI a) + (nI y)), .inr (.inr (some (m + 21)))], Hsa)) (C := []) rfl trivial ?_
        refine mw_cIe (fun _ => rfl) (show mu_is Hsa (some (m + 3)) 10 from (hpa.1.w (md_w1 hpa.2.1)).1) (dm.getr (d := (d + 1)) hpa rfl (j := 1) (by decide) rfl (nI q) (c := 2) (by decide)) ?_
        rw [show (tget ((ak m Hsa) 1) (nI q) 2) = (nI (sp Z q 2)) from hkz.start hZ hqM (by decide) (by decide)]
        refine mw_go mu_g173 (k := 1) (f1 := (113, [(8, .inl (nI vv)), (7, .inl (nI r)), (3, .inl (nI q)), (6, .inl (nI y)), (0, .inr (.inr (some 92))), (1, .inl (nI k)), (2, .inl (nI w)), (4, .inl (nI a)), (5, .inl ((nI l) - (1 : Int32)))], [.inl ((nI vv) - (nI (sp Z q 2))), .inl (0 : Int32), .inl ((nI a) + (nI y)), .inr (.inr (some (m + 21)))], Hsa)) (C := []) rfl trivial ?_
        rw [show ((nI vv) - (nI (sp Z q 2))) = nI (vv - sp Z q 2) from pk_sub hv1]
        rw [nI_add]
        obtain ⟨cc, hcc, ec4, ec3⟩ := hZ.2.1 q hqM vv hv1 hv2 hv3
        obtain ⟨lq1, lq2, lq3⟩ := hZ.le hqM (c := 2) (j := 3) (by decide) (by decide) rfl
        refine mw_cV (fun _ => rfl) (show mu_is Hsa (some (m + 21)) 10 from (hpa.1.w (md_w10 hpa.2.1)).1) (dm.setr (C := C) (d := (d + 1)) hpa rfl (j := 10) (by decide) rfl (nI (a + y)) (nI (vv - sp Z q 2)) (c := 0) (by decide)) (fun H12 q12 => ?_)
        obtain ⟨hp12, qt12, ha12, qh12⟩ := q12
        have ht12 := hta.trans qt12
        refine mw_go mu_g173 (k := 2) (f1 := (120, [(8, .inl (nI vv)), (7, .inl (nI r)), (3, .inl (nI q)), (6, .inl (nI y)), (0, .inr (.inr (some 92))), (1, .inl (nI k)), (2, .inl (nI w)), (4, .inl (nI a)), (5, .inl ((nI l) - (1 : Int32)))], [.inr (.inr (mu_r H12 92 2))], H12)) (C := [mu_is H12 (some 92) 12]) rfl (show mu_is H12 (some 92) 12 from hp12.1.is rfl) ?_
        rw [hp12.2.2.1]
        refine mw_go mu_g173 (k := 1) (f1 := (123, [(8, .inl (nI vv)), (7, .inl (nI r)), (3, .inl (nI q)), (6, .inl (nI y)), (0, .inr (.inr (some 92))), (1, .inl (nI k)), (2, .inl (nI w)), (4, .inl (nI a)), (5, .inl ((nI l) - (1 : Int32)))], [.inr (.inr (mu_r H12 m 3))], H12)) (C := [mu_is H12 (some m) 6]) rfl (show mu_is H12 (some m) 6 from (show mu_is H12 (some m) 6 from gi_im hp12.1 hp12.2.1)) ?_
        rw [(show mu_r H12 m 3 = some (m + 7) from (gi_mr hp12.1 hp12.2.1 (j := 3) (by decide)).trans (congrArg some (by omega)))]
        refine mw_go mu_g173 (k := 2) (f1 := (126, [(8, .inl (nI vv)), (7, .inl (nI r)), (3, .inl (nI q)), (6, .inl (nI y)), (0, .inr (.inr (some 92))), (1, .inl (nI k)), (2, .inl (nI w)), (4, .inl (nI a)), (5, .inl ((nI l) - (1 : Int32)))], [.inl (4 : Int32), .inl (nI vv), .inr (.inr (some (m + 7)))], H12)) (C := []) rfl trivial ?_
        refine mw_cIe (fun _ => rfl) (show mu_is H12 (some (m + 7)) 10 from (hp12.1.w (md_w3 hp12.2.1)).1) (dm.getr (d := (d + 1)) hp12 ha12 (j := 3) (by decide) rfl (nI vv) (c := 4) (by decide)) ?_
        rw [show (tget ((ax 10 (ak m Hsa) (nI (a + y)) 0 (nI (vv - sp Z q 2))) 3) (nI vv) 4) = (nI cc) from (tget_nI (by omega)).trans ((by rw [hkz.set10.1 3 (by decide) (by decide)] : ((ax 10 (ak m Hsa) (nI (a + y)) 0 (nI (vv - sp Z q 2))) 3).2 vv 4 = (Z 3).2 vv 4).trans ec4)]
        refine mw_go mu_g173 (k := 3) (f1 := (35, [(6, .inl ((nI y) + 1)), (3, .inl (nI cc)), (8, .inl (nI vv)), (7, .inl (nI r)), (0, .inr (.inr (some 92))), (1, .inl (nI k)), (2, .inl (nI w)), (4, .inl (nI a)), (5, .inl ((nI l) - (1 : Int32)))], [], H12)) (C := []) rfl trivial ?_
        rw [nI_1 y]
        exact mw_sub (by simp) (iha (cc, y + 1, H12) ⟨hp12, ht12, (show cc < (Z 1).1 from hcc), (show (y + 1) ≤ l - 1 from by omega), (show kz Z (ak m H12) from (by rw [ha12]; exact hkz.set10)), (show wk Z (ak m H12 10) k a (y + 1) cc from (by rw [ha12]; exact ⟨q, vv, wk_congr (fun p p1 p2 => ax_c (fun _ z => absurd (z.trans (nI_clamp (by omega))) (by omega))) hwk, hqM, ⟨hv1, hv2⟩, hv3, ax_hit (by rw [hkz.2.2.2]; omega) (by decide) (by omega), ec4⟩)), (show ∀ p, ¬ (a ≤ p ∧ p < a + (y + 1)) → (ak m H12 10).2 p 0 = (ak m H 10).2 p 0 from (fun p hp => by rw [ha12, ax_c (fun _ z => absurd (z.trans (nI_clamp (by omega))) (by omega))]; exact hst p (by omega))), (show ak m H12 9 = ak m H 9 from (by rw [ha12, ax_ne (by decide)]; exact he9)), (show ∀ z, mu_i H12 95 z = mu_i H 95 z from (fun z => (qh12 z).trans (h95 z))), (show MC (ak m H12 19) H12 from (hMC.same (by rw [ha12, ax_ne (by decide)]) qh12))⟩ (by show l - 1 - (y + 1) < l - 1 - y; omega))
      · -- 75: not ((Z 19).2 r 2) = (4 : Int32)
        refine mw_go mu_g173 (k := 1) (f1 := (76, [(7, .inl (nI r)), (3, .inl (nI q)), (6, .inl (nI y)), (0, .inr (.inr (some 92))), (1, .inl (nI k)), (2, .inl (nI w)), (4, .inl (nI a)), (5, .inl ((nI l) - (1 : Int32)))], [.inl (0 : Int32)], Hsa)) (C := []) rfl trivial ?_
        exact mw_of (fun _ => mu_ret rfl (Or.inl rfl) ⟨_, Hsa, rfl, Or.inl rfl, hpa, hta, fun z => h95 z, hkz, fun r q hr => by rw [he9], fun p hp => hst p (by omega), fun z => absurd z (by decide)⟩)
  · -- 136: not (nI y) < ((nI l) - (1 : Int32))
    have hye : y = l - 1 := by have := ge_last (by omega) h3; omega
    rw [hye] at hwk hst
    refine mw_go mu_g173 (k := 4) (f1 := (142, [(3, .inl (nI q)), (6, .inl (nI y)), (0, .inr (.inr (some 92))), (1, .inl (nI k)), (2, .inl (nI w)), (4, .inl (nI a)), (5, .inl ((nI l) - (1 : Int32)))], [.inr (.inr (mu_r Hsa 92 2)), .inl (nI q), .inr (.inr (some 92))], Hsa)) (C := [mu_is Hsa (some 92) 12]) rfl (show mu_is Hsa (some 92) 12 from hpa.1.is rfl) ?_
    rw [hpa.2.2.1]
    refine mw_go mu_g173 (k := 1) (f1 := (145, [(3, .inl (nI q)), (6, .inl (nI y)), (0, .inr (.inr (some 92))), (1, .inl (nI k)), (2, .inl (nI w)), (4, .inl (nI a)), (5, .inl ((nI l) - (1 : Int32)))], [.inr (.inr (mu_r Hsa m 10)), .inl (nI q), .inr (.inr (some 92))], Hsa)) (C := [mu_is Hsa (some m) 6]) rfl (show mu_is Hsa (some m) 6 from (show mu_is Hsa (some m) 6 from gi_im hpa.1 hpa.2.1)) ?_
    rw [(show mu_r Hsa m 10 = some (m + 21) from (gi_mr hpa.1 hpa.2.1 (j := 10) (by decide)).trans (congrArg some (by omega)))]
    refine mw_go mu_g173 (k := 4) (f1 := (151, [(3, .inl (nI q)), (6, .inl (nI y)), (0, .inr (.inr (some 92))), (1, .inl (nI k)), (2, .inl (nI w)), (4, .inl (nI a)), (5, .inl ((nI l) - (1 : Int32)))], [.inl (0 : Int32), .inl ((nI a) + ((nI l) - (1 : Int32))), .inr (.inr (some (m + 21))), .inl (nI q), .inr (.inr (some 92))], Hsa)) (C := []) rfl trivial ?_
    refine mw_cIe (fun _ => rfl) (show mu_is Hsa (some (m + 21)) 10 from (hpa.1.w (md_w10 hpa.2.1)).1) (dm.getr (d := (d + 1)) hpa rfl (j := 10) (by decide) rfl ((nI a) + ((nI l) - (1 : Int32))) (c := 0) (by decide)) ?_
    refine mw_cI (fun _ => rfl) (show mu_is Hsa (some 92) 12 from hpa.1.is rfl) (so_find2 (d := d) hpa rfl hMC (nI q) (tget ((ak m Hsa) 10) ((nI a) + ((nI l) - (1 : Int32))) 0)) (fun x15 H15 q15 => ?_)
    rcases q15 with ⟨rfl, rfl⟩ | ⟨r, hr, rfl, e0, e1, rfl⟩
    · -- (-1 : Int32)
      refine mw_go mu_g173 (k := 3) (f1 := (162, [(6, .inl (-1 : Int32)), (3, .inl (nI q)), (0, .inr (.inr (some 92))), (1, .inl (nI k)), (2, .inl (nI w)), (4, .inl (nI a)), (5, .inl ((nI l) - (1 : Int32)))], [.inl (-1 : Int32), .inr (.inr (some 92))], Hsa)) (C := []) rfl trivial ?_
      refine mw_cIe (fun _ => rfl) (show mu_is Hsa (some 92) 12 from hpa.1.is rfl) (so_kindOf2 (d := d) hpa rfl (-1 : Int32)) ?_
      rw [show kdo ((ak m Hsa) 19) (-1 : Int32) = (0 : Int32) from rfl]
      refine mw_go mu_g173 (k := 2) (f1 := (169, [(7, .inl (0 : Int32)), (6, .inl (-1 : Int32)), (3, .inl (nI q)), (0, .inr (.inr (some 92))), (1, .inl (nI k)), (2, .inl (nI w)), (4, .inl (nI a)), (5, .inl ((nI l) - (1 : Int32)))], [.inl (0 : Int32)], Hsa)) (C := []) rfl trivial ?_
      refine mw_if (P := (0 : Int32) = 0) (a := 172) (b := 207) (fun _ => rfl) trivial (fun h17 => ?_) (fun h17 => absurd (by decide) h17)
      refine mw_go mu_g173 (k := 1) (f1 := (174, [(7, .inl (0 : Int32)), (6, .inl (-1 : Int32)), (3, .inl (nI q)), (0, .inr (.inr (some 92))), (1, .inl (nI k)), (2, .inl (nI w)), (4, .inl (nI a)), (5, .inl ((nI l) - (1 : Int32)))], [.inl ((nI l) - (1 : Int32))], Hsa)) (C := []) rfl trivial ?_
      refine mw_if (P := ((nI l) - (1 : Int32)) = 0) (a := 177) (b := 207) (fun _ => rfl) trivial (fun h18 => ?_) (fun h18 => ?_)
      · -- 177: ((nI l) - (1 : Int32)) = 0
        refine mw_go mu_g173 (k := 2) (f1 := (181, [(7, .inl (0 : Int32)), (6, .inl (-1 : Int32)), (3, .inl (nI q)), (0, .inr (.inr (some 92))), (1, .inl (nI k)), (2, .inl (nI w)), (4, .inl (nI a)), (5, .inl ((nI l) - (1 : Int32)))], [.inr (.inr (mu_r Hsa 92 2))], Hsa)) (C := [mu_is Hsa (some 92) 12]) rfl (show mu_is Hsa (some 92) 12 from hpa.1.is rfl) ?_
        rw [hpa.2.2.1]
        refine mw_go mu_g173 (k := 1) (f1 := (184, [(7, .inl (0 : Int32)), (6, .inl (-1 : Int32)), (3, .inl (nI q)), (0, .inr (.inr (some 92))), (1, .inl (nI k)), (2, .inl (nI w)), (4, .inl (nI a)), (5, .inl ((nI l) - (1 : Int32)))], [.inr (.inr (mu_r Hsa m 9))], Hsa)) (C := [mu_is Hsa (some m) 6]) rfl (show mu_is Hsa (some m) 6 from (show mu_is Hsa (some m) 6 from gi_im hpa.1 hpa.2.1)) ?_
        rw [(show mu_r Hsa m 9 = some (m + 19) from (gi_mr hpa.1 hpa.2.1 (j := 9) (by decide)).trans (congrArg some (by omega)))]
        refine mw_go mu_g173 (k := 2) (f1 := (186, [(7, .inl (0 : Int32)), (6, .inl (-1 : Int32)), (3, .inl (nI q)), (0, .inr (.inr (some 92))), (1, .inl (nI k)), (2, .inl (nI w)), (4, .inl (nI a)), (5, .inl ((nI l) - (1 : Int32)))], [.inl (3 : Int32), .inl (nI w), .inr (.inr (some (m + 19)))], Hsa)) (C := []) rfl trivial ?_
        refine mw_cIe (fun _ => rfl) (show mu_is Hsa (some (m + 19)) 10 from (hpa.1.w (md_w9 hpa.2.1)).1) (dm.getr (d := (d + 1)) hpa rfl (j := 9) (by decide) rfl (nI w) (c := 3) (by decide)) ?_
        refine mw_if (P := (tget ((ak m Hsa) 9) (nI w) 3) < 0) (a := 207) (b := 192) (fun _ => rfl) trivial (fun h20 => ?_) (fun h20 => ?_)
        · -- 207: (tget ((ak m Hsa) 9) (nI w) 3) < 0
          refine mw_go mu_g173 (k := 2) (f1 := (210, [(7, .inl (0 : Int32)), (6, .inl (-1 : Int32)), (3, .inl (nI q)), (0, .inr (.inr (some 92))), (1, .inl (nI k)), (2, .inl (nI w)), (4, .inl (nI a)), (5, .inl ((nI l) - (1 : Int32)))], [.inl (3 : Int32), .inl (0 : Int32)], Hsa)) (C := []) rfl trivial ?_
          refine mw_if (P := (0 : Int32) = (3 : Int32)) (a := 232) (b := 213) (fun _ => rfl) trivial (fun h21 => absurd h21 (by decide)) (fun h21 => ?_)
          refine mw_go mu_g173 (k := 2) (f1 := (216, [(7, .inl (0 : Int32)), (6, .inl (-1 : Int32)), (3, .inl (nI q)), (0, .inr (.inr (some 92))), (1, .inl (nI k)), (2, .inl (nI w)), (4, .inl (nI a)), (5, .inl ((nI l) - (1 : Int32)))], [.inl (2 : Int32), .inl (0 : Int32)], Hsa)) (C := []) rfl trivial ?_
          refine mw_if (P := (0 : Int32) = (2 : Int32)) (a := 232) (b := 219) (fun _ => rfl) trivial (fun h22 => absurd h22 (by decide)) (fun h22 => ?_)
          refine mw_go mu_g173 (k := 2) (f1 := (222, [(7, .inl (0 : Int32)), (6, .inl (-1 : Int32)), (3, .inl (nI q)), (0, .inr (.inr (some 92))), (1, .inl (nI k)), (2, .inl (nI w)), (4, .inl (nI a)), (5, .inl ((nI l) - (1 : Int32)))], [.inl (1 : Int32), .inl (0 : Int32)], Hsa)) (C := []) rfl trivial ?_
          refine mw_if (P := (0 : Int32) = (1 : Int32)) (a := 225) (b := 230) (fun _ => rfl) trivial (fun h23 => absurd h23 (by decide)) (fun h23 => ?_)
          refine mw_go mu_g173 (k := 1) (f1 := (231, [(7, .inl (0 : Int32)), (6, .inl (-1 : Int32)), (3, .inl (nI q)), (0, .inr (.inr (some 92))), (1, .inl (nI k)), (2, .inl (nI w)), (4, .inl (nI a)), (5, .inl ((nI l) - (1 : Int32)))], [.inl (0 : Int32)], Hsa)) (C := []) rfl trivial ?_
          exact mw_of (fun _ => mu_ret rfl (Or.inl rfl) ⟨_, Hsa, rfl, Or.inl rfl, hpa, hta, fun z => h95 z, hkz, fun r q hr => by rw [he9], fun p hp => hst p (by omega), fun z => absurd z (by decide)⟩)
        · -- 192: not (tget ((ak m Hsa) 9) (nI w) 3) < 0
          refine mw_go mu_g173 (k := 2) (f1 := (196, [(7, .inl (0 : Int32)), (6, .inl (-1 : Int32)), (3, .inl (nI q)), (0, .inr (.inr (some 92))), (1, .inl (nI k)), (2, .inl (nI w)), (4, .inl (nI a)), (5, .inl ((nI l) - (1 : Int32)))], [.inr (.inr (mu_r Hsa 92 2))], Hsa)) (C := [mu_is Hsa (some 92) 12]) rfl (show mu_is Hsa (some 92) 12 from hpa.1.is rfl) ?_
          rw [hpa.2.2.1]
          refine mw_go mu_g173 (k := 1) (f1 := (199, [(7, .inl (0 : Int32)), (6, .inl (-1 : Int32)), (3, .inl (nI q)), (0, .inr (.inr (some 92))), (1, .inl (nI k)), (2, .inl (nI w)), (4, .inl (nI a)), (5, .inl ((nI l) - (1 : Int32)))], [.inr (.inr (mu_r Hsa m 9))], Hsa)) (C := [mu_is Hsa (some m) 6]) rfl (show mu_is Hsa (some m) 6 from (show mu_is Hsa (some m) 6 from gi_im hpa.1 hpa.2.1)) ?_
          rw [(show mu_r Hsa m 9 = some (m + 19) from (gi_mr hpa.1 hpa.2.1 (j := 9) (by decide)).trans (congrArg some (by omega)))]
          refine mw_go mu_g173 (k := 3) (f1 := (202, [(7, .inl (0 : Int32)), (6, .inl (-1 : Int32)), (3, .inl (nI q)), (0, .inr (.inr (some 92))), (1, .inl (nI k)), (2, .inl (nI w)), (4, .inl (nI a)), (5, .inl ((nI l) - (1 : Int32)))], [.inl (5 : Int32), .inl (2 : Int32), .inl (nI w), .inr (.inr (some (m + 19)))], Hsa)) (C := []) rfl trivial ?_
          refine mw_cV (fun _ => rfl) (show mu_is Hsa (some (m + 19)) 10 from (hpa.1.w (md_w9 hpa.2.1)).1) (dm.setr (C := C) (d := (d + 1)) hpa rfl (j := 9) (by decide) rfl (nI w) (5 : Int32) (c := 2) (by decide)) (fun H24 q24 => ?_)
          obtain ⟨hp24, qt24, ha24, qh24⟩ := q24
          have ht24 := hta.trans qt24
          refine mw_go mu_g173 (k := 1) (f1 := (206, [(7, .inl (0 : Int32)), (6, .inl (-1 : Int32)), (3, .inl (nI q)), (0, .inr (.inr (some 92))), (1, .inl (nI k)), (2, .inl (nI w)), (4, .inl (nI a)), (5, .inl ((nI l) - (1 : Int32)))], [.inl (1 : Int32)], H24)) (C := []) rfl trivial ?_
          exact mw_of (fun _ => mu_ret rfl (Or.inr rfl) ⟨_, H24, rfl, Or.inr rfl, hp24, ht24, fun z => (qh24 z).trans (h95 z), (by rw [ha24]; exact (hkz.set9 (by decide))), fun r q hr => by rw [ha24, ax_c (fun _ z => absurd (z.trans (nI_clamp (by omega))) hr), he9], fun p hp => by rw [ha24, ax_ne (by decide)]; exact hst p (by omega), fun _ => ⟨a, l, q, ha, hl, hal, hqM, (by rw [ha24, ax_ne (by decide)]; exact hwk), Or.inl (by rw [ha24]; exact ax_hit (by rw [hkz.2.1]; exact hwN) (by decide) (by omega))⟩⟩)
      · -- 207: not ((nI l) - (1 : Int32)) = 0
        refine mw_go mu_g173 (k := 2) (f1 := (210, [(7, .inl (0 : Int32)), (6, .inl (-1 : Int32)), (3, .inl (nI q)), (0, .inr (.inr (some 92))), (1, .inl (nI k)), (2, .inl (nI w)), (4, .inl (nI a)), (5, .inl ((nI l) - (1 : Int32)))], [.inl (3 : Int32), .inl (0 : Int32)], Hsa)) (C := []) rfl trivial ?_
        refine mw_if (P := (0 : Int32) = (3 : Int32)) (a := 232) (b := 213) (fun _ => rfl) trivial (fun h25 => absurd h25 (by decide)) (fun h25 => ?_)
        refine mw_go mu_g173 (k := 2) (f1 := (216, [(7, .inl (0 : Int32)), (6, .inl (-1 : Int32)), (3, .inl (nI q)), (0, .inr (.inr (some 92))), (1, .inl (nI k)), (2, .inl (nI w)), (4, .inl (nI a)), (5, .inl ((nI l) - (1 : Int32)))], [.inl (2 : Int32), .inl (0 : Int32)], Hsa)) (C := []) rfl trivial ?_
        refine mw_if (P := (0 : Int32) = (2 : Int32)) (a := 232) (b := 219) (fun _ => rfl) trivial (fun h26 => absurd h26 (by decide)) (fun h26 => ?_)
        refine mw_go mu_g173 (k := 2) (f1 := (222, [(7, .inl (0 : Int32)), (6, .inl (-1 : Int32)), (3, .inl (nI q)), (0, .inr (.inr (some 92))), (1, .inl (nI k)), (2, .inl (nI w)), (4, .inl (nI a)), (5, .inl ((nI l) - (1 : Int32)))], [.inl (1 : Int32), .inl (0 : Int32)], Hsa)) (C := []) rfl trivial ?_
        refine mw_if (P := (0 : Int32) = (1 : Int32)) (a := 225) (b := 230) (fun _ => rfl) trivial (fun h27 => absurd h27 (by decide)) (fun h27 => ?_)
        refine mw_go mu_g173 (k := 1) (f1 := (231, [(7, .inl (0 : Int32)), (6, .inl (-1 : Int32)), (3, .inl (nI q)), (0, .inr (.inr (some 92))), (1, .inl (nI k)), (2, .inl (nI w)), (4, .inl (nI a)), (5, .inl ((nI l) - (1 : Int32)))], [.inl (0 : Int32)], Hsa)) (C := []) rfl trivial ?_
        exact mw_of (fun _ => mu_ret rfl (Or.inl rfl) ⟨_, Hsa, rfl, Or.inl rfl, hpa, hta, fun z => h95 z, hkz, fun r q hr => by rw [he9], fun p hp => hst p (by omega), fun z => absurd z (by decide)⟩)
    · -- (nI r)
      have hr6 : r < 67108864 := Nat.lt_of_lt_of_le hr (hpa.lt rfl (by decide))
      have hrZ : r < (Z 19).1 := by rw [← hkz.1 19 (by decide) (by decide)]; exact hr
      have e0Z : (Z 19).2 r 0 = nI q := by rw [← hkz.1 19 (by decide) (by decide)]; exact e0
      refine mw_go mu_g173 (k := 3) (f1 := (162, [(6, .inl (nI r)), (3, .inl (nI q)), (0, .inr (.inr (some 92))), (1, .inl (nI k)), (2, .inl (nI w)), (4, .inl (nI a)), (5, .inl ((nI l) - (1 : Int32)))], [.inl (nI r), .inr (.inr (some 92))], Hsa)) (C := []) rfl trivial ?_
      refine mw_cIe (fun _ => rfl) (show mu_is Hsa (some 92) 12 from hpa.1.is rfl) (so_kindOf2 (d := d) hpa rfl (nI r)) ?_
      rw [show kdo ((ak m Hsa) 19) (nI r) = (Z 19).2 r 2 from (if_neg (nI_pos (by omega))).trans ((tget_nI (by omega)).trans (by rw [hkz.1 19 (by decide) (by decide)]))]
      refine mw_go mu_g173 (k := 2) (f1 := (169, [(7, .inl ((Z 19).2 r 2)), (6, .inl (nI r)), (3, .inl (nI q)), (0, .inr (.inr (some 92))), (1, .inl (nI k)), (2, .inl (nI w)), (4, .inl (nI a)), (5, .inl ((nI l) - (1 : Int32)))], [.inl ((Z 19).2 r 2)], Hsa)) (C := []) rfl trivial ?_
      refine mw_if (P := ((Z 19).2 r 2) = 0) (a := 172) (b := 207) (fun _ => rfl) trivial (fun h29 => ?_) (fun h29 => ?_)
      · -- 172: ((Z 19).2 r 2) = 0
        refine mw_go mu_g173 (k := 1) (f1 := (174, [(7, .inl ((Z 19).2 r 2)), (6, .inl (nI r)), (3, .inl (nI q)), (0, .inr (.inr (some 92))), (1, .inl (nI k)), (2, .inl (nI w)), (4, .inl (nI a)), (5, .inl ((nI l) - (1 : Int32)))], [.inl ((nI l) - (1 : Int32))], Hsa)) (C := []) rfl trivial ?_
        refine mw_if (P := ((nI l) - (1 : Int32)) = 0) (a := 177) (b := 207) (fun _ => rfl) trivial (fun h30 => ?_) (fun h30 => ?_)
        · -- 177: ((nI l) - (1 : Int32)) = 0
          refine mw_go mu_g173 (k := 2) (f1 := (181, [(7, .inl ((Z 19).2 r 2)), (6, .inl (nI r)), (3, .inl (nI q)), (0, .inr (.inr (some 92))), (1, .inl (nI k)), (2, .inl (nI w)), (4, .inl (nI a)), (5, .inl ((nI l) - (1 : Int32)))], [.inr (.inr (mu_r Hsa 92 2))], Hsa)) (C := [mu_is Hsa (some 92) 12]) rfl (show mu_is Hsa (some 92) 12 from hpa.1.is rfl) ?_
          rw [hpa.2.2.1]
          refine mw_go mu_g173 (k := 1) (f1 := (184, [(7, .inl ((Z 19).2 r 2)), (6, .inl (nI r)), (3, .inl (nI q)), (0, .inr (.inr (some 92))), (1, .inl (nI k)), (2, .inl (nI w)), (4, .inl (nI a)), (5, .inl ((nI l) - (1 : Int32)))], [.inr (.inr (mu_r Hsa m 9))], Hsa)) (C := [mu_is Hsa (some m) 6]) rfl (show mu_is Hsa (some m) 6 from (show mu_is Hsa (some m) 6 from gi_im hpa.1 hpa.2.1)) ?_
          rw [(show mu_r Hsa m 9 = some (m + 19) from (gi_mr hpa.1 hpa.2.1 (j := 9) (by decide)).trans (congrArg some (by omega)))]
          refine mw_go mu_g173 (k := 2) (f1 := (186, [(7, .inl ((Z 19).2 r 2)), (6, .inl (nI r)), (3, .inl (nI q)), (0, .inr (.inr (some 92))), (1, .inl (nI k)), (2, .inl (nI w)), (4, .inl (nI a)), (5, .inl ((nI l) - (1 : Int32)))], [.inl (3 : Int32), .inl (nI w), .inr (.inr (some (m + 19)))], Hsa)) (C := []) rfl trivial ?_
          refine mw_cIe (fun _ => rfl) (show mu_is Hsa (some (m + 19)) 10 from (hpa.1.w (md_w9 hpa.2.1)).1) (dm.getr (d := (d + 1)) hpa rfl (j := 9) (by decide) rfl (nI w) (c := 3) (by decide)) ?_
          refine mw_if (P := (tget ((ak m Hsa) 9) (nI w) 3) < 0) (a := 207) (b := 192) (fun _ => rfl) trivial (fun h32 => ?_) (fun h32 => ?_)
          · -- 207: (tget ((ak m Hsa) 9) (nI w) 3) < 0
            refine mw_go mu_g173 (k := 2) (f1 := (210, [(7, .inl ((Z 19).2 r 2)), (6, .inl (nI r)), (3, .inl (nI q)), (0, .inr (.inr (some 92))), (1, .inl (nI k)), (2, .inl (nI w)), (4, .inl (nI a)), (5, .inl ((nI l) - (1 : Int32)))], [.inl (3 : Int32), .inl ((Z 19).2 r 2)], Hsa)) (C := []) rfl trivial ?_
            refine mw_if (P := ((Z 19).2 r 2) = (3 : Int32)) (a := 232) (b := 213) (fun _ => rfl) trivial (fun h33 => ?_) (fun h33 => ?_)
            · -- 232: ((Z 19).2 r 2) = (3 : Int32)
              exact absurd (show (0 : Int32) = 3 from h29.symm.trans h33) (by decide)
            · -- 213: not ((Z 19).2 r 2) = (3 : Int32)
              refine mw_go mu_g173 (k := 2) (f1 := (216, [(7, .inl ((Z 19).2 r 2)), (6, .inl (nI r)), (3, .inl (nI q)), (0, .inr (.inr (some 92))), (1, .inl (nI k)), (2, .inl (nI w)), (4, .inl (nI a)), (5, .inl ((nI l) - (1 : Int32)))], [.inl (2 : Int32), .inl ((Z 19).2 r 2)], Hsa)) (C := []) rfl trivial ?_
              refine mw_if (P := ((Z 19).2 r 2) = (2 : Int32)) (a := 232) (b := 219) (fun _ => rfl) trivial (fun h34 => ?_) (fun h34 => ?_)
              · -- 232: ((Z 19).2 r 2) = (2 : Int32)
                exact absurd (show (0 : Int32) = 2 from h29.symm.trans h34) (by decide)
              · -- 219: not ((Z 19).2 r 2) = (2 : Int32)
                refine mw_go mu_g173 (k := 2) (f1 := (222, [(7, .inl ((Z 19).2 r 2)), (6, .inl (nI r)), (3, .inl (nI q)), (0, .inr (.inr (some 92))), (1, .inl (nI k)), (2, .inl (nI w)), (4, .inl (nI a)), (5, .inl ((nI l) - (1 : Int32)))], [.inl (1 : Int32), .inl ((Z 19).2 r 2)], Hsa)) (C := []) rfl trivial ?_
                refine mw_if (P := ((Z 19).2 r 2) = (1 : Int32)) (a := 225) (b := 230) (fun _ => rfl) trivial (fun h35 => ?_) (fun h35 => ?_)
                · -- 225: ((Z 19).2 r 2) = (1 : Int32)
                  exact absurd (show (0 : Int32) = 1 from h29.symm.trans h35) (by decide)
                · -- 230: not ((Z 19).2 r 2) = (1 : Int32)
                  refine mw_go mu_g173 (k := 1) (f1 := (231, [(7, .inl ((Z 19).2 r 2)), (6, .inl (nI r)), (3, .inl (nI q)), (0, .inr (.inr (some 92))), (1, .inl (nI k)), (2, .inl (nI w)), (4, .inl (nI a)), (5, .inl ((nI l) - (1 : Int32)))], [.inl (0 : Int32)], Hsa)) (C := []) rfl trivial ?_
                  exact mw_of (fun _ => mu_ret rfl (Or.inl rfl) ⟨_, Hsa, rfl, Or.inl rfl, hpa, hta, fun z => h95 z, hkz, fun r q hr => by rw [he9], fun p hp => hst p (by omega), fun z => absurd z (by decide)⟩)
          · -- 192: not (tget ((ak m Hsa) 9) (nI w) 3) < 0
            refine mw_go mu_g173 (k := 2) (f1 := (196, [(7, .inl ((Z 19).2 r 2)), (6, .inl (nI r)), (3, .inl (nI q)), (0, .inr (.inr (some 92))), (1, .inl (nI k)), (2, .inl (nI w)), (4, .inl (nI a)), (5, .inl ((nI l) - (1 : Int32)))], [.inr (.inr (mu_r Hsa 92 2))], Hsa)) (C := [mu_is Hsa (some 92) 12]) rfl (show mu_is Hsa (some 92) 12 from hpa.1.is rfl) ?_
            rw [hpa.2.2.1]
            refine mw_go mu_g173 (k := 1) (f1 := (199, [(7, .inl ((Z 19).2 r 2)), (6, .inl (nI r)), (3, .inl (nI q)), (0, .inr (.inr (some 92))), (1, .inl (nI k)), (2, .inl (nI w)), (4, .inl (nI a)), (5, .inl ((nI l) - (1 : Int32)))], [.inr (.inr (mu_r Hsa m 9))], Hsa)) (C := [mu_is Hsa (some m) 6]) rfl (show mu_is Hsa (some m) 6 from (show mu_is Hsa (some m) 6 from gi_im hpa.1 hpa.2.1)) ?_
            rw [(show mu_r Hsa m 9 = some (m + 19) from (gi_mr hpa.1 hpa.2.1 (j := 9) (by decide)).trans (congrArg some (by omega)))]
            refine mw_go mu_g173 (k := 3) (f1 := (202, [(7, .inl ((Z 19).2 r 2)), (6, .inl (nI r)), (3, .inl (nI q)), (0, .inr (.inr (some 92))), (1, .inl (nI k)), (2, .inl (nI w)), (4, .inl (nI a)), (5, .inl ((nI l) - (1 : Int32)))], [.inl (5 : Int32), .inl (2 : Int32), .inl (nI w), .inr (.inr (some (m + 19)))], Hsa)) (C := []) rfl trivial ?_
            refine mw_cV (fun _ => rfl) (show mu_is Hsa (some (m + 19)) 10 from (hpa.1.w (md_w9 hpa.2.1)).1) (dm.setr (C := C) (d := (d + 1)) hpa rfl (j := 9) (by decide) rfl (nI w) (5 : Int32) (c := 2) (by decide)) (fun H36 q36 => ?_)
            obtain ⟨hp36, qt36, ha36, qh36⟩ := q36
            have ht36 := hta.trans qt36
            refine mw_go mu_g173 (k := 1) (f1 := (206, [(7, .inl ((Z 19).2 r 2)), (6, .inl (nI r)), (3, .inl (nI q)), (0, .inr (.inr (some 92))), (1, .inl (nI k)), (2, .inl (nI w)), (4, .inl (nI a)), (5, .inl ((nI l) - (1 : Int32)))], [.inl (1 : Int32)], H36)) (C := []) rfl trivial ?_
            exact mw_of (fun _ => mu_ret rfl (Or.inr rfl) ⟨_, H36, rfl, Or.inr rfl, hp36, ht36, fun z => (qh36 z).trans (h95 z), (by rw [ha36]; exact (hkz.set9 (by decide))), fun r q hr => by rw [ha36, ax_c (fun _ z => absurd (z.trans (nI_clamp (by omega))) hr), he9], fun p hp => by rw [ha36, ax_ne (by decide)]; exact hst p (by omega), fun _ => ⟨a, l, q, ha, hl, hal, hqM, (by rw [ha36, ax_ne (by decide)]; exact hwk), Or.inl (by rw [ha36]; exact ax_hit (by rw [hkz.2.1]; exact hwN) (by decide) (by omega))⟩⟩)
        · -- 207: not ((nI l) - (1 : Int32)) = 0
          refine mw_go mu_g173 (k := 2) (f1 := (210, [(7, .inl ((Z 19).2 r 2)), (6, .inl (nI r)), (3, .inl (nI q)), (0, .inr (.inr (some 92))), (1, .inl (nI k)), (2, .inl (nI w)), (4, .inl (nI a)), (5, .inl ((nI l) - (1 : Int32)))], [.inl (3 : Int32), .inl ((Z 19).2 r 2)], Hsa)) (C := []) rfl trivial ?_
          refine mw_if (P := ((Z 19).2 r 2) = (3 : Int32)) (a := 232) (b := 213) (fun _ => rfl) trivial (fun h37 => ?_) (fun h37 => ?_)
          · -- 232: ((Z 19).2 r 2) = (3 : Int32)
            exact absurd (show (0 : Int32) = 3 from h29.symm.trans h37) (by decide)
          · -- 213: not ((Z 19).2 r 2) = (3 : Int32)
            refine mw_go mu_g173 (k := 2) (f1 := (216, [(7, .inl ((Z 19).2 r 2)), (6, .inl (nI r)), (3, .inl (nI q)), (0, .inr (.inr (some 92))), (1, .inl (nI k)), (2, .inl (nI w)), (4, .inl (nI a)), (5, .inl ((nI l) - (1 : Int32)))], [.inl (2 : Int32), .inl ((Z 19).2 r 2)], Hsa)) (C := []) rfl trivial ?_
            refine mw_if (P := ((Z 19).2 r 2) = (2 : Int32)) (a := 232) (b := 219) (fun _ => rfl) trivial (fun h38 => ?_) (fun h38 => ?_)
            · -- 232: ((Z 19).2 r 2) = (2 : Int32)
              exact absurd (show (0 : Int32) = 2 from h29.symm.trans h38) (by decide)
            · -- 219: not ((Z 19).2 r 2) = (2 : Int32)
              refine mw_go mu_g173 (k := 2) (f1 := (222, [(7, .inl ((Z 19).2 r 2)), (6, .inl (nI r)), (3, .inl (nI q)), (0, .inr (.inr (some 92))), (1, .inl (nI k)), (2, .inl (nI w)), (4, .inl (nI a)), (5, .inl ((nI l) - (1 : Int32)))], [.inl (1 : Int32), .inl ((Z 19).2 r 2)], Hsa)) (C := []) rfl trivial ?_
              refine mw_if (P := ((Z 19).2 r 2) = (1 : Int32)) (a := 225) (b := 230) (fun _ => rfl) trivial (fun h39 => ?_) (fun h39 => ?_)
              · -- 225: ((Z 19).2 r 2) = (1 : Int32)
                exact absurd (show (0 : Int32) = 1 from h29.symm.trans h39) (by decide)
              · -- 230: not ((Z 19).2 r 2) = (1 : Int32)
                refine mw_go mu_g173 (k := 1) (f1 := (231, [(7, .inl ((Z 19).2 r 2)), (6, .inl (nI r)), (3, .inl (nI q)), (0, .inr (.inr (some 92))), (1, .inl (nI k)), (2, .inl (nI w)), (4, .inl (nI a)), (5, .inl ((nI l) - (1 : Int32)))], [.inl (0 : Int32)], Hsa)) (C := []) rfl trivial ?_
                exact mw_of (fun _ => mu_ret rfl (Or.inl rfl) ⟨_, Hsa, rfl, Or.inl rfl, hpa, hta, fun z => h95 z, hkz, fun r q hr => by rw [he9], fun p hp => hst p (by omega), fun z => absurd z (by decide)⟩)
      · -- 207: not ((Z 19).2 r 2) = 0
        refine mw_go mu_g173 (k := 2) (f1 := (210, [(7, .inl ((Z 19).2 r 2)), (6, .inl (nI r)), (3, .inl (nI q)), (0, .inr (.inr (some 92))), (1, .inl (nI k)), (2, .inl (nI w)), (4, .inl (nI a)), (5, .inl ((nI l) - (1 : Int32)))], [.inl (3 : Int32), .inl ((Z 19).2 r 2)], Hsa)) (C := []) rfl trivial ?_
        refine mw_if (P := ((Z 19).2 r 2) = (3 : Int32)) (a := 232) (b := 213) (fun _ => rfl) trivial (fun h40 => ?_) (fun h40 => ?_)
        · -- 232: ((Z 19).2 r 2) = (3 : Int32)
          refine mw_go mu_g173 (k := 2) (f1 := (235, [(7, .inl ((Z 19).2 r 2)), (6, .inl (nI r)), (3, .inl (nI q)), (0, .inr (.inr (some 92))), (1, .inl (nI k)), (2, .inl (nI w)), (4, .inl (nI a)), (5, .inl ((nI l) - (1 : Int32)))], [.inl (3 : Int32), .inl ((Z 19).2 r 2)], Hsa)) (C := []) rfl trivial ?_
          refine mw_if (P := ((Z 19).2 r 2) = (3 : Int32)) (a := 238) (b := 242) (fun _ => rfl) trivial (fun _ => ?_) (fun h41 => absurd h40 h41)
          refine mw_go mu_g173 (k := 5) (f1 := (259, [(8, .inl (2 : Int32)), (7, .inl ((Z 19).2 r 2)), (6, .inl (nI r)), (3, .inl (nI q)), (0, .inr (.inr (some 92))), (1, .inl (nI k)), (2, .inl (nI w)), (4, .inl (nI a)), (5, .inl ((nI l) - (1 : Int32)))], [.inr (.inr (mu_r Hsa 92 2))], Hsa)) (C := [mu_is Hsa (some 92) 12]) rfl (show mu_is Hsa (some 92) 12 from hpa.1.is rfl) ?_
          rw [hpa.2.2.1]
          refine mw_go mu_g173 (k := 1) (f1 := (262, [(8, .inl (2 : Int32)), (7, .inl ((Z 19).2 r 2)), (6, .inl (nI r)), (3, .inl (nI q)), (0, .inr (.inr (some 92))), (1, .inl (nI k)), (2, .inl (nI w)), (4, .inl (nI a)), (5, .inl ((nI l) - (1 : Int32)))], [.inr (.inr (mu_r Hsa m 9))], Hsa)) (C := [mu_is Hsa (some m) 6]) rfl (show mu_is Hsa (some m) 6 from (show mu_is Hsa (some m) 6 from gi_im hpa.1 hpa.2.1)) ?_
          rw [(show mu_r Hsa m 9 = some (m + 19) from (gi_mr hpa.1 hpa.2.1 (j := 9) (by decide)).trans (congrArg some (by omega)))]
          refine mw_go mu_g173 (k := 3) (f1 := (266, [(8, .inl (2 : Int32)), (7, .inl ((Z 19).2 r 2)), (6, .inl (nI r)), (3, .inl (nI q)), (0, .inr (.inr (some 92))), (1, .inl (nI k)), (2, .inl (nI w)), (4, .inl (nI a)), (5, .inl ((nI l) - (1 : Int32)))], [.inl ((Z 19).2 r 2), .inl (2 : Int32), .inl (nI w), .inr (.inr (some (m + 19)))], Hsa)) (C := []) rfl trivial ?_
          refine mw_cV (fun _ => rfl) (show mu_is Hsa (some (m + 19)) 10 from (hpa.1.w (md_w9 hpa.2.1)).1) (dm.setr (C := C) (d := (d + 1)) hpa rfl (j := 9) (by decide) rfl (nI w) ((Z 19).2 r 2) (c := 2) (by decide)) (fun H42 q42 => ?_)
          obtain ⟨hp42, qt42, ha42, qh42⟩ := q42
          have ht42 := hta.trans qt42
          refine mw_go mu_g173 (k := 2) (f1 := (273, [(8, .inl (2 : Int32)), (7, .inl ((Z 19).2 r 2)), (6, .inl (nI r)), (3, .inl (nI q)), (0, .inr (.inr (some 92))), (1, .inl (nI k)), (2, .inl (nI w)), (4, .inl (nI a)), (5, .inl ((nI l) - (1 : Int32)))], [.inr (.inr (mu_r H42 92 2))], H42)) (C := [mu_is H42 (some 92) 12]) rfl (show mu_is H42 (some 92) 12 from hp42.1.is rfl) ?_
          rw [hp42.2.2.1]
          refine mw_go mu_g173 (k := 1) (f1 := (276, [(8, .inl (2 : Int32)), (7, .inl ((Z 19).2 r 2)), (6, .inl (nI r)), (3, .inl (nI q)), (0, .inr (.inr (some 92))), (1, .inl (nI k)), (2, .inl (nI w)), (4, .inl (nI a)), (5, .inl ((nI l) - (1 : Int32)))], [.inr (.inr (mu_r H42 m 9))], H42)) (C := [mu_is H42 (some m) 6]) rfl (show mu_is H42 (some m) 6 from (show mu_is H42 (some m) 6 from gi_im hp42.1 hp42.2.1)) ?_
          rw [(show mu_r H42 m 9 = some (m + 19) from (gi_mr hp42.1 hp42.2.1 (j := 9) (by decide)).trans (congrArg some (by omega)))]
          refine mw_go mu_g173 (k := 4) (f1 := (281, [(8, .inl (2 : Int32)), (7, .inl ((Z 19).2 r 2)), (6, .inl (nI r)), (3, .inl (nI q)), (0, .inr (.inr (some 92))), (1, .inl (nI k)), (2, .inl (nI w)), (4, .inl (nI a)), (5, .inl ((nI l) - (1 : Int32)))], [.inl (nI r), .inr (.inr (some 92)), .inl (3 : Int32), .inl (nI w), .inr (.inr (some (m + 19)))], H42)) (C := []) rfl trivial ?_
          refine mw_cIe (fun _ => rfl) (show mu_is H42 (some 92) 12 from hp42.1.is rfl) (so_rowOf2 (d := d) hp42 ha42 (nI r)) ?_
          obtain ⟨vv, ev, hv1, hv2, hv3⟩ := ((hZ.2.2.1 r hrZ).2 q hqM e0Z).2.2.1 h40
          rw [show rwo ((ax 9 (ak m Hsa) (nI w) 2 ((Z 19).2 r 2)) 19) (nI r) = nI vv from (if_neg (nI_pos (by omega))).trans ((tget_nI (by omega)).trans (by rw [(hkz.set9 (by decide)).1 19 (by decide) (by decide)]; exact ev))]
          refine mw_go mu_g173 (k := 2) (f1 := (288, [(8, .inl (2 : Int32)), (7, .inl ((Z 19).2 r 2)), (6, .inl (nI r)), (3, .inl (nI q)), (0, .inr (.inr (some 92))), (1, .inl (nI k)), (2, .inl (nI w)), (4, .inl (nI a)), (5, .inl ((nI l) - (1 : Int32)))], [.inr (.inr (mu_r H42 92 2)), .inl (nI vv), .inl (3 : Int32), .inl (nI w), .inr (.inr (some (m + 19)))], H42)) (C := [mu_is H42 (some 92) 12]) rfl (show mu_is H42 (some 92) 12 from hp42.1.is rfl) ?_
          rw [hp42.2.2.1]
          refine mw_go mu_g173 (k := 1) (f1 := (291, [(8, .inl (2 : Int32)), (7, .inl ((Z 19).2 r 2)), (6, .inl (nI r)), (3, .inl (nI q)), (0, .inr (.inr (some 92))), (1, .inl (nI k)), (2, .inl (nI w)), (4, .inl (nI a)), (5, .inl ((nI l) - (1 : Int32)))], [.inr (.inr (mu_r H42 m 1)), .inl (nI vv), .inl (3 : Int32), .inl (nI w), .inr (.inr (some (m + 19)))], H42)) (C := [mu_is H42 (some m) 6]) rfl (show mu_is H42 (some m) 6 from (show mu_is H42 (some m) 6 from gi_im hp42.1 hp42.2.1)) ?_
          rw [(show mu_r H42 m 1 = some (m + 3) from (gi_mr hp42.1 hp42.2.1 (j := 1) (by decide)).trans (congrArg some (by omega)))]
          refine mw_go mu_g173 (k := 2) (f1 := (294, [(8, .inl (2 : Int32)), (7, .inl ((Z 19).2 r 2)), (6, .inl (nI r)), (3, .inl (nI q)), (0, .inr (.inr (some 92))), (1, .inl (nI k)), (2, .inl (nI w)), (4, .inl (nI a)), (5, .inl ((nI l) - (1 : Int32)))], [.inl (2 : Int32), .inl (nI q), .inr (.inr (some (m + 3))), .inl (nI vv), .inl (3 : Int32), .inl (nI w), .inr (.inr (some (m + 19)))], H42)) (C := []) rfl trivial ?_
          refine mw_cIe (fun _ => rfl) (show mu_is H42 (some (m + 3)) 10 from (hp42.1.w (md_w1 hp42.2.1)).1) (dm.getr (d := (d + 1)) hp42 ha42 (j := 1) (by decide) rfl (nI q) (c := 2) (by decide)) ?_
          rw [show (tget ((ax 9 (ak m Hsa) (nI w) 2 ((Z 19).2 r 2)) 1) (nI q) 2) = (nI (sp Z q 2)) from (hkz.set9 (by decide)).start hZ hqM (by decide) (by decide)]
          refine mw_go mu_g173 (k := 1) (f1 := (298, [(8, .inl (2 : Int32)), (7, .inl ((Z 19).2 r 2)), (6, .inl (nI r)), (3, .inl (nI q)), (0, .inr (.inr (some 92))), (1, .inl (nI k)), (2, .inl (nI w)), (4, .inl (nI a)), (5, .inl ((nI l) - (1 : Int32)))], [.inl ((nI vv) - (nI (sp Z q 2))), .inl (3 : Int32), .inl (nI w), .inr (.inr (some (m + 19)))], H42)) (C := []) rfl trivial ?_
          rw [show ((nI vv) - (nI (sp Z q 2))) = nI (vv - sp Z q 2) from pk_sub hv1]
          refine mw_cV (fun _ => rfl) (show mu_is H42 (some (m + 19)) 10 from (hp42.1.w (md_w9 hp42.2.1)).1) (dm.setr (C := C) (d := (d + 1)) hp42 ha42 (j := 9) (by decide) rfl (nI w) (nI (vv - sp Z q 2)) (c := 3) (by decide)) (fun H45 q45 => ?_)
          obtain ⟨hp45, qt45, ha45, qh45⟩ := q45
          have ht45 := ht42.trans qt45
          refine mw_go mu_g173 (k := 1) (f1 := (302, [(8, .inl (2 : Int32)), (7, .inl ((Z 19).2 r 2)), (6, .inl (nI r)), (3, .inl (nI q)), (0, .inr (.inr (some 92))), (1, .inl (nI k)), (2, .inl (nI w)), (4, .inl (nI a)), (5, .inl ((nI l) - (1 : Int32)))], [.inl (1 : Int32)], H45)) (C := []) rfl trivial ?_
          exact mw_of (fun _ => mu_ret rfl (Or.inr rfl) ⟨_, H45, rfl, Or.inr rfl, hp45, ht45, fun z => (qh45 z).trans ((qh42 z).trans (h95 z)), (by rw [ha45]; exact ((hkz.set9 (by decide)).set9 (by decide))), fun r q hr => by rw [ha45, ax_c (fun _ z => absurd (z.trans (nI_clamp (by omega))) hr), ax_c (fun _ z => absurd (z.trans (nI_clamp (by omega))) hr), he9], fun p hp => by rw [ha45, ax_ne (by decide), ax_ne (by decide)]; exact hst p (by omega), fun _ => ⟨a, l, q, ha, hl, hal, hqM, (by rw [ha45, ax_ne (by decide), ax_ne (by decide)]; exact hwk), Or.inr (Or.inl ⟨(by rw [ha45, ax_c (fun _ _ => by decide), ax_hit (by rw [hkz.2.1]; exact hwN) (by decide) (by omega)]; exact h40), vv, (by rw [ha45]; exact ax_hit (by rw [ax_n]; exact (by rw [hkz.2.1]; exact hwN)) (by decide) (by omega)), ⟨hv1, hv2⟩, hv3⟩)⟩⟩)
        · -- 213: not ((Z 19).2 r 2) = (3 : Int32)
          refine mw_go mu_g173 (k := 2) (f1 := (216, [(7, .inl ((Z 19).2 r 2)), (6, .inl (nI r)), (3, .inl (nI q)), (0, .inr (.inr (some 92))), (1, .inl (nI k)), (2, .inl (nI w)), (4, .inl (nI a)), (5, .inl ((nI l) - (1 : Int32)))], [.inl (2 : Int32), .inl ((Z 19).2 r 2)], Hsa)) (C := []) rfl trivial ?_
          refine mw_if (P := ((Z 19).2 r 2) = (2 : Int32)) (a := 232) (b := 219) (fun _ => rfl) trivial (fun h46 => ?_) (fun h46 => ?_)
          · -- 232: ((Z 19).2 r 2) = (2 : Int32)
            refine mw_go mu_g173 (k := 2) (f1 := (235, [(7, .inl ((Z 19).2 r 2)), (6, .inl (nI r)), (3, .inl (nI q)), (0, .inr (.inr (some 92))), (1, .inl (nI k)), (2, .inl (nI w)), (4, .inl (nI a)), (5, .inl ((nI l) - (1 : Int32)))], [.inl (3 : Int32), .inl ((Z 19).2 r 2)], Hsa)) (C := []) rfl trivial ?_
            refine mw_if (P := ((Z 19).2 r 2) = (3 : Int32)) (a := 238) (b := 242) (fun _ => rfl) trivial (fun h47 => absurd h47 h40) (fun _ => ?_)
            refine mw_go mu_g173 (k := 2) (f1 := (245, [(7, .inl ((Z 19).2 r 2)), (6, .inl (nI r)), (3, .inl (nI q)), (0, .inr (.inr (some 92))), (1, .inl (nI k)), (2, .inl (nI w)), (4, .inl (nI a)), (5, .inl ((nI l) - (1 : Int32)))], [.inl (2 : Int32), .inl ((Z 19).2 r 2)], Hsa)) (C := []) rfl trivial ?_
            refine mw_if (P := ((Z 19).2 r 2) = (2 : Int32)) (a := 248) (b := 252) (fun _ => rfl) trivial (fun _ => ?_) (fun h48 => absurd h46 h48)
            refine mw_go mu_g173 (k := 5) (f1 := (259, [(8, .inl (3 : Int32)), (7, .inl ((Z 19).2 r 2)), (6, .inl (nI r)), (3, .inl (nI q)), (0, .inr (.inr (some 92))), (1, .inl (nI k)), (2, .inl (nI w)), (4, .inl (nI a)), (5, .inl ((nI l) - (1 : Int32)))], [.inr (.inr (mu_r Hsa 92 2))], Hsa)) (C := [mu_is Hsa (some 92) 12]) rfl (show mu_is Hsa (some 92) 12 from hpa.1.is rfl) ?_
            rw [hpa.2.2.1]
            refine mw_go mu_g173 (k := 1) (f1 := (262, [(8, .inl (3 : Int32)), (7, .inl ((Z 19).2 r 2)), (6, .inl (nI r)), (3, .inl (nI q)), (0, .inr (.inr (some 92))), (1, .inl (nI k)), (2, .inl (nI w)), (4, .inl (nI a)), (5, .inl ((nI l) - (1 : Int32)))], [.inr (.inr (mu_r Hsa m 9))], Hsa)) (C := [mu_is Hsa (some m) 6]) rfl (show mu_is Hsa (some m) 6 from (show mu_is Hsa (some m) 6 from gi_im hpa.1 hpa.2.1)) ?_
            rw [(show mu_r Hsa m 9 = some (m + 19) from (gi_mr hpa.1 hpa.2.1 (j := 9) (by decide)).trans (congrArg some (by omega)))]
            refine mw_go mu_g173 (k := 3) (f1 := (266, [(8, .inl (3 : Int32)), (7, .inl ((Z 19).2 r 2)), (6, .inl (nI r)), (3, .inl (nI q)), (0, .inr (.inr (some 92))), (1, .inl (nI k)), (2, .inl (nI w)), (4, .inl (nI a)), (5, .inl ((nI l) - (1 : Int32)))], [.inl ((Z 19).2 r 2), .inl (2 : Int32), .inl (nI w), .inr (.inr (some (m + 19)))], Hsa)) (C := []) rfl trivial ?_
            refine mw_cV (fun _ => rfl) (show mu_is Hsa (some (m + 19)) 10 from (hpa.1.w (md_w9 hpa.2.1)).1) (dm.setr (C := C) (d := (d + 1)) hpa rfl (j := 9) (by decide) rfl (nI w) ((Z 19).2 r 2) (c := 2) (by decide)) (fun H49 q49 => ?_)
            obtain ⟨hp49, qt49, ha49, qh49⟩ := q49
            have ht49 := hta.trans qt49
            refine mw_go mu_g173 (k := 2) (f1 := (273, [(8, .inl (3 : Int32)), (7, .inl ((Z 19).2 r 2)), (6, .inl (nI r)), (3, .inl (nI q)), (0, .inr (.inr (some 92))), (1, .inl (nI k)), (2, .inl (nI w)), (4, .inl (nI a)), (5, .inl ((nI l) - (1 : Int32)))], [.inr (.inr (mu_r H49 92 2))], H49)) (C := [mu_is H49 (some 92) 12]) rfl (show mu_is H49 (some 92) 12 from hp49.1.is rfl) ?_
            rw [hp49.2.2.1]
            refine mw_go mu_g173 (k := 1) (f1 := (276, [(8, .inl (3 : Int32)), (7, .inl ((Z 19).2 r 2)), (6, .inl (nI r)), (3, .inl (nI q)), (0, .inr (.inr (some 92))), (1, .inl (nI k)), (2, .inl (nI w)), (4, .inl (nI a)), (5, .inl ((nI l) - (1 : Int32)))], [.inr (.inr (mu_r H49 m 9))], H49)) (C := [mu_is H49 (some m) 6]) rfl (show mu_is H49 (some m) 6 from (show mu_is H49 (some m) 6 from gi_im hp49.1 hp49.2.1)) ?_
            rw [(show mu_r H49 m 9 = some (m + 19) from (gi_mr hp49.1 hp49.2.1 (j := 9) (by decide)).trans (congrArg some (by omega)))]
            refine mw_go mu_g173 (k := 4) (f1 := (281, [(8, .inl (3 : Int32)), (7, .inl ((Z 19).2 r 2)), (6, .inl (nI r)), (3, .inl (nI q)), (0, .inr (.inr (some 92))), (1, .inl (nI k)), (2, .inl (nI w)), (4, .inl (nI a)), (5, .inl ((nI l) - (1 : Int32)))], [.inl (nI r), .inr (.inr (some 92)), .inl (3 : Int32), .inl (nI w), .inr (.inr (some (m + 19)))], H49)) (C := []) rfl trivial ?_
            refine mw_cIe (fun _ => rfl) (show mu_is H49 (some 92) 12 from hp49.1.is rfl) (so_rowOf2 (d := d) hp49 ha49 (nI r)) ?_
            obtain ⟨vv, ev, hv1, hv2⟩ := ((hZ.2.2.1 r hrZ).2 q hqM e0Z).2.1 h46
            rw [show rwo ((ax 9 (ak m Hsa) (nI w) 2 ((Z 19).2 r 2)) 19) (nI r) = nI vv from (if_neg (nI_pos (by omega))).trans ((tget_nI (by omega)).trans (by rw [(hkz.set9 (by decide)).1 19 (by decide) (by decide)]; exact ev))]
            refine mw_go mu_g173 (k := 2) (f1 := (288, [(8, .inl (3 : Int32)), (7, .inl ((Z 19).2 r 2)), (6, .inl (nI r)), (3, .inl (nI q)), (0, .inr (.inr (some 92))), (1, .inl (nI k)), (2, .inl (nI w)), (4, .inl (nI a)), (5, .inl ((nI l) - (1 : Int32)))], [.inr (.inr (mu_r H49 92 2)), .inl (nI vv), .inl (3 : Int32), .inl (nI w), .inr (.inr (some (m + 19)))], H49)) (C := [mu_is H49 (some 92) 12]) rfl (show mu_is H49 (some 92) 12 from hp49.1.is rfl) ?_
            rw [hp49.2.2.1]
            refine mw_go mu_g173 (k := 1) (f1 := (291, [(8, .inl (3 : Int32)), (7, .inl ((Z 19).2 r 2)), (6, .inl (nI r)), (3, .inl (nI q)), (0, .inr (.inr (some 92))), (1, .inl (nI k)), (2, .inl (nI w)), (4, .inl (nI a)), (5, .inl ((nI l) - (1 : Int32)))], [.inr (.inr (mu_r H49 m 1)), .inl (nI vv), .inl (3 : Int32), .inl (nI w), .inr (.inr (some (m + 19)))], H49)) (C := [mu_is H49 (some m) 6]) rfl (show mu_is H49 (some m) 6 from (show mu_is H49 (some m) 6 from gi_im hp49.1 hp49.2.1)) ?_
            rw [(show mu_r H49 m 1 = some (m + 3) from (gi_mr hp49.1 hp49.2.1 (j := 1) (by decide)).trans (congrArg some (by omega)))]
            refine mw_go mu_g173 (k := 2) (f1 := (294, [(8, .inl (3 : Int32)), (7, .inl ((Z 19).2 r 2)), (6, .inl (nI r)), (3, .inl (nI q)), (0, .inr (.inr (some 92))), (1, .inl (nI k)), (2, .inl (nI w)), (4, .inl (nI a)), (5, .inl ((nI l) - (1 : Int32)))], [.inl (3 : Int32), .inl (nI q), .inr (.inr (some (m + 3))), .inl (nI vv), .inl (3 : Int32), .inl (nI w), .inr (.inr (some (m + 19)))], H49)) (C := []) rfl trivial ?_
            refine mw_cIe (fun _ => rfl) (show mu_is H49 (some (m + 3)) 10 from (hp49.1.w (md_w1 hp49.2.1)).1) (dm.getr (d := (d + 1)) hp49 ha49 (j := 1) (by decide) rfl (nI q) (c := 3) (by decide)) ?_
            rw [show (tget ((ax 9 (ak m Hsa) (nI w) 2 ((Z 19).2 r 2)) 1) (nI q) 3) = (nI (sp Z q 3)) from (hkz.set9 (by decide)).start hZ hqM (by decide) (by decide)]
            refine mw_go mu_g173 (k := 1) (f1 := (298, [(8, .inl (3 : Int32)), (7, .inl ((Z 19).2 r 2)), (6, .inl (nI r)), (3, .inl (nI q)), (0, .inr (.inr (some 92))), (1, .inl (nI k)), (2, .inl (nI w)), (4, .inl (nI a)), (5, .inl ((nI l) - (1 : Int32)))], [.inl ((nI vv) - (nI (sp Z q 3))), .inl (3 : Int32), .inl (nI w), .inr (.inr (some (m + 19)))], H49)) (C := []) rfl trivial ?_
            rw [show ((nI vv) - (nI (sp Z q 3))) = nI (vv - sp Z q 3) from pk_sub hv1]
            refine mw_cV (fun _ => rfl) (show mu_is H49 (some (m + 19)) 10 from (hp49.1.w (md_w9 hp49.2.1)).1) (dm.setr (C := C) (d := (d + 1)) hp49 ha49 (j := 9) (by decide) rfl (nI w) (nI (vv - sp Z q 3)) (c := 3) (by decide)) (fun H52 q52 => ?_)
            obtain ⟨hp52, qt52, ha52, qh52⟩ := q52
            have ht52 := ht49.trans qt52
            refine mw_go mu_g173 (k := 1) (f1 := (302, [(8, .inl (3 : Int32)), (7, .inl ((Z 19).2 r 2)), (6, .inl (nI r)), (3, .inl (nI q)), (0, .inr (.inr (some 92))), (1, .inl (nI k)), (2, .inl (nI w)), (4, .inl (nI a)), (5, .inl ((nI l) - (1 : Int32)))], [.inl (1 : Int32)], H52)) (C := []) rfl trivial ?_
            exact mw_of (fun _ => mu_ret rfl (Or.inr rfl) ⟨_, H52, rfl, Or.inr rfl, hp52, ht52, fun z => (qh52 z).trans ((qh49 z).trans (h95 z)), (by rw [ha52]; exact ((hkz.set9 (by decide)).set9 (by decide))), fun r q hr => by rw [ha52, ax_c (fun _ z => absurd (z.trans (nI_clamp (by omega))) hr), ax_c (fun _ z => absurd (z.trans (nI_clamp (by omega))) hr), he9], fun p hp => by rw [ha52, ax_ne (by decide), ax_ne (by decide)]; exact hst p (by omega), fun _ => ⟨a, l, q, ha, hl, hal, hqM, (by rw [ha52, ax_ne (by decide), ax_ne (by decide)]; exact hwk), Or.inr (Or.inr (Or.inl ⟨(by rw [ha52, ax_c (fun _ _ => by decide), ax_hit (by rw [hkz.2.1]; exact hwN) (by decide) (by omega)]; exact h46), vv, (by rw [ha52]; exact ax_hit (by rw [ax_n]; exact (by rw [hkz.2.1]; exact hwN)) (by decide) (by omega)), hv1, hv2⟩))⟩⟩)
          · -- 219: not ((Z 19).2 r 2) = (2 : Int32)
            refine mw_go mu_g173 (k := 2) (f1 := (222, [(7, .inl ((Z 19).2 r 2)), (6, .inl (nI r)), (3, .inl (nI q)), (0, .inr (.inr (some 92))), (1, .inl (nI k)), (2, .inl (nI w)), (4, .inl (nI a)), (5, .inl ((nI l) - (1 : Int32)))], [.inl (1 : Int32), .inl ((Z 19).2 r 2)], Hsa)) (C := []) rfl trivial ?_
            refine mw_if (P := ((Z 19).2 r 2) = (1 : Int32)) (a := 225) (b := 230) (fun _ => rfl) trivial (fun h53 => ?_) (fun h53 => ?_)
            · -- 225: ((Z 19).2 r 2) = (1 : Int32)
              refine mw_go mu_g173 (k := 1) (f1 := (227, [(7, .inl ((Z 19).2 r 2)), (6, .inl (nI r)), (3, .inl (nI q)), (0, .inr (.inr (some 92))), (1, .inl (nI k)), (2, .inl (nI w)), (4, .inl (nI a)), (5, .inl ((nI l) - (1 : Int32)))], [.inl ((nI l) - (1 : Int32))], Hsa)) (C := []) rfl trivial ?_
              refine mw_if (P := 0 < ((nI l) - (1 : Int32))) (a := 230) (b := 232) (fun _ => rfl) trivial (fun h54 => ?_) (fun h54 => ?_)
              · -- 230: 0 < ((nI l) - (1 : Int32))
                refine mw_go mu_g173 (k := 1) (f1 := (231, [(7, .inl ((Z 19).2 r 2)), (6, .inl (nI r)), (3, .inl (nI q)), (0, .inr (.inr (some 92))), (1, .inl (nI k)), (2, .inl (nI w)), (4, .inl (nI a)), (5, .inl ((nI l) - (1 : Int32)))], [.inl (0 : Int32)], Hsa)) (C := []) rfl trivial ?_
                exact mw_of (fun _ => mu_ret rfl (Or.inl rfl) ⟨_, Hsa, rfl, Or.inl rfl, hpa, hta, fun z => h95 z, hkz, fun r q hr => by rw [he9], fun p hp => hst p (by omega), fun z => absurd z (by decide)⟩)
              · -- 232: not 0 < ((nI l) - (1 : Int32))
                refine mw_go mu_g173 (k := 2) (f1 := (235, [(7, .inl ((Z 19).2 r 2)), (6, .inl (nI r)), (3, .inl (nI q)), (0, .inr (.inr (some 92))), (1, .inl (nI k)), (2, .inl (nI w)), (4, .inl (nI a)), (5, .inl ((nI l) - (1 : Int32)))], [.inl (3 : Int32), .inl ((Z 19).2 r 2)], Hsa)) (C := []) rfl trivial ?_
                refine mw_if (P := ((Z 19).2 r 2) = (3 : Int32)) (a := 238) (b := 242) (fun _ => rfl) trivial (fun h55 => absurd h55 h40) (fun _ => ?_)
                refine mw_go mu_g173 (k := 2) (f1 := (245, [(7, .inl ((Z 19).2 r 2)), (6, .inl (nI r)), (3, .inl (nI q)), (0, .inr (.inr (some 92))), (1, .inl (nI k)), (2, .inl (nI w)), (4, .inl (nI a)), (5, .inl ((nI l) - (1 : Int32)))], [.inl (2 : Int32), .inl ((Z 19).2 r 2)], Hsa)) (C := []) rfl trivial ?_
                refine mw_if (P := ((Z 19).2 r 2) = (2 : Int32)) (a := 248) (b := 252) (fun _ => rfl) trivial (fun h56 => absurd h56 h46) (fun _ => ?_)
                refine mw_go mu_g173 (k := 4) (f1 := (259, [(8, .inl (1 : Int32)), (7, .inl ((Z 19).2 r 2)), (6, .inl (nI r)), (3, .inl (nI q)), (0, .inr (.inr (some 92))), (1, .inl (nI k)), (2, .inl (nI w)), (4, .inl (nI a)), (5, .inl ((nI l) - (1 : Int32)))], [.inr (.inr (mu_r Hsa 92 2))], Hsa)) (C := [mu_is Hsa (some 92) 12]) rfl (show mu_is Hsa (some 92) 12 from hpa.1.is rfl) ?_
                rw [hpa.2.2.1]
                refine mw_go mu_g173 (k := 1) (f1 := (262, [(8, .inl (1 : Int32)), (7, .inl ((Z 19).2 r 2)), (6, .inl (nI r)), (3, .inl (nI q)), (0, .inr (.inr (some 92))), (1, .inl (nI k)), (2, .inl (nI w)), (4, .inl (nI a)), (5, .inl ((nI l) - (1 : Int32)))], [.inr (.inr (mu_r Hsa m 9))], Hsa)) (C := [mu_is Hsa (some m) 6]) rfl (show mu_is Hsa (some m) 6 from (show mu_is Hsa (some m) 6 from gi_im hpa.1 hpa.2.1)) ?_
                rw [(show mu_r Hsa m 9 = some (m + 19) from (gi_mr hpa.1 hpa.2.1 (j := 9) (by decide)).trans (congrArg some (by omega)))]
                refine mw_go mu_g173 (k := 3) (f1 := (266, [(8, .inl (1 : Int32)), (7, .inl ((Z 19).2 r 2)), (6, .inl (nI r)), (3, .inl (nI q)), (0, .inr (.inr (some 92))), (1, .inl (nI k)), (2, .inl (nI w)), (4, .inl (nI a)), (5, .inl ((nI l) - (1 : Int32)))], [.inl ((Z 19).2 r 2), .inl (2 : Int32), .inl (nI w), .inr (.inr (some (m + 19)))], Hsa)) (C := []) rfl trivial ?_
                refine mw_cV (fun _ => rfl) (show mu_is Hsa (some (m + 19)) 10 from (hpa.1.w (md_w9 hpa.2.1)).1) (dm.setr (C := C) (d := (d + 1)) hpa rfl (j := 9) (by decide) rfl (nI w) ((Z 19).2 r 2) (c := 2) (by decide)) (fun H57 q57 => ?_)
                obtain ⟨hp57, qt57, ha57, qh57⟩ := q57
                have ht57 := hta.trans qt57
                refine mw_go mu_g173 (k := 2) (f1 := (273, [(8, .inl (1 : Int32)), (7, .inl ((Z 19).2 r 2)), (6, .inl (nI r)), (3, .inl (nI q)), (0, .inr (.inr (some 92))), (1, .inl (nI k)), (2, .inl (nI w)), (4, .inl (nI a)), (5, .inl ((nI l) - (1 : Int32)))], [.inr (.inr (mu_r H57 92 2))], H57)) (C := [mu_is H57 (some 92) 12]) rfl (show mu_is H57 (some 92) 12 from hp57.1.is rfl) ?_
                rw [hp57.2.2.1]
                refine mw_go mu_g173 (k := 1) (f1 := (276, [(8, .inl (1 : Int32)), (7, .inl ((Z 19).2 r 2)), (6, .inl (nI r)), (3, .inl (nI q)), (0, .inr (.inr (some 92))), (1, .inl (nI k)), (2, .inl (nI w)), (4, .inl (nI a)), (5, .inl ((nI l) - (1 : Int32)))], [.inr (.inr (mu_r H57 m 9))], H57)) (C := [mu_is H57 (some m) 6]) rfl (show mu_is H57 (some m) 6 from (show mu_is H57 (some m) 6 from gi_im hp57.1 hp57.2.1)) ?_
                rw [(show mu_r H57 m 9 = some (m + 19) from (gi_mr hp57.1 hp57.2.1 (j := 9) (by decide)).trans (congrArg some (by omega)))]
                refine mw_go mu_g173 (k := 4) (f1 := (281, [(8, .inl (1 : Int32)), (7, .inl ((Z 19).2 r 2)), (6, .inl (nI r)), (3, .inl (nI q)), (0, .inr (.inr (some 92))), (1, .inl (nI k)), (2, .inl (nI w)), (4, .inl (nI a)), (5, .inl ((nI l) - (1 : Int32)))], [.inl (nI r), .inr (.inr (some 92)), .inl (3 : Int32), .inl (nI w), .inr (.inr (some (m + 19)))], H57)) (C := []) rfl trivial ?_
                refine mw_cIe (fun _ => rfl) (show mu_is H57 (some 92) 12 from hp57.1.is rfl) (so_rowOf2 (d := d) hp57 ha57 (nI r)) ?_
                obtain ⟨vv, ev, hv1, hv2⟩ := ((hZ.2.2.1 r hrZ).2 q hqM e0Z).1 h53
                rw [show rwo ((ax 9 (ak m Hsa) (nI w) 2 ((Z 19).2 r 2)) 19) (nI r) = nI vv from (if_neg (nI_pos (by omega))).trans ((tget_nI (by omega)).trans (by rw [(hkz.set9 (by decide)).1 19 (by decide) (by decide)]; exact ev))]
                refine mw_go mu_g173 (k := 2) (f1 := (288, [(8, .inl (1 : Int32)), (7, .inl ((Z 19).2 r 2)), (6, .inl (nI r)), (3, .inl (nI q)), (0, .inr (.inr (some 92))), (1, .inl (nI k)), (2, .inl (nI w)), (4, .inl (nI a)), (5, .inl ((nI l) - (1 : Int32)))], [.inr (.inr (mu_r H57 92 2)), .inl (nI vv), .inl (3 : Int32), .inl (nI w), .inr (.inr (some (m + 19)))], H57)) (C := [mu_is H57 (some 92) 12]) rfl (show mu_is H57 (some 92) 12 from hp57.1.is rfl) ?_
                rw [hp57.2.2.1]
                refine mw_go mu_g173 (k := 1) (f1 := (291, [(8, .inl (1 : Int32)), (7, .inl ((Z 19).2 r 2)), (6, .inl (nI r)), (3, .inl (nI q)), (0, .inr (.inr (some 92))), (1, .inl (nI k)), (2, .inl (nI w)), (4, .inl (nI a)), (5, .inl ((nI l) - (1 : Int32)))], [.inr (.inr (mu_r H57 m 1)), .inl (nI vv), .inl (3 : Int32), .inl (nI w), .inr (.inr (some (m + 19)))], H57)) (C := [mu_is H57 (some m) 6]) rfl (show mu_is H57 (some m) 6 from (show mu_is H57 (some m) 6 from gi_im hp57.1 hp57.2.1)) ?_
                rw [(show mu_r H57 m 1 = some (m + 3) from (gi_mr hp57.1 hp57.2.1 (j := 1) (by decide)).trans (congrArg some (by omega)))]
                refine mw_go mu_g173 (k := 2) (f1 := (294, [(8, .inl (1 : Int32)), (7, .inl ((Z 19).2 r 2)), (6, .inl (nI r)), (3, .inl (nI q)), (0, .inr (.inr (some 92))), (1, .inl (nI k)), (2, .inl (nI w)), (4, .inl (nI a)), (5, .inl ((nI l) - (1 : Int32)))], [.inl (1 : Int32), .inl (nI q), .inr (.inr (some (m + 3))), .inl (nI vv), .inl (3 : Int32), .inl (nI w), .inr (.inr (some (m + 19)))], H57)) (C := []) rfl trivial ?_
                refine mw_cIe (fun _ => rfl) (show mu_is H57 (some (m + 3)) 10 from (hp57.1.w (md_w1 hp57.2.1)).1) (dm.getr (d := (d + 1)) hp57 ha57 (j := 1) (by decide) rfl (nI q) (c := 1) (by decide)) ?_
                rw [show (tget ((ax 9 (ak m Hsa) (nI w) 2 ((Z 19).2 r 2)) 1) (nI q) 1) = (nI (sp Z q 1)) from (hkz.set9 (by decide)).start hZ hqM (by decide) (by decide)]
                refine mw_go mu_g173 (k := 1) (f1 := (298, [(8, .inl (1 : Int32)), (7, .inl ((Z 19).2 r 2)), (6, .inl (nI r)), (3, .inl (nI q)), (0, .inr (.inr (some 92))), (1, .inl (nI k)), (2, .inl (nI w)), (4, .inl (nI a)), (5, .inl ((nI l) - (1 : Int32)))], [.inl ((nI vv) - (nI (sp Z q 1))), .inl (3 : Int32), .inl (nI w), .inr (.inr (some (m + 19)))], H57)) (C := []) rfl trivial ?_
                rw [show ((nI vv) - (nI (sp Z q 1))) = nI (vv - sp Z q 1) from pk_sub hv1]
                refine mw_cV (fun _ => rfl) (show mu_is H57 (some (m + 19)) 10 from (hp57.1.w (md_w9 hp57.2.1)).1) (dm.setr (C := C) (d := (d + 1)) hp57 ha57 (j := 9) (by decide) rfl (nI w) (nI (vv - sp Z q 1)) (c := 3) (by decide)) (fun H60 q60 => ?_)
                obtain ⟨hp60, qt60, ha60, qh60⟩ := q60
                have ht60 := ht57.trans qt60
                refine mw_go mu_g173 (k := 1) (f1 := (302, [(8, .inl (1 : Int32)), (7, .inl ((Z 19).2 r 2)), (6, .inl (nI r)), (3, .inl (nI q)), (0, .inr (.inr (some 92))), (1, .inl (nI k)), (2, .inl (nI w)), (4, .inl (nI a)), (5, .inl ((nI l) - (1 : Int32)))], [.inl (1 : Int32)], H60)) (C := []) rfl trivial ?_
                exact mw_of (fun _ => mu_ret rfl (Or.inr rfl) ⟨_, H60, rfl, Or.inr rfl, hp60, ht60, fun z => (qh60 z).trans ((qh57 z).trans (h95 z)), (by rw [ha60]; exact ((hkz.set9 (by decide)).set9 (by decide))), fun r q hr => by rw [ha60, ax_c (fun _ z => absurd (z.trans (nI_clamp (by omega))) hr), ax_c (fun _ z => absurd (z.trans (nI_clamp (by omega))) hr), he9], fun p hp => by rw [ha60, ax_ne (by decide), ax_ne (by decide)]; exact hst p (by omega), fun _ => ⟨a, l, q, ha, hl, hal, hqM, (by rw [ha60, ax_ne (by decide), ax_ne (by decide)]; exact hwk), Or.inr (Or.inr (Or.inr ⟨(by rw [ha60, ax_c (fun _ _ => by decide), ax_hit (by rw [hkz.2.1]; exact hwN) (by decide) (by omega)]; exact h53), vv, (by rw [ha60]; exact ax_hit (by rw [ax_n]; exact (by rw [hkz.2.1]; exact hwN)) (by decide) (by omega)), hv1, hv2⟩))⟩⟩)
            · -- 230: not ((Z 19).2 r 2) = (1 : Int32)
              refine mw_go mu_g173 (k := 1) (f1 := (231, [(7, .inl ((Z 19).2 r 2)), (6, .inl (nI r)), (3, .inl (nI q)), (0, .inr (.inr (some 92))), (1, .inl (nI k)), (2, .inl (nI w)), (4, .inl (nI a)), (5, .inl ((nI l) - (1 : Int32)))], [.inl (0 : Int32)], Hsa)) (C := []) rfl trivial ?_
              exact mw_of (fun _ => mu_ret rfl (Or.inl rfl) ⟨_, Hsa, rfl, Or.inl rfl, hpa, hta, fun z => h95 z, hkz, fun r q hr => by rw [he9], fun p hp => hst p (by omega), fun z => absurd z (by decide)⟩)
theorem so_known2 (h : dm m H) (hZ : KZ Z) (hk0 : kz Z (ak m H)) (hMC0 : MC (ak m H 19) H) : mu_TI (mu_D (d + 4)) 172 [.inr (.inr (some 92))] H (fun x H1 => (x = 0 ∨ x = 1) ∧ dm m H1 ∧ rl m C H H1 ∧ (∀ z, mu_i H1 95 z = mu_i H 95 z) ∧ kz Z (ak m H1) ∧ (x = 1 → ∀ q, q < (Z 1).1 → ¬ (Z 1).2 q 7 = 0 → ∀ r, sp Z q 6 ≤ r → r < sp Z (q + 1) 6 → KN Z (ak m H1) q r)) := by
  have b1 := hZ.2.2.2.1 1 (by decide)
  have b3 := hZ.2.2.2.1 3 (by decide)
  have b9 := hZ.2.2.2.1 9 (by decide)
  have b10 := hZ.2.2.2.1 10 (by decide)
  refine mu_meth (M := mu_m172) rfl rfl ?_
  refine mw_ht (mu_fn_of (show [0].Nodup by decide)) ?_
  refine mw_go mu_g172 (k := 2) (f1 := (2, [(1, .inl (0 : Int32)), (0, .inr (.inr (some 92)))], [], H)) (C := []) rfl trivial ?_
  show mu_W _ _ (2, [(1, .inl (nI 0)), (0, .inr (.inr (some 92)))], [], H) _
  refine mw_sub (L' := [(1, .inl (nI 0)), (0, .inr (.inr (some 92)))]) (by simp) ?_
  refine mw_down (α := Nat × mu_H) (fun zs => (2, [(1, .inl (nI zs.1)), (0, .inr (.inr (some 92)))], [], zs.2)) (fun zs => (Z 1).1 - zs.1) (fun zs => dm m zs.2 ∧ rl m C H zs.2 ∧ (zs.1 ≤ (Z 1).1) ∧ (kz Z (ak m zs.2)) ∧ (∀ z, mu_i zs.2 95 z = mu_i H 95 z) ∧ (MC (ak m zs.2 19) zs.2) ∧ (∀ q, q < zs.1 → ¬ (Z 1).2 q 7 = 0 → ∀ r, sp Z q 6 ≤ r → r < sp Z (q + 1) 6 → KN Z (ak m zs.2) q r)) (fun zs hza iha => ?_) (0, H) ⟨h, (rl.refl m C H), (show 0 ≤ (Z 1).1 from by omega), (show kz Z (ak m H) from hk0), (show ∀ z, mu_i H 95 z = mu_i H 95 z from (fun _ => rfl)), (show MC (ak m H 19) H from hMC0), (show ∀ q, q < 0 → ¬ (Z 1).2 q 7 = 0 → ∀ r, sp Z q 6 ≤ r → r < sp Z (q + 1) 6 → KN Z (ak m H) q r from (fun q hq => absurd hq (Nat.not_lt_zero q)))⟩
  obtain ⟨k, Hsa⟩ := zs
  obtain ⟨hpa, hta, hk1, hkz, h95, hMC, hKs⟩ := hza
  have hpa : dm m Hsa := hpa
  have hta : rl m C H Hsa := hta
  have hk1 : k ≤ (Z 1).1 := hk1
  have hkz : kz Z (ak m Hsa) := hkz
  have h95 : ∀ z, mu_i Hsa 95 z = mu_i H 95 z := h95
  have hMC : MC (ak m Hsa 19) Hsa := hMC
  have hKs : ∀ q, q < k → ¬ (Z 1).2 q 7 = 0 → ∀ r, sp Z q 6 ≤ r → r < sp Z (q + 1) 6 → KN Z (ak m Hsa) q r := hKs
  show mu_W _ _ (2, [(1, .inl (nI k)), (0, .inr (.inr (some 92)))], [], Hsa) _
  refine mw_go mu_g172 (k := 3) (f1 := (7, [(1, .inl (nI k)), (0, .inr (.inr (some 92)))], [.inr (.inr (mu_r Hsa 92 2)), .inl (nI k)], Hsa)) (C := [mu_is Hsa (some 92) 12]) rfl (show mu_is Hsa (some 92) 12 from hpa.1.is rfl) ?_
  rw [hpa.2.2.1]
  refine mw_go mu_g172 (k := 1) (f1 := (10, [(1, .inl (nI k)), (0, .inr (.inr (some 92)))], [.inr (.inr (mu_r Hsa m 1)), .inl (nI k)], Hsa)) (C := [mu_is Hsa (some m) 6]) rfl (show mu_is Hsa (some m) 6 from (show mu_is Hsa (some m) 6 from gi_im hpa.1 hpa.2.1)) ?_
  rw [(show mu_r Hsa m 1 = some (m + 3) from (gi_mr hpa.1 hpa.2.1 (j := 1) (by decide)).trans (congrArg some (by omega)))]
  refine mw_go mu_g172 (k := 1) (f1 := (13, [(1, .inl (nI k)), (0, .inr (.inr (some 92)))], [.inl (mu_i Hsa (m + 3) 2), .inl (nI k)], Hsa)) (C := [mu_is Hsa (some (m + 3)) 10]) rfl (show mu_is Hsa (some (m + 3)) 10 from (hpa.1.w (md_w1 hpa.2.1)).1) ?_
  rw [(show mu_i Hsa (m + 3) 2 = nI ((ak m Hsa) 1).1 from hpa.size rfl (j := 1) (by decide))]
  refine mw_if (P := (nI k) < (nI ((ak m Hsa) 1).1)) (a := 16) (b := 90) (fun _ => rfl) trivial (fun h1 => ?_) (fun h1 => ?_)
  · -- 16: (nI k) < (nI ((ak m Hsa) 1).1)
    rw [hkz.1 1 (by decide) (by decide)] at h1
    have hkM : k < (Z 1).1 := (nI_ltI (by omega) (by omega)).mp h1
    obtain ⟨l1, l2, l3⟩ := hZ.le hkM (c := 6) (j := 9) (by decide) (by decide) rfl
    refine mw_go mu_g172 (k := 2) (f1 := (20, [(1, .inl (nI k)), (0, .inr (.inr (some 92)))], [.inr (.inr (mu_r Hsa 92 2))], Hsa)) (C := [mu_is Hsa (some 92) 12]) rfl (show mu_is Hsa (some 92) 12 from hpa.1.is rfl) ?_
    rw [hpa.2.2.1]
    refine mw_go mu_g172 (k := 1) (f1 := (23, [(1, .inl (nI k)), (0, .inr (.inr (some 92)))], [.inr (.inr (mu_r Hsa m 1))], Hsa)) (C := [mu_is Hsa (some m) 6]) rfl (show mu_is Hsa (some m) 6 from (show mu_is Hsa (some m) 6 from gi_im hpa.1 hpa.2.1)) ?_
    rw [(show mu_r Hsa m 1 = some (m + 3) from (gi_mr hpa.1 hpa.2.1 (j := 1) (by decide)).trans (congrArg some (by omega)))]
    refine mw_go mu_g172 (k := 2) (f1 := (26, [(1, .inl (nI k)), (0, .inr (.inr (some 92)))], [.inl (7 : Int32), .inl (nI k), .inr (.inr (some (m + 3)))], Hsa)) (C := []) rfl trivial ?_
    refine mw_cIe (fun _ => rfl) (show mu_is Hsa (some (m + 3)) 10 from (hpa.1.w (md_w1 hpa.2.1)).1) (dm.getr (d := (d + 2)) hpa rfl (j := 1) (by decide) rfl (nI k) (c := 7) (by decide)) ?_
    rw [show (tget ((ak m Hsa) 1) (nI k) 7) = ((Z 1).2 k 7) from (tget_nI (by omega)).trans (by rw [hkz.1 1 (by decide) (by decide)])]
    refine mw_if (P := ((Z 1).2 k 7) = 0) (a := 84) (b := 32) (fun _ => rfl) trivial (fun h3 => ?_) (fun h3 => ?_)
    · -- 84: ((Z 1).2 k 7) = 0
      refine mw_go mu_g172 (k := 2) (f1 := (2, [(1, .inl ((nI k) + 1)), (0, .inr (.inr (some 92)))], [], Hsa)) (C := []) rfl trivial ?_
      rw [nI_1 k]
      exact mw_sub (by simp) (iha (k + 1, Hsa) ⟨hpa, hta, (show (k + 1) ≤ (Z 1).1 from by omega), (show kz Z (ak m Hsa) from hkz), (show ∀ z, mu_i Hsa 95 z = mu_i H 95 z from h95), (show MC (ak m Hsa 19) Hsa from hMC), (show ∀ q, q < (k + 1) → ¬ (Z 1).2 q 7 = 0 → ∀ r, sp Z q 6 ≤ r → r < sp Z (q + 1) 6 → KN Z (ak m Hsa) q r from (fun q hq hu r r1 r2 => by by_cases hqk : q < k; exact hKs q hqk hu r r1 r2; have hqe : q = k := (by omega); subst hqe; exact absurd h3 hu))⟩ (by show (Z 1).1 - (k + 1) < (Z 1).1 - k; omega))
    · -- 32: not ((Z 1).2 k 7) = 0
      refine mw_go mu_g172 (k := 2) (f1 := (36, [(1, .inl (nI k)), (0, .inr (.inr (some 92)))], [.inr (.inr (mu_r Hsa 92 2))], Hsa)) (C := [mu_is Hsa (some 92) 12]) rfl (show mu_is Hsa (some 92) 12 from hpa.1.is rfl) ?_
      rw [hpa.2.2.1]
      refine mw_go mu_g172 (k := 1) (f1 := (39, [(1, .inl (nI k)), (0, .inr (.inr (some 92)))], [.inr (.inr (mu_r Hsa m 1))], Hsa)) (C := [mu_is Hsa (some m) 6]) rfl (show mu_is Hsa (some m) 6 from (show mu_is Hsa (some m) 6 from gi_im hpa.1 hpa.2.1)) ?_
      rw [(show mu_r Hsa m 1 = some (m + 3) from (gi_mr hpa.1 hpa.2.1 (j := 1) (by decide)).trans (congrArg some (by omega)))]
      refine mw_go mu_g172 (k := 2) (f1 := (42, [(1, .inl (nI k)), (0, .inr (.inr (some 92)))], [.inl (6 : Int32), .inl (nI k), .inr (.inr (some (m + 3)))], Hsa)) (C := []) rfl trivial ?_
      refine mw_cIe (fun _ => rfl) (show mu_is Hsa (some (m + 3)) 10 from (hpa.1.w (md_w1 hpa.2.1)).1) (dm.getr (d := (d + 2)) hpa rfl (j := 1) (by decide) rfl (nI k) (c := 6) (by decide)) ?_
      rw [show (tget ((ak m Hsa) 1) (nI k) 6) = (nI (sp Z k 6)) from hkz.start hZ hkM (by decide) (by decide)]
      refine mw_go mu_g172 (k := 1) (f1 := (46, [(2, .inl (nI (sp Z k 6))), (1, .inl (nI k)), (0, .inr (.inr (some 92)))], [], Hsa)) (C := []) rfl trivial ?_
      refine mw_sub (L' := [(2, .inl (nI (sp Z k 6))), (0, .inr (.inr (some 92))), (1, .inl (nI k))]) (by simp) ?_
      refine mw_down (α := Nat × mu_H) (fun zs => (46, [(2, .inl (nI zs.1)), (0, .inr (.inr (some 92))), (1, .inl (nI k))], [], zs.2)) (fun zs => sp Z (k + 1) 6 - zs.1) (fun zs => dm m zs.2 ∧ rl m C H zs.2 ∧ (sp Z k 6 ≤ zs.1) ∧ (zs.1 ≤ sp Z (k + 1) 6) ∧ (kz Z (ak m zs.2)) ∧ (∀ z, mu_i zs.2 95 z = mu_i H 95 z) ∧ (MC (ak m zs.2 19) zs.2) ∧ (∀ q, q < k → ¬ (Z 1).2 q 7 = 0 → ∀ r, sp Z q 6 ≤ r → r < sp Z (q + 1) 6 → KN Z (ak m zs.2) q r) ∧ (∀ r, sp Z k 6 ≤ r → r < zs.1 → KN Z (ak m zs.2) k r)) (fun zs hzb ihb => ?_) (sp Z k 6, Hsa) ⟨hpa, hta, (show sp Z k 6 ≤ (sp Z k 6) from by omega), (show (sp Z k 6) ≤ sp Z (k + 1) 6 from by omega), (show kz Z (ak m Hsa) from hkz), (show ∀ z, mu_i Hsa 95 z = mu_i H 95 z from h95), (show MC (ak m Hsa 19) Hsa from hMC), (show ∀ q, q < k → ¬ (Z 1).2 q 7 = 0 → ∀ r, sp Z q 6 ≤ r → r < sp Z (q + 1) 6 → KN Z (ak m Hsa) q r from hKs), (show ∀ r, sp Z k 6 ≤ r → r < (sp Z k 6) → KN Z (ak m Hsa) k r from (fun r r1 r2 => absurd r2 (by omega)))⟩
      obtain ⟨w, Hsb⟩ := zs
      obtain ⟨hpb, htb, hw1, hw2, hkz, h95, hMC, hKs, hKi⟩ := hzb
      have hpb : dm m Hsb := hpb
      have htb : rl m C H Hsb := htb
      have hw1 : sp Z k 6 ≤ w := hw1
      have hw2 : w ≤ sp Z (k + 1) 6 := hw2
      have hkz : kz Z (ak m Hsb) := hkz
      have h95 : ∀ z, mu_i Hsb 95 z = mu_i H 95 z := h95
      have hMC : MC (ak m Hsb 19) Hsb := hMC
      have hKs : ∀ q, q < k → ¬ (Z 1).2 q 7 = 0 → ∀ r, sp Z q 6 ≤ r → r < sp Z (q + 1) 6 → KN Z (ak m Hsb) q r := hKs
      have hKi : ∀ r, sp Z k 6 ≤ r → r < w → KN Z (ak m Hsb) k r := hKi
      show mu_W _ _ (46, [(2, .inl (nI w)), (0, .inr (.inr (some 92))), (1, .inl (nI k))], [], Hsb) _
      refine mw_go mu_g172 (k := 3) (f1 := (51, [(2, .inl (nI w)), (0, .inr (.inr (some 92))), (1, .inl (nI k))], [.inr (.inr (mu_r Hsb 92 2)), .inl (nI w)], Hsb)) (C := [mu_is Hsb (some 92) 12]) rfl (show mu_is Hsb (some 92) 12 from hpb.1.is rfl) ?_
      rw [hpb.2.2.1]
      refine mw_go mu_g172 (k := 4) (f1 := (58, [(2, .inl (nI w)), (0, .inr (.inr (some 92))), (1, .inl (nI k))], [.inr (.inr (mu_r Hsb 92 2)), .inl (6 : Int32), .inl (nI k), .inr (.inr (some m)), .inl (nI w)], Hsb)) (C := [mu_is Hsb (some 92) 12]) rfl (show mu_is Hsb (some 92) 12 from hpb.1.is rfl) ?_
      rw [hpb.2.2.1]
      refine mw_go mu_g172 (k := 1) (f1 := (61, [(2, .inl (nI w)), (0, .inr (.inr (some 92))), (1, .inl (nI k))], [.inr (.inr (mu_r Hsb m 9)), .inl (6 : Int32), .inl (nI k), .inr (.inr (some m)), .inl (nI w)], Hsb)) (C := [mu_is Hsb (some m) 6]) rfl (show mu_is Hsb (some m) 6 from (show mu_is Hsb (some m) 6 from gi_im hpb.1 hpb.2.1)) ?_
      rw [(show mu_r Hsb m 9 = some (m + 19) from (gi_mr hpb.1 hpb.2.1 (j := 9) (by decide)).trans (congrArg some (by omega)))]
      refine mw_cIe (fun _ => rfl) (show mu_is Hsb (some m) 6 from (show mu_is Hsb (some m) 6 from gi_im hpb.1 hpb.2.1)) (dm.stopr (d := (d + 1)) hpb rfl (j := 9) (by decide) rfl (c := 6) (by decide) (nI k)) ?_
      rw [show (stp (ak m Hsb) (nI k) 6 9) = (nI (sp Z (k + 1) 6)) from hkz.stop6 hZ hkM]
      refine mw_if (P := (nI w) < (nI (sp Z (k + 1) 6))) (a := 67) (b := 84) (fun _ => rfl) trivial (fun h6 => ?_) (fun h6 => ?_)
      · -- 67: (nI w) < (nI (sp Z (k + 1) 6))
        have hwb : w < sp Z (k + 1) 6 := (nI_ltI (by omega) (by omega)).mp h6
        refine mw_go mu_g172 (k := 3) (f1 := (70, [(2, .inl (nI w)), (0, .inr (.inr (some 92))), (1, .inl (nI k))], [.inl (nI w), .inl (nI k), .inr (.inr (some 92))], Hsb)) (C := []) rfl trivial ?_
        obtain ⟨a, l, ha, hl, hal, hord⟩ := hZ.2.2.2.2 w (by omega)
        refine mw_cI (fun _ => rfl) (show mu_is Hsb (some 92) 12 from hpb.1.is rfl) (so_isKnown2 (C := C) (d := d) (k := k) (w := w) (a := a) (l := l) hpb hZ hkz hMC hkM (by omega) ha hl hal) (fun x7 H7 q7 => ?_)
        obtain ⟨qx7, hp7, qt7, qh7, hkz7, q97, q107, hK7⟩ := q7
        rcases qx7 with rfl | rfl
        · -- (0 : Int32)
          have ht7 := htb.trans qt7
          refine mw_if (P := (0 : Int32) = 0) (a := 76) (b := 78) (fun _ => rfl) trivial (fun h8 => ?_) (fun h8 => absurd (by decide) h8)
          refine mw_go mu_g172 (k := 1) (f1 := (77, [(2, .inl (nI w)), (0, .inr (.inr (some 92))), (1, .inl (nI k))], [.inl (0 : Int32)], H7)) (C := []) rfl trivial ?_
          exact mw_of (fun _ => mu_ret rfl (Or.inl rfl) ⟨_, H7, rfl, Or.inl rfl, hp7, ht7, (fun z => (qh7 z).trans (h95 z)), hkz7, fun z => absurd z (by decide)⟩)
        · -- (1 : Int32)
          have ht7 := htb.trans qt7
          refine mw_if (P := (1 : Int32) = 0) (a := 76) (b := 78) (fun _ => rfl) trivial (fun h9 => absurd h9 (by decide)) (fun h9 => ?_)
          refine mw_go mu_g172 (k := 2) (f1 := (46, [(2, .inl ((nI w) + 1)), (0, .inr (.inr (some 92))), (1, .inl (nI k))], [], H7)) (C := []) rfl trivial ?_
          rw [nI_1 w]
          exact mw_sub (by simp) (ihb (w + 1, H7) ⟨hp7, ht7, (show sp Z k 6 ≤ (w + 1) from by omega), (show (w + 1) ≤ sp Z (k + 1) 6 from by omega), (show kz Z (ak m H7) from hkz7), (show ∀ z, mu_i H7 95 z = mu_i H 95 z from (fun z => (qh7 z).trans (h95 z))), (show MC (ak m H7 19) H7 from (hMC.same (by rw [hkz7.1 19 (by decide) (by decide), hkz.1 19 (by decide) (by decide)]) qh7)), (show ∀ q, q < k → ¬ (Z 1).2 q 7 = 0 → ∀ r, sp Z q 6 ≤ r → r < sp Z (q + 1) 6 → KN Z (ak m H7) q r from (fun q hq hu r r1 r2 => by have hmn := hZ.1.mono (c := 6) (by decide) (by decide) (show q + 1 ≤ k by omega) (by omega); exact (KN.keep (w := w) (a := a) (l := l - 1) (hKs q hq hu r r1 r2) (by omega) ha (by omega) (by omega) (by omega) hZ.2.2.2.2 b10 q97 q107))), (show ∀ r, sp Z k 6 ≤ r → r < (w + 1) → KN Z (ak m H7) k r from (fun r r1 r2 => by by_cases hrw : r < w; exact (KN.keep (w := w) (a := a) (l := l - 1) (hKi r r1 hrw) (by omega) ha (by omega) (by omega) (by omega) hZ.2.2.2.2 b10 q97 q107); have hre : r = w := (by omega); subst hre; exact hK7 rfl))⟩ (by show sp Z (k + 1) 6 - (w + 1) < sp Z (k + 1) 6 - w; omega))
      · -- 84: not (nI w) < (nI (sp Z (k + 1) 6))
        have hwb : ¬ w < sp Z (k + 1) 6 := fun z => h6 (nI_lt z (by omega))
        refine mw_go mu_g172 (k := 2) (f1 := (2, [(1, .inl ((nI k) + 1)), (2, .inl (nI w)), (0, .inr (.inr (some 92)))], [], Hsb)) (C := []) rfl trivial ?_
        rw [nI_1 k]
        exact mw_sub (by simp) (iha (k + 1, Hsb) ⟨hpb, htb, (show (k + 1) ≤ (Z 1).1 from by omega), (show kz Z (ak m Hsb) from hkz), (show ∀ z, mu_i Hsb 95 z = mu_i H 95 z from h95), (show MC (ak m Hsb 19) Hsb from hMC), (show ∀ q, q < (k + 1) → ¬ (Z 1).2 q 7 = 0 → ∀ r, sp Z q 6 ≤ r → r < sp Z (q + 1) 6 → KN Z (ak m Hsb) q r from (fun q hq hu r r1 r2 => by by_cases hqk : q < k; exact hKs q hqk hu r r1 r2; have hqe : q = k := (by omega); subst hqe; exact hKi r r1 (by omega)))⟩ (by show (Z 1).1 - (k + 1) < (Z 1).1 - k; omega))
  · -- 90: not (nI k) < (nI ((ak m Hsa) 1).1)
    rw [hkz.1 1 (by decide) (by decide)] at h1
    have hkM : ¬ k < (Z 1).1 := fun z => h1 (nI_lt z (by omega))
    refine mw_go mu_g172 (k := 1) (f1 := (91, [(1, .inl (nI k)), (0, .inr (.inr (some 92)))], [.inl (1 : Int32)], Hsa)) (C := []) rfl trivial ?_
    exact mw_of (fun _ => mu_ret rfl (Or.inr rfl) ⟨_, Hsa, rfl, Or.inr rfl, hpa, hta, h95, hkz, fun _ q hq hu r r1 r2 => hKs q (by omega) hu r r1 r2⟩)
end NamesKnown
