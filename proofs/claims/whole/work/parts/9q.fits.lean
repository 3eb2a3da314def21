/-! SOUND AS DATA: names differ, TYPES fit, lines fit -/
section SoundData
variable {X s : Ts} {H H1 : mu_H} {m i c j : Nat}
theorem SI.start (hI : SI m X H) (h : dm m H) (hc : CT X) (hi : i < (X 1).1) (h1 : 1 ≤ c) (h6 : c ≤ 6) : tget (ak m H 1) (nI i) c = nI (sp X i c) := by
  rw [sp_get (hc.eqs hI.2.2).1 (by rw [hI.2.2.1 1 (by decide)]; exact hi) (h.lt rfl (j := 1) (by decide)) h1 h6, hI.2.2.spc h6]
theorem SI.stop (hI : SI m X H) (h : dm m H) (hc : CT X) (hi : i < (X 1).1) (h1 : 1 ≤ c) (h6 : c ≤ 6) (hj : tabc c = j) : stp (ak m H) (nI i) c j = nI (sp X (i + 1) c) := by
  rw [sp_stp (hc.eqs hI.2.2).1 (by rw [hI.2.2.1 1 (by decide)]; exact hi) (h.lt rfl (j := 1) (by decide)) h1 h6 hj, hI.2.2.spc h6]
theorem SI.le (hI : SI m X H) (h : dm m H) (hc : CT X) (hi : i < (X 1).1) (h1 : 1 ≤ c) (h6 : c ≤ 6) (hj : tabc c = j) : sp X i c ≤ sp X (i + 1) c ∧ sp X (i + 1) c ≤ (X j).1 ∧ (X j).1 ≤ 67108864 := by
  have ht := tabc_lt h6
  rw [← hj]
  refine ⟨(hc.1 i hi c h1 h6).2.1, (hc.1 i hi c h1 h6).2.2, ?_⟩
  rw [← hI.2.2.1 _ (show tabc c < 19 by omega)]
  exact h.lt rfl (by omega)
theorem SI.n (hI : SI m X H) (hj : j < 19) : (ak m H j).1 = (X j).1 := hI.2.2.1 j hj
theorem SI.c3 (hI : SI m X H) {v : Nat} (hc : c ≤ 3) (hv : v < 2147483648) : tget (ak m H 3) (nI v) c = (X 3).2 v c := by
  rw [tget_nI hv]
  exact hI.2.2.2 3 (by decide) v c (by omega) (by omega) (by omega)
theorem nI_inj {a b : Nat} (ha : a < 2147483648) (hb : b < 2147483648) (h : nI a = nI b) : a = b := by
  have := congrArg Int32.toNatClampNeg h
  rw [nI_clamp ha, nI_clamp hb] at this
  exact this
theorem nI_neg1 {a : Nat} (ha : a < 2147483648) : ¬ nI a = -1 := fun h => nI_pos ha (by rw [h]; decide)
theorem okm_at {w : Int32} {kind : Int32} {p : Nat} (hs : (s 1).1 ≤ 67108864) (hi : i < (s 1).1) (hw : w = nI p)
    (h1 : kind = 1 → sp s i 1 ≤ p ∧ p < sp s (i + 1) 1) (h2 : kind = 2 → sp s i 3 ≤ p ∧ p < sp s (i + 1) 3) (h3 : kind = 3 → sp s i 2 ≤ p ∧ p < sp s (i + 1) 2 ∧ ¬ (s 3).2 p 1 = 3) (h4 : kind = 4 → sp s i 2 ≤ p ∧ p < sp s (i + 1) 2 ∧ (s 3).2 p 1 = 3) : okm s (nI i) kind w := by
  refine ⟨fun e => absurd e (nI_neg1 (by omega)), fun k hk e => ?_⟩
  have := nI_inj (by omega) (by omega) e
  subst this
  exact ⟨fun z => ⟨p, hw, h1 z⟩, fun z => ⟨p, hw, h2 z⟩, fun z => ⟨p, hw, h3 z⟩, fun z => ⟨p, hw, h4 z⟩⟩
theorem okm_mod {kind : Int32} {k : Nat} (hs : (s 1).1 ≤ 67108864) (hk : k < (s 1).1) : okm s (-1) kind (nI k) := ⟨fun _ => ⟨k, hk, rfl⟩, fun q hq e => absurd e.symm (nI_neg1 (by omega))⟩
theorem okm_val {kind y : Int32} {v : Nat} (hs : (s 1).1 ≤ 67108864) (hv : v ≤ 67108864) : okm s (-2 - nI v) kind y := by
  have e : (-2 - nI v).toInt = -2 - (v : Int) := by
    rw [Int32.toInt_sub, nI_toInt (by omega)]
    show Int.bmod (-2 - (v : Int)) (2 ^ 32) = _
    have e32 : (2 : Nat) ^ 32 = 4294967296 := by decide
    rw [e32]
    exact Int.bmod_eq_of_le (by omega) (by omega)
  refine ⟨fun z => ?_, fun k hk z => ?_⟩
  · rw [z] at e
    have : (-1 : Int32).toInt = -1 := by decide
    omega
  · rw [z, nI_toInt (by omega)] at e
    omega
/-- an INSTANCE's MODULE is one, and is given as much as it wants -/
def VM (s : Ts) (v : Nat) : Prop := (s 3).2 v 1 = 3 → ∃ k, k < (s 1).1 ∧ (s 3).2 v 4 = nI k ∧ (s 3).2 v 3 = nI (sp s (k + 1) 1 - sp s k 1)
/-- what stands in a line is a VARIABLE of its MODULE -/
def LV (s : Ts) (k n : Nat) : Prop := ∃ v, (s 7).2 n 1 = nI v ∧ sp s k 2 ≤ v ∧ v < sp s (k + 1) 2 ∧ ¬ (s 3).2 v 1 = 3
theorem VM.keep {s s' : Ts} {v : Nat} (h : VM s v) (e : eqc s s') (e4 : (s' 3).2 v 4 = (s 3).2 v 4) : VM s' v := fun z => by
  rw [e.2 3 (by decide) v 1 (by omega) (by omega) (by omega)] at z
  obtain ⟨k, a, b, c⟩ := h z
  exact ⟨k, by rw [e.1 1 (by decide)]; exact a, e4.trans b, by rw [e.2 3 (by decide) v 3 (by omega) (by omega) (by omega), e.spc (by decide), e.spc (by decide)]; exact c⟩
theorem LV.keep {s s' : Ts} {k n : Nat} (h : LV s k n) (e : eqc s s') (e7 : (s' 7).2 n 1 = (s 7).2 n 1) : LV s' k n := by
  obtain ⟨v, a, b, c, d⟩ := h
  exact ⟨v, e7.trans a, by rw [e.spc (by decide)]; exact b, by rw [e.spc (by decide)]; exact c, by rw [e.2 3 (by decide) v 1 (by omega) (by omega) (by omega)]; exact d⟩
theorem eqc_ax3 {s : Ts} {row y : Int32} {c : Nat} (hc : 4 ≤ c) : eqc s (ax 3 s row c y) := ⟨fun j hj => ax_n, fun j hj i c' h3 h7 h1 => ax_c (fun e _ z => h3 ⟨e, by omega⟩)⟩
theorem eqc_ax7 {s : Ts} {row y : Int32} : eqc s (ax 7 s row 1 y) := ⟨fun j hj => ax_n, fun j hj i c' h3 h7 h1 => ax_c (fun e _ z => h7 ⟨e, z⟩)⟩
theorem eqc_ax1 {s : Ts} {row y : Int32} {c : Nat} (hc : 7 ≤ c) : eqc s (ax 1 s row c y) := ⟨fun j hj => ax_n, fun j hj i c' h3 h7 h1 => ax_c (fun e _ z => h1 ⟨e, by omega⟩)⟩
/-- a number of a table that Sound writes -/
theorem SI.set (hI : SI m X H) (h95 : ∀ i, mu_i H1 95 i = mu_i H 95 i) (e19 : ak m H1 19 = ak m H 19) (e : eqc (ak m H) (ak m H1)) : SI m X H1 := by
  obtain ⟨⟨a1, a2⟩, b, c⟩ := hI
  refine ⟨⟨fun i hi => ?_, fun r hr => ?_⟩, b.eqs e e19, c.trans e⟩
  · rw [h95, e19]; exact a1 i hi
  · rw [e19] at hr ⊢; exact a2 r hr
theorem CT.list {k : Nat} (hc : CT X) (hi : i < (X 1).1) (h1 : sp X i 2 ≤ k) (h2 : k < sp X (i + 1) 2) (ht : (X 3).2 k 1 = 2) : ∃ la lb, (X 3).2 k 2 = nI la ∧ (X 3).2 k 3 = nI lb ∧ la + lb ≤ (X 4).1 := by
  obtain ⟨y, y1, y2, y3, -⟩ := hc.2.2.2.1 i hi k h1 h2
  have hy : y = 2 := by
    by_cases z : y = 2
    · exact z
    · exfalso
      rw [ht] at y2
      exact nI_ne2 y1 z y2.symm
  exact y3 hy
theorem ls2_le {t : Tb} {a b : Nat} (h : a ≤ b) : ls2 t a ≤ ls2 t b := by
  obtain ⟨k, rfl⟩ : ∃ k, b = a + k := ⟨b - a, by omega⟩
  clear h
  induction k with
  | zero => exact Nat.le_refl _
  | succ k ih => exact Nat.le_trans ih (Nat.le_add_right _ _)
/-- what may have changed while a MODULE's TYPES are looked at -/
def c4 (X : Ts) (i k : Nat) (s s' : Ts) : Prop := (∀ j, j ≠ 19 → j ≠ 3 → s' j = s j) ∧ (∀ v, ¬ (sp X i 2 ≤ v ∧ v < k) → (s' 3).2 v 4 = (s 3).2 v 4) ∧ ∀ v, sp X i 2 ≤ v → v < k → VM s' v
theorem c4.plain {k : Nat} {s s' s2 : Ts} (h : c4 X i k s s') (e : ∀ j, j ≠ 19 → j ≠ 3 → s2 j = s' j) (e4 : ∀ v, (s2 3).2 v 4 = (s' 3).2 v 4) (q : eqc s' s2) (hk : ¬ (s2 3).2 k 1 = 3) : c4 X i (k + 1) s s2 := by
  refine ⟨fun j a b => (e j a b).trans (h.1 j a b), fun v hv => (e4 v).trans (h.2.1 v (by omega)), fun v h1 h2 => ?_⟩
  by_cases hv : v < k
  · exact (h.2.2 v h1 hv).keep q (e4 v)
  · have : v = k := by omega
    subst this
    exact fun z => absurd z hk
theorem c4.inst {k : Nat} {s s' s2 : Ts} (h : c4 X i k s s') (hk : sp X i 2 ≤ k) (e : ∀ j, j ≠ 3 → s2 j = s' j) (e4 : ∀ v, v ≠ k → (s2 3).2 v 4 = (s' 3).2 v 4) (q : eqc s' s2) (hv : VM s2 k) : c4 X i (k + 1) s s2 := by
  refine ⟨fun j a b => (e j b).trans (h.1 j a b), fun v hv => (e4 v (by omega)).trans (h.2.1 v (by omega)), fun v h1 h2 => ?_⟩
  by_cases hv2 : v < k
  · exact (h.2.2 v h1 hv2).keep q (e4 v (by omega))
  · have : v = k := by omega
    subst this
    exact hv
theorem SI.eqq (h : SI m X H) (h1 : SI m X H1) : eqc (ak m H) (ak m H1) := ⟨fun j hj => (h1.n hj).trans (h.n hj).symm, fun j hj i c a b e => (h1.2.2.2 j hj i c a b e).trans (h.2.2.2 j hj i c a b e).symm⟩
/-- what may have changed while a MODULE's lines are looked at -/
def c7 (X : Ts) (i k : Nat) (s s' : Ts) : Prop := (∀ j, j ≠ 3 → j ≠ 7 → s' j = s j) ∧ (∀ v, (s' 3).2 v 4 = (s 3).2 v 4) ∧ (∀ n, ¬ (sp X i 4 ≤ n ∧ n < k) → (s' 7).2 n 1 = (s 7).2 n 1) ∧ ∀ n, sp X i 4 ≤ n → n < k → LV s' i n
theorem c7.more {k : Nat} {s s' s2 : Ts} (h : c7 X i k s s') (hk : sp X i 4 ≤ k) (e : ∀ j, j ≠ 3 → j ≠ 7 → s2 j = s' j) (e4 : ∀ v, (s2 3).2 v 4 = (s' 3).2 v 4) (e7 : ∀ n, n ≠ k → (s2 7).2 n 1 = (s' 7).2 n 1) (q : eqc s' s2) (hv : LV s2 i k) : c7 X i (k + 1) s s2 := by
  refine ⟨fun j a b => (e j a b).trans (h.1 j a b), fun v => (e4 v).trans (h.2.1 v), fun n hn => (e7 n (by omega)).trans (h.2.2.1 n (by omega)), fun n h1 h2 => ?_⟩
  by_cases hn : n < k
  · exact (h.2.2.2 n h1 hn).keep q (e7 n (by omega))
  · have : n = k := by omega
    subst this
    exact hv
end SoundData
section SoundData2
variable {H : mu_H} {d m i : Nat} {X : Ts} {C : Nat → Nat}
theorem so_differ2 (h : dm m H) (hI : SI m X H) (hc : CT X) (hi : i < (X 1).1) (hC : 10 * ((ak m H 19).1 + (sp X (i + 1) 1 - sp X i 1) + (sp X (i + 1) 2 - sp X i 2) + (sp X (i + 1) 3 - sp X i 3)) + 5 ≤ C 19) (hC8 : C 19 ≤ 8388608) : mu_TI (mu_D (d + 5)) 179 [.inr (.inr (some 92)), .inl (nI i)] H (fun x H1 => (x = 0 ∨ x = 1) ∧ dm m H1 ∧ rl m C H H1 ∧ SI m X H1 ∧ (∀ j, j ≠ 19 → ak m H1 j = ak m H j) ∧ (ak m H1 19).1 ≤ (ak m H 19).1 + (sp X (i + 1) 1 - sp X i 1) + (sp X (i + 1) 2 - sp X i 2) + (sp X (i + 1) 3 - sp X i 3)) := by
  have hM : (X 1).1 ≤ 67108864 := by rw [← hI.n (j := 1) (by decide)]; exact h.lt rfl (by decide)
  obtain ⟨le1, lf1, lg1⟩ := hI.le h hc hi (c := 1) (j := 2) (by decide) (by decide) rfl
  obtain ⟨le2, lf2, lg2⟩ := hI.le h hc hi (c := 2) (j := 3) (by decide) (by decide) rfl
  obtain ⟨le3, lf3, lg3⟩ := hI.le h hc hi (c := 3) (j := 6) (by decide) (by decide) rfl
  obtain ⟨le4, lf4, lg4⟩ := hI.le h hc hi (c := 4) (j := 7) (by decide) (by decide) rfl
  refine mu_meth (M := mu_m179) rfl rfl ?_
  refine mw_ht (mu_fn_of (show [0, 1].Nodup by decide)) ?_
  refine mw_go mu_g179 (k := 4) (f1 := (6, [(2, .inl (1 : Int32)), (0, .inr (.inr (some 92))), (1, .inl (nI i))], [.inr (.inr (mu_r H 92 2))], H)) (C := [mu_is H (some 92) 12]) rfl (show mu_is H (some 92) 12 from h.1.is rfl) ?_
  rw [h.2.2.1]
  refine mw_go mu_g179 (k := 1) (f1 := (9, [(2, .inl (1 : Int32)), (0, .inr (.inr (some 92))), (1, .inl (nI i))], [.inr (.inr (mu_r H m 1))], H)) (C := [mu_is H (some m) 6]) rfl (show mu_is H (some m) 6 from (show mu_is H (some m) 6 from gi_im h.1 h.2.1)) ?_
  rw [(show mu_r H m 1 = some (m + 3) from (gi_mr h.1 h.2.1 (j := 1) (by decide)).trans (congrArg some (by omega)))]
  refine mw_go mu_g179 (k := 2) (f1 := (11, [(2, .inl (1 : Int32)), (0, .inr (.inr (some 92))), (1, .inl (nI i))], [.inl (1 : Int32), .inl (nI i), .inr (.inr (some (m + 3)))], H)) (C := []) rfl trivial ?_
  refine mw_cIe (fun _ => rfl) (show mu_is H (some (m + 3)) 10 from (h.1.w (md_w1 h.2.1)).1) (dm.getr (d := (d + 3)) h rfl (j := 1) (by decide) rfl (nI i) (c := 1) (by decide)) ?_
  rw [show (tget ((ak m H) 1) (nI i) 1) = (nI (sp X i 1)) from hI.start h hc hi (by decide) (by decide)]
  refine mw_go mu_g179 (k := 1) (f1 := (15, [(3, .inl (nI (sp X i 1))), (2, .inl (1 : Int32)), (0, .inr (.inr (some 92))), (1, .inl (nI i))], [], H)) (C := []) rfl trivial ?_
  refine mw_sub (L' := [(2, .inl (1 : Int32)), (3, .inl (nI (sp X i 1))), (0, .inr (.inr (some 92))), (1, .inl (nI i))]) (by simp) ?_
  refine mw_down (α := Int32 × Nat × mu_H) (fun zs => (15, [(2, .inl zs.1), (3, .inl (nI zs.2.1)), (0, .inr (.inr (some 92))), (1, .inl (nI i))], [], zs.2.2)) (fun zs => sp X (i + 1) 1 - zs.2.1) (fun zs => dm m zs.2.2 ∧ rl m C H zs.2.2 ∧ (zs.1 = 0 ∨ zs.1 = 1) ∧ (sp X i 1 ≤ zs.2.1) ∧ (zs.2.1 ≤ sp X (i + 1) 1) ∧ (SI m X zs.2.2) ∧ (∀ j, j ≠ 19 → ak m zs.2.2 j = ak m H j) ∧ ((ak m zs.2.2 19).1 + sp X i 1 ≤ (ak m H 19).1 + (0) + zs.2.1)) (fun zs hza iha => ?_) ((1 : Int32), sp X i 1, H) ⟨h, (rl.refl m C H), (show (1 : Int32) = 0 ∨ (1 : Int32) = 1 from (Or.inr rfl)), (show sp X i 1 ≤ (sp X i 1) from by omega), (show (sp X i 1) ≤ sp X (i + 1) 1 from by omega), (show SI m X H from hI), (show ∀ j, j ≠ 19 → ak m H j = ak m H j from (fun _ _ => rfl)), (show (ak m H 19).1 + sp X i 1 ≤ (ak m H 19).1 + (0) + (sp X i 1) from by omega)⟩
  obtain ⟨f, k, Hsa⟩ := zs
  obtain ⟨hpa, hta, hf, hk1, hk2, hIs, hsm, hz⟩ := hza
  have hpa : dm m Hsa := hpa
  have hta : rl m C H Hsa := hta
  have hf : f = 0 ∨ f = 1 := hf
  have hk1 : sp X i 1 ≤ k := hk1
  have hk2 : k ≤ sp X (i + 1) 1 := hk2
  have hIs : SI m X Hsa := hIs
  have hsm : ∀ j, j ≠ 19 → ak m Hsa j = ak m H j := hsm
  have hz : (ak m Hsa 19).1 + sp X i 1 ≤ (ak m H 19).1 + (0) + k := hz
  show mu_W _ _ (15, [(2, .inl f), (3, .inl (nI k)), (0, .inr (.inr (some 92))), (1, .inl (nI i))], [], Hsa) _
  refine mw_go mu_g179 (k := 3) (f1 := (20, [(2, .inl f), (3, .inl (nI k)), (0, .inr (.inr (some 92))), (1, .inl (nI i))], [.inr (.inr (mu_r Hsa 92 2)), .inl (nI k)], Hsa)) (C := [mu_is Hsa (some 92) 12]) rfl (show mu_is Hsa (some 92) 12 from hpa.1.is rfl) ?_
  rw [hpa.2.2.1]
  refine mw_go mu_g179 (k := 4) (f1 := (26, [(2, .inl f), (3, .inl (nI k)), (0, .inr (.inr (some 92))), (1, .inl (nI i))], [.inr (.inr (mu_r Hsa 92 2)), .inl (1 : Int32), .inl (nI i), .inr (.inr (some m)), .inl (nI k)], Hsa)) (C := [mu_is Hsa (some 92) 12]) rfl (show mu_is Hsa (some 92) 12 from hpa.1.is rfl) ?_
  rw [hpa.2.2.1]
  refine mw_go mu_g179 (k := 1) (f1 := (29, [(2, .inl f), (3, .inl (nI k)), (0, .inr (.inr (some 92))), (1, .inl (nI i))], [.inr (.inr (mu_r Hsa m 2)), .inl (1 : Int32), .inl (nI i), .inr (.inr (some m)), .inl (nI k)], Hsa)) (C := [mu_is Hsa (some m) 6]) rfl (show mu_is Hsa (some m) 6 from (show mu_is Hsa (some m) 6 from gi_im hpa.1 hpa.2.1)) ?_
  rw [(show mu_r Hsa m 2 = some (m + 5) from (gi_mr hpa.1 hpa.2.1 (j := 2) (by decide)).trans (congrArg some (by omega)))]
  refine mw_cIe (fun _ => rfl) (show mu_is Hsa (some m) 6 from (show mu_is Hsa (some m) 6 from gi_im hpa.1 hpa.2.1)) (dm.stopr (d := (d + 2)) hpa rfl (j := 2) (by decide) rfl (c := 1) (by decide) (nI i)) ?_
  rw [show (stp (ak m Hsa) (nI i) 1 2) = (nI (sp X (i + 1) 1)) from hIs.stop hpa hc hi (by decide) (by decide) rfl]
  refine mw_if (P := (nI k) < (nI (sp X (i + 1) 1))) (a := 35) (b := 63) (fun _ => rfl) trivial (fun h3 => ?_) (fun h3 => ?_)
  · -- 35: (nI k) < (nI (sp X (i + 1) 1))
    have hkb : k < sp X (i + 1) 1 := (nI_ltI (by omega) (by omega)).mp h3
    refine mw_go mu_g179 (k := 5) (f1 := (42, [(2, .inl f), (3, .inl (nI k)), (0, .inr (.inr (some 92))), (1, .inl (nI i))], [.inr (.inr (mu_r Hsa 92 2)), .inl (nI i), .inr (.inr (some 92)), .inl f], Hsa)) (C := [mu_is Hsa (some 92) 12]) rfl (show mu_is Hsa (some 92) 12 from hpa.1.is rfl) ?_
    rw [hpa.2.2.1]
    refine mw_go mu_g179 (k := 1) (f1 := (45, [(2, .inl f), (3, .inl (nI k)), (0, .inr (.inr (some 92))), (1, .inl (nI i))], [.inr (.inr (mu_r Hsa m 2)), .inl (nI i), .inr (.inr (some 92)), .inl f], Hsa)) (C := [mu_is Hsa (some m) 6]) rfl (show mu_is Hsa (some m) 6 from (show mu_is Hsa (some m) 6 from gi_im hpa.1 hpa.2.1)) ?_
    rw [(show mu_r Hsa m 2 = some (m + 5) from (gi_mr hpa.1 hpa.2.1 (j := 2) (by decide)).trans (congrArg some (by omega)))]
    refine mw_go mu_g179 (k := 2) (f1 := (47, [(2, .inl f), (3, .inl (nI k)), (0, .inr (.inr (some 92))), (1, .inl (nI i))], [.inl (0 : Int32), .inl (nI k), .inr (.inr (some (m + 5))), .inl (nI i), .inr (.inr (some 92)), .inl f], Hsa)) (C := []) rfl trivial ?_
    refine mw_cIe (fun _ => rfl) (show mu_is Hsa (some (m + 5)) 10 from (hpa.1.w (md_w2 hpa.2.1)).1) (dm.getr (d := (d + 3)) hpa rfl (j := 2) (by decide) rfl (nI k) (c := 0) (by decide)) ?_
    refine mw_go mu_g179 (k := 2) (f1 := (52, [(2, .inl f), (3, .inl (nI k)), (0, .inr (.inr (some 92))), (1, .inl (nI i))], [.inl (nI k), .inl (1 : Int32), .inl (tget ((ak m Hsa) 2) (nI k) 0), .inl (nI i), .inr (.inr (some 92)), .inl f], Hsa)) (C := []) rfl trivial ?_
    refine mw_cI (fun _ => rfl) (show mu_is Hsa (some 92) 12 from hpa.1.is rfl) (so_add2 (C := C) (d := d) hpa hIs (nI i) (tget ((ak m Hsa) 2) (nI k) 0) (1 : Int32) (nI k) (okm_at (by rw [hIs.n (by decide)]; exact hM) (by rw [hIs.n (by decide)]; exact hi) rfl (fun _ => by rw [hIs.2.2.spc (c := 1) (by decide), hIs.2.2.spc (c := 1) (by decide)]; exact ⟨hk1, hkb⟩) (fun z => absurd z (by decide)) (fun z => absurd z (by decide)) (fun z => absurd z (by decide))) (by omega) hC8) (fun x5 H5 q5 => ?_)
    obtain ⟨hx5, hp5, qt5, hI5, hs5, hz5⟩ := q5
    have ht5 := hta.trans qt5
    refine mw_go mu_g179 (k := 4) (f1 := (15, [(3, .inl ((nI k) + 1)), (2, .inl (f &&& x5)), (0, .inr (.inr (some 92))), (1, .inl (nI i))], [], H5)) (C := []) rfl trivial ?_
    rw [nI_1]
    exact mw_sub (by simp) (iha ((f &&& x5), k + 1, H5) ⟨hp5, ht5, (show (f &&& x5) = 0 ∨ (f &&& x5) = 1 from (b_and (hf) (hx5))), (show sp X i 1 ≤ (k + 1) from by omega), (show (k + 1) ≤ sp X (i + 1) 1 from by omega), (show SI m X H5 from hI5), (show ∀ j, j ≠ 19 → ak m H5 j = ak m H j from (fun j hj => (hs5 j hj).trans (hsm j hj))), (show (ak m H5 19).1 + sp X i 1 ≤ (ak m H 19).1 + (0) + (k + 1) from by omega)⟩ (by show sp X (i + 1) 1 - (k + 1) < sp X (i + 1) 1 - k; omega))
  · -- 63: not (nI k) < (nI (sp X (i + 1) 1))
    have hkb : ¬ k < sp X (i + 1) 1 := fun z => h3 (nI_lt z (by omega))
    refine mw_go mu_g179 (k := 2) (f1 := (67, [(2, .inl f), (3, .inl (nI k)), (0, .inr (.inr (some 92))), (1, .inl (nI i))], [.inr (.inr (mu_r Hsa 92 2))], Hsa)) (C := [mu_is Hsa (some 92) 12]) rfl (show mu_is Hsa (some 92) 12 from hpa.1.is rfl) ?_
    rw [hpa.2.2.1]
    refine mw_go mu_g179 (k := 1) (f1 := (70, [(2, .inl f), (3, .inl (nI k)), (0, .inr (.inr (some 92))), (1, .inl (nI i))], [.inr (.inr (mu_r Hsa m 1))], Hsa)) (C := [mu_is Hsa (some m) 6]) rfl (show mu_is Hsa (some m) 6 from (show mu_is Hsa (some m) 6 from gi_im hpa.1 hpa.2.1)) ?_
    rw [(show mu_r Hsa m 1 = some (m + 3) from (gi_mr hpa.1 hpa.2.1 (j := 1) (by decide)).trans (congrArg some (by omega)))]
    refine mw_go mu_g179 (k := 2) (f1 := (72, [(2, .inl f), (3, .inl (nI k)), (0, .inr (.inr (some 92))), (1, .inl (nI i))], [.inl (2 : Int32), .inl (nI i), .inr (.inr (some (m + 3)))], Hsa)) (C := []) rfl trivial ?_
    refine mw_cIe (fun _ => rfl) (show mu_is Hsa (some (m + 3)) 10 from (hpa.1.w (md_w1 hpa.2.1)).1) (dm.getr (d := (d + 3)) hpa rfl (j := 1) (by decide) rfl (nI i) (c := 2) (by decide)) ?_
    rw [show (tget ((ak m Hsa) 1) (nI i) 2) = (nI (sp X i 2)) from hIs.start hpa hc hi (by decide) (by decide)]
    refine mw_go mu_g179 (k := 1) (f1 := (76, [(3, .inl (nI (sp X i 2))), (2, .inl f), (0, .inr (.inr (some 92))), (1, .inl (nI i))], [], Hsa)) (C := []) rfl trivial ?_
    refine mw_sub (L' := [(2, .inl f), (3, .inl (nI (sp X i 2))), (0, .inr (.inr (some 92))), (1, .inl (nI i))]) (by simp) ?_
    refine mw_down (α := Int32 × Nat × mu_H) (fun zs => (76, [(2, .inl zs.1), (3, .inl (nI zs.2.1)), (0, .inr (.inr (some 92))), (1, .inl (nI i))], [], zs.2.2)) (fun zs => sp X (i + 1) 2 - zs.2.1) (fun zs => dm m zs.2.2 ∧ rl m C H zs.2.2 ∧ (zs.1 = 0 ∨ zs.1 = 1) ∧ (sp X i 2 ≤ zs.2.1) ∧ (zs.2.1 ≤ sp X (i + 1) 2) ∧ (SI m X zs.2.2) ∧ (∀ j, j ≠ 19 → ak m zs.2.2 j = ak m H j) ∧ ((ak m zs.2.2 19).1 + sp X i 2 ≤ (ak m H 19).1 + (sp X (i + 1) 1 - sp X i 1) + zs.2.1)) (fun zs hzb ihb => ?_) (f, sp X i 2, Hsa) ⟨hpa, hta, (show f = 0 ∨ f = 1 from (hf)), (show sp X i 2 ≤ (sp X i 2) from by omega), (show (sp X i 2) ≤ sp X (i + 1) 2 from by omega), (show SI m X Hsa from hIs), (show ∀ j, j ≠ 19 → ak m Hsa j = ak m H j from (fun j hj => hsm j hj)), (show (ak m Hsa 19).1 + sp X i 2 ≤ (ak m H 19).1 + (sp X (i + 1) 1 - sp X i 1) + (sp X i 2) from by omega)⟩
    obtain ⟨f, k, Hsb⟩ := zs
    obtain ⟨hpb, htb, hf, hk1, hk2, hIs, hsm, hz⟩ := hzb
    have hpb : dm m Hsb := hpb
    have htb : rl m C H Hsb := htb
    have hf : f = 0 ∨ f = 1 := hf
    have hk1 : sp X i 2 ≤ k := hk1
    have hk2 : k ≤ sp X (i + 1) 2 := hk2
    have hIs : SI m X Hsb := hIs
    have hsm : ∀ j, j ≠ 19 → ak m Hsb j = ak m H j := hsm
    have hz : (ak m Hsb 19).1 + sp X i 2 ≤ (ak m H 19).1 + (sp X (i + 1) 1 - sp X i 1) + k := hz
    show mu_W _ _ (76, [(2, .inl f), (3, .inl (nI k)), (0, .inr (.inr (some 92))), (1, .inl (nI i))], [], Hsb) _
    refine mw_go mu_g179 (k := 3) (f1 := (81, [(2, .inl f), (3, .inl (nI k)), (0, .inr (.inr (some 92))), (1, .inl (nI i))], [.inr (.inr (mu_r Hsb 92 2)), .inl (nI k)], Hsb)) (C := [mu_is Hsb (some 92) 12]) rfl (show mu_is Hsb (some 92) 12 from hpb.1.is rfl) ?_
    rw [hpb.2.2.1]
    refine mw_go mu_g179 (k := 4) (f1 := (87, [(2, .inl f), (3, .inl (nI k)), (0, .inr (.inr (some 92))), (1, .inl (nI i))], [.inr (.inr (mu_r Hsb 92 2)), .inl (2 : Int32), .inl (nI i), .inr (.inr (some m)), .inl (nI k)], Hsb)) (C := [mu_is Hsb (some 92) 12]) rfl (show mu_is Hsb (some 92) 12 from hpb.1.is rfl) ?_
    rw [hpb.2.2.1]
    refine mw_go mu_g179 (k := 1) (f1 := (90, [(2, .inl f), (3, .inl (nI k)), (0, .inr (.inr (some 92))), (1, .inl (nI i))], [.inr (.inr (mu_r Hsb m 3)), .inl (2 : Int32), .inl (nI i), .inr (.inr (some m)), .inl (nI k)], Hsb)) (C := [mu_is Hsb (some m) 6]) rfl (show mu_is Hsb (some m) 6 from (show mu_is Hsb (some m) 6 from gi_im hpb.1 hpb.2.1)) ?_
    rw [(show mu_r Hsb m 3 = some (m + 7) from (gi_mr hpb.1 hpb.2.1 (j := 3) (by decide)).trans (congrArg some (by omega)))]
    refine mw_cIe (fun _ => rfl) (show mu_is Hsb (some m) 6 from (show mu_is Hsb (some m) 6 from gi_im hpb.1 hpb.2.1)) (dm.stopr (d := (d + 2)) hpb rfl (j := 3) (by decide) rfl (c := 2) (by decide) (nI i)) ?_
    rw [show (stp (ak m Hsb) (nI i) 2 3) = (nI (sp X (i + 1) 2)) from hIs.stop hpb hc hi (by decide) (by decide) rfl]
    refine mw_if (P := (nI k) < (nI (sp X (i + 1) 2))) (a := 96) (b := 156) (fun _ => rfl) trivial (fun h8 => ?_) (fun h8 => ?_)
    · -- 96: (nI k) < (nI (sp X (i + 1) 2))
      have hkb : k < sp X (i + 1) 2 := (nI_ltI (by omega) (by omega)).mp h8
      refine mw_go mu_g179 (k := 2) (f1 := (100, [(2, .inl f), (3, .inl (nI k)), (0, .inr (.inr (some 92))), (1, .inl (nI i))], [.inr (.inr (mu_r Hsb 92 2))], Hsb)) (C := [mu_is Hsb (some 92) 12]) rfl (show mu_is Hsb (some 92) 12 from hpb.1.is rfl) ?_
      rw [hpb.2.2.1]
      refine mw_go mu_g179 (k := 1) (f1 := (103, [(2, .inl f), (3, .inl (nI k)), (0, .inr (.inr (some 92))), (1, .inl (nI i))], [.inr (.inr (mu_r Hsb m 3))], Hsb)) (C := [mu_is Hsb (some m) 6]) rfl (show mu_is Hsb (some m) 6 from (show mu_is Hsb (some m) 6 from gi_im hpb.1 hpb.2.1)) ?_
      rw [(show mu_r Hsb m 3 = some (m + 7) from (gi_mr hpb.1 hpb.2.1 (j := 3) (by decide)).trans (congrArg some (by omega)))]
      refine mw_go mu_g179 (k := 2) (f1 := (105, [(2, .inl f), (3, .inl (nI k)), (0, .inr (.inr (some 92))), (1, .inl (nI i))], [.inl (1 : Int32), .inl (nI k), .inr (.inr (some (m + 7)))], Hsb)) (C := []) rfl trivial ?_
      refine mw_cIe (fun _ => rfl) (show mu_is Hsb (some (m + 7)) 10 from (hpb.1.w (md_w3 hpb.2.1)).1) (dm.getr (d := (d + 3)) hpb rfl (j := 3) (by decide) rfl (nI k) (c := 1) (by decide)) ?_
      rw [show (tget ((ak m Hsb) 3) (nI k) 1) = ((X 3).2 k 1) from hIs.c3 (by decide) (by omega)]
      refine mw_go mu_g179 (k := 1) (f1 := (109, [(2, .inl f), (3, .inl (nI k)), (0, .inr (.inr (some 92))), (1, .inl (nI i))], [.inl (3 : Int32), .inl ((X 3).2 k 1)], Hsb)) (C := []) rfl trivial ?_
      refine mw_if (P := ((X 3).2 k 1) = (3 : Int32)) (a := 116) (b := 112) (fun _ => rfl) trivial (fun h10 => ?_) (fun h10 => ?_)
      · -- 116: ((X 3).2 k 1) = (3 : Int32)
        refine mw_go mu_g179 (k := 7) (f1 := (126, [(4, .inl (0 : Int32)), (2, .inl f), (3, .inl (nI k)), (0, .inr (.inr (some 92))), (1, .inl (nI i))], [.inr (.inr (mu_r Hsb 92 2)), .inl (nI i), .inr (.inr (some 92)), .inl f], Hsb)) (C := [mu_is Hsb (some 92) 12]) rfl (show mu_is Hsb (some 92) 12 from hpb.1.is rfl) ?_
        rw [hpb.2.2.1]
        refine mw_go mu_g179 (k := 1) (f1 := (129, [(4, .inl (0 : Int32)), (2, .inl f), (3, .inl (nI k)), (0, .inr (.inr (some 92))), (1, .inl (nI i))], [.inr (.inr (mu_r Hsb m 3)), .inl (nI i), .inr (.inr (some 92)), .inl f], Hsb)) (C := [mu_is Hsb (some m) 6]) rfl (show mu_is Hsb (some m) 6 from (show mu_is Hsb (some m) 6 from gi_im hpb.1 hpb.2.1)) ?_
        rw [(show mu_r Hsb m 3 = some (m + 7) from (gi_mr hpb.1 hpb.2.1 (j := 3) (by decide)).trans (congrArg some (by omega)))]
        refine mw_go mu_g179 (k := 2) (f1 := (131, [(4, .inl (0 : Int32)), (2, .inl f), (3, .inl (nI k)), (0, .inr (.inr (some 92))), (1, .inl (nI i))], [.inl (0 : Int32), .inl (nI k), .inr (.inr (some (m + 7))), .inl (nI i), .inr (.inr (some 92)), .inl f], Hsb)) (C := []) rfl trivial ?_
        refine mw_cIe (fun _ => rfl) (show mu_is Hsb (some (m + 7)) 10 from (hpb.1.w (md_w3 hpb.2.1)).1) (dm.getr (d := (d + 3)) hpb rfl (j := 3) (by decide) rfl (nI k) (c := 0) (by decide)) ?_
        rw [show (tget ((ak m Hsb) 3) (nI k) 0) = ((X 3).2 k 0) from hIs.c3 (by decide) (by omega)]
        refine mw_go mu_g179 (k := 1) (f1 := (136, [(4, .inl (0 : Int32)), (2, .inl f), (3, .inl (nI k)), (0, .inr (.inr (some 92))), (1, .inl (nI i))], [.inl (0 : Int32), .inl ((X 3).2 k 0), .inl (nI i), .inr (.inr (some 92)), .inl f], Hsb)) (C := []) rfl trivial ?_
        refine mw_if (P := (0 : Int32) = 0) (a := 143) (b := 139) (fun _ => rfl) trivial (fun h12 => ?_) (fun h12 => absurd (by decide) h12)
        refine mw_go mu_g179 (k := 2) (f1 := (145, [(4, .inl (0 : Int32)), (2, .inl f), (3, .inl (nI k)), (0, .inr (.inr (some 92))), (1, .inl (nI i))], [.inl (nI k), .inl (4 : Int32), .inl ((X 3).2 k 0), .inl (nI i), .inr (.inr (some 92)), .inl f], Hsb)) (C := []) rfl trivial ?_
        refine mw_cI (fun _ => rfl) (show mu_is Hsb (some 92) 12 from hpb.1.is rfl) (so_add2 (C := C) (d := d) hpb hIs (nI i) ((X 3).2 k 0) (4 : Int32) (nI k) (okm_at (by rw [hIs.n (by decide)]; exact hM) (by rw [hIs.n (by decide)]; exact hi) rfl (fun z => absurd z (by decide)) (fun z => absurd z (by decide)) (fun z => absurd z (by decide)) (fun _ => by rw [hIs.2.2.spc (c := 2) (by decide), hIs.2.2.spc (c := 2) (by decide), hIs.2.2.2 3 (by decide) k 1 (by omega) (by omega) (by omega)]; exact ⟨hk1, hkb, h10⟩)) (by omega) hC8) (fun x13 H13 q13 => ?_)
        obtain ⟨hx13, hp13, qt13, hI13, hs13, hz13⟩ := q13
        have ht13 := htb.trans qt13
        refine mw_go mu_g179 (k := 4) (f1 := (76, [(3, .inl ((nI k) + 1)), (2, .inl (f &&& x13)), (4, .inl (0 : Int32)), (0, .inr (.inr (some 92))), (1, .inl (nI i))], [], H13)) (C := []) rfl trivial ?_
        rw [nI_1]
        exact mw_sub (by simp) (ihb ((f &&& x13), k + 1, H13) ⟨hp13, ht13, (show (f &&& x13) = 0 ∨ (f &&& x13) = 1 from (b_and (hf) (hx13))), (show sp X i 2 ≤ (k + 1) from by omega), (show (k + 1) ≤ sp X (i + 1) 2 from by omega), (show SI m X H13 from hI13), (show ∀ j, j ≠ 19 → ak m H13 j = ak m H j from (fun j hj => (hs13 j hj).trans (hsm j hj))), (show (ak m H13 19).1 + sp X i 2 ≤ (ak m H 19).1 + (sp X (i + 1) 1 - sp X i 1) + (k + 1) from by omega)⟩ (by show sp X (i + 1) 2 - (k + 1) < sp X (i + 1) 2 - k; omega))
      · -- 112: not ((X 3).2 k 1) = (3 : Int32)
        refine mw_go mu_g179 (k := 8) (f1 := (126, [(4, .inl (1 : Int32)), (2, .inl f), (3, .inl (nI k)), (0, .inr (.inr (some 92))), (1, .inl (nI i))], [.inr (.inr (mu_r Hsb 92 2)), .inl (nI i), .inr (.inr (some 92)), .inl f], Hsb)) (C := [mu_is Hsb (some 92) 12]) rfl (show mu_is Hsb (some 92) 12 from hpb.1.is rfl) ?_
        rw [hpb.2.2.1]
        refine mw_go mu_g179 (k := 1) (f1 := (129, [(4, .inl (1 : Int32)), (2, .inl f), (3, .inl (nI k)), (0, .inr (.inr (some 92))), (1, .inl (nI i))], [.inr (.inr (mu_r Hsb m 3)), .inl (nI i), .inr (.inr (some 92)), .inl f], Hsb)) (C := [mu_is Hsb (some m) 6]) rfl (show mu_is Hsb (some m) 6 from (show mu_is Hsb (some m) 6 from gi_im hpb.1 hpb.2.1)) ?_
        rw [(show mu_r Hsb m 3 = some (m + 7) from (gi_mr hpb.1 hpb.2.1 (j := 3) (by decide)).trans (congrArg some (by omega)))]
        refine mw_go mu_g179 (k := 2) (f1 := (131, [(4, .inl (1 : Int32)), (2, .inl f), (3, .inl (nI k)), (0, .inr (.inr (some 92))), (1, .inl (nI i))], [.inl (0 : Int32), .inl (nI k), .inr (.inr (some (m + 7))), .inl (nI i), .inr (.inr (some 92)), .inl f], Hsb)) (C := []) rfl trivial ?_
        refine mw_cIe (fun _ => rfl) (show mu_is Hsb (some (m + 7)) 10 from (hpb.1.w (md_w3 hpb.2.1)).1) (dm.getr (d := (d + 3)) hpb rfl (j := 3) (by decide) rfl (nI k) (c := 0) (by decide)) ?_
        rw [show (tget ((ak m Hsb) 3) (nI k) 0) = ((X 3).2 k 0) from hIs.c3 (by decide) (by omega)]
        refine mw_go mu_g179 (k := 1) (f1 := (136, [(4, .inl (1 : Int32)), (2, .inl f), (3, .inl (nI k)), (0, .inr (.inr (some 92))), (1, .inl (nI i))], [.inl (1 : Int32), .inl ((X 3).2 k 0), .inl (nI i), .inr (.inr (some 92)), .inl f], Hsb)) (C := []) rfl trivial ?_
        refine mw_if (P := (1 : Int32) = 0) (a := 143) (b := 139) (fun _ => rfl) trivial (fun h15 => absurd h15 (by decide)) (fun h15 => ?_)
        refine mw_go mu_g179 (k := 3) (f1 := (145, [(4, .inl (1 : Int32)), (2, .inl f), (3, .inl (nI k)), (0, .inr (.inr (some 92))), (1, .inl (nI i))], [.inl (nI k), .inl (3 : Int32), .inl ((X 3).2 k 0), .inl (nI i), .inr (.inr (some 92)), .inl f], Hsb)) (C := []) rfl trivial ?_
        refine mw_cI (fun _ => rfl) (show mu_is Hsb (some 92) 12 from hpb.1.is rfl) (so_add2 (C := C) (d := d) hpb hIs (nI i) ((X 3).2 k 0) (3 : Int32) (nI k) (okm_at (by rw [hIs.n (by decide)]; exact hM) (by rw [hIs.n (by decide)]; exact hi) rfl (fun z => absurd z (by decide)) (fun z => absurd z (by decide)) (fun _ => by rw [hIs.2.2.spc (c := 2) (by decide), hIs.2.2.spc (c := 2) (by decide), hIs.2.2.2 3 (by decide) k 1 (by omega) (by omega) (by omega)]; exact ⟨hk1, hkb, h10⟩) (fun z => absurd z (by decide))) (by omega) hC8) (fun x16 H16 q16 => ?_)
        obtain ⟨hx16, hp16, qt16, hI16, hs16, hz16⟩ := q16
        have ht16 := htb.trans qt16
        refine mw_go mu_g179 (k := 4) (f1 := (76, [(3, .inl ((nI k) + 1)), (2, .inl (f &&& x16)), (4, .inl (1 : Int32)), (0, .inr (.inr (some 92))), (1, .inl (nI i))], [], H16)) (C := []) rfl trivial ?_
        rw [nI_1]
        exact mw_sub (by simp) (ihb ((f &&& x16), k + 1, H16) ⟨hp16, ht16, (show (f &&& x16) = 0 ∨ (f &&& x16) = 1 from (b_and (hf) (hx16))), (show sp X i 2 ≤ (k + 1) from by omega), (show (k + 1) ≤ sp X (i + 1) 2 from by omega), (show SI m X H16 from hI16), (show ∀ j, j ≠ 19 → ak m H16 j = ak m H j from (fun j hj => (hs16 j hj).trans (hsm j hj))), (show (ak m H16 19).1 + sp X i 2 ≤ (ak m H 19).1 + (sp X (i + 1) 1 - sp X i 1) + (k + 1) from by omega)⟩ (by show sp X (i + 1) 2 - (k + 1) < sp X (i + 1) 2 - k; omega))
    · -- 156: not (nI k) < (nI (sp X (i + 1) 2))
      have hkb : ¬ k < sp X (i + 1) 2 := fun z => h8 (nI_lt z (by omega))
      refine mw_go mu_g179 (k := 2) (f1 := (160, [(2, .inl f), (3, .inl (nI k)), (0, .inr (.inr (some 92))), (1, .inl (nI i))], [.inr (.inr (mu_r Hsb 92 2))], Hsb)) (C := [mu_is Hsb (some 92) 12]) rfl (show mu_is Hsb (some 92) 12 from hpb.1.is rfl) ?_
      rw [hpb.2.2.1]
      refine mw_go mu_g179 (k := 1) (f1 := (163, [(2, .inl f), (3, .inl (nI k)), (0, .inr (.inr (some 92))), (1, .inl (nI i))], [.inr (.inr (mu_r Hsb m 1))], Hsb)) (C := [mu_is Hsb (some m) 6]) rfl (show mu_is Hsb (some m) 6 from (show mu_is Hsb (some m) 6 from gi_im hpb.1 hpb.2.1)) ?_
      rw [(show mu_r Hsb m 1 = some (m + 3) from (gi_mr hpb.1 hpb.2.1 (j := 1) (by decide)).trans (congrArg some (by omega)))]
      refine mw_go mu_g179 (k := 2) (f1 := (165, [(2, .inl f), (3, .inl (nI k)), (0, .inr (.inr (some 92))), (1, .inl (nI i))], [.inl (3 : Int32), .inl (nI i), .inr (.inr (some (m + 3)))], Hsb)) (C := []) rfl trivial ?_
      refine mw_cIe (fun _ => rfl) (show mu_is Hsb (some (m + 3)) 10 from (hpb.1.w (md_w1 hpb.2.1)).1) (dm.getr (d := (d + 3)) hpb rfl (j := 1) (by decide) rfl (nI i) (c := 3) (by decide)) ?_
      rw [show (tget ((ak m Hsb) 1) (nI i) 3) = (nI (sp X i 3)) from hIs.start hpb hc hi (by decide) (by decide)]
      refine mw_go mu_g179 (k := 1) (f1 := (169, [(3, .inl (nI (sp X i 3))), (2, .inl f), (0, .inr (.inr (some 92))), (1, .inl (nI i))], [], Hsb)) (C := []) rfl trivial ?_
      refine mw_sub (L' := [(2, .inl f), (3, .inl (nI (sp X i 3))), (0, .inr (.inr (some 92))), (1, .inl (nI i))]) (by simp) ?_
      refine mw_down (α := Int32 × Nat × mu_H) (fun zs => (169, [(2, .inl zs.1), (3, .inl (nI zs.2.1)), (0, .inr (.inr (some 92))), (1, .inl (nI i))], [], zs.2.2)) (fun zs => sp X (i + 1) 3 - zs.2.1) (fun zs => dm m zs.2.2 ∧ rl m C H zs.2.2 ∧ (zs.1 = 0 ∨ zs.1 = 1) ∧ (sp X i 3 ≤ zs.2.1) ∧ (zs.2.1 ≤ sp X (i + 1) 3) ∧ (SI m X zs.2.2) ∧ (∀ j, j ≠ 19 → ak m zs.2.2 j = ak m H j) ∧ ((ak m zs.2.2 19).1 + sp X i 3 ≤ (ak m H 19).1 + (sp X (i + 1) 1 - sp X i 1 + (sp X (i + 1) 2 - sp X i 2)) + zs.2.1)) (fun zs hzc ihc => ?_) (f, sp X i 3, Hsb) ⟨hpb, htb, (show f = 0 ∨ f = 1 from (hf)), (show sp X i 3 ≤ (sp X i 3) from by omega), (show (sp X i 3) ≤ sp X (i + 1) 3 from by omega), (show SI m X Hsb from hIs), (show ∀ j, j ≠ 19 → ak m Hsb j = ak m H j from (fun j hj => hsm j hj)), (show (ak m Hsb 19).1 + sp X i 3 ≤ (ak m H 19).1 + (sp X (i + 1) 1 - sp X i 1 + (sp X (i + 1) 2 - sp X i 2)) + (sp X i 3) from by omega)⟩
      obtain ⟨f, k, Hsc⟩ := zs
      obtain ⟨hpc, htc, hf, hk1, hk2, hIs, hsm, hz⟩ := hzc
      have hpc : dm m Hsc := hpc
      have htc : rl m C H Hsc := htc
      have hf : f = 0 ∨ f = 1 := hf
      have hk1 : sp X i 3 ≤ k := hk1
      have hk2 : k ≤ sp X (i + 1) 3 := hk2
      have hIs : SI m X Hsc := hIs
      have hsm : ∀ j, j ≠ 19 → ak m Hsc j = ak m H j := hsm
      have hz : (ak m Hsc 19).1 + sp X i 3 ≤ (ak m H 19).1 + (sp X (i + 1) 1 - sp X i 1 + (sp X (i + 1) 2 - sp X i 2)) + k := hz
      show mu_W _ _ (169, [(2, .inl f), (3, .inl (nI k)), (0, .inr (.inr (some 92))), (1, .inl (nI i))], [], Hsc) _
      refine mw_go mu_g179 (k := 3) (f1 := (174, [(2, .inl f), (3, .inl (nI k)), (0, .inr (.inr (some 92))), (1, .inl (nI i))], [.inr (.inr (mu_r Hsc 92 2)), .inl (nI k)], Hsc)) (C := [mu_is Hsc (some 92) 12]) rfl (show mu_is Hsc (some 92) 12 from hpc.1.is rfl) ?_
      rw [hpc.2.2.1]
      refine mw_go mu_g179 (k := 4) (f1 := (180, [(2, .inl f), (3, .inl (nI k)), (0, .inr (.inr (some 92))), (1, .inl (nI i))], [.inr (.inr (mu_r Hsc 92 2)), .inl (3 : Int32), .inl (nI i), .inr (.inr (some m)), .inl (nI k)], Hsc)) (C := [mu_is Hsc (some 92) 12]) rfl (show mu_is Hsc (some 92) 12 from hpc.1.is rfl) ?_
      rw [hpc.2.2.1]
      refine mw_go mu_g179 (k := 1) (f1 := (183, [(2, .inl f), (3, .inl (nI k)), (0, .inr (.inr (some 92))), (1, .inl (nI i))], [.inr (.inr (mu_r Hsc m 6)), .inl (3 : Int32), .inl (nI i), .inr (.inr (some m)), .inl (nI k)], Hsc)) (C := [mu_is Hsc (some m) 6]) rfl (show mu_is Hsc (some m) 6 from (show mu_is Hsc (some m) 6 from gi_im hpc.1 hpc.2.1)) ?_
      rw [(show mu_r Hsc m 6 = some (m + 13) from (gi_mr hpc.1 hpc.2.1 (j := 6) (by decide)).trans (congrArg some (by omega)))]
      refine mw_cIe (fun _ => rfl) (show mu_is Hsc (some m) 6 from (show mu_is Hsc (some m) 6 from gi_im hpc.1 hpc.2.1)) (dm.stopr (d := (d + 2)) hpc rfl (j := 6) (by decide) rfl (c := 3) (by decide) (nI i)) ?_
      rw [show (stp (ak m Hsc) (nI i) 3 6) = (nI (sp X (i + 1) 3)) from hIs.stop hpc hc hi (by decide) (by decide) rfl]
      refine mw_if (P := (nI k) < (nI (sp X (i + 1) 3))) (a := 189) (b := 217) (fun _ => rfl) trivial (fun h19 => ?_) (fun h19 => ?_)
      · -- 189: (nI k) < (nI (sp X (i + 1) 3))
        have hkb : k < sp X (i + 1) 3 := (nI_ltI (by omega) (by omega)).mp h19
        refine mw_go mu_g179 (k := 5) (f1 := (196, [(2, .inl f), (3, .inl (nI k)), (0, .inr (.inr (some 92))), (1, .inl (nI i))], [.inr (.inr (mu_r Hsc 92 2)), .inl (nI i), .inr (.inr (some 92)), .inl f], Hsc)) (C := [mu_is Hsc (some 92) 12]) rfl (show mu_is Hsc (some 92) 12 from hpc.1.is rfl) ?_
        rw [hpc.2.2.1]
        refine mw_go mu_g179 (k := 1) (f1 := (199, [(2, .inl f), (3, .inl (nI k)), (0, .inr (.inr (some 92))), (1, .inl (nI i))], [.inr (.inr (mu_r Hsc m 6)), .inl (nI i), .inr (.inr (some 92)), .inl f], Hsc)) (C := [mu_is Hsc (some m) 6]) rfl (show mu_is Hsc (some m) 6 from (show mu_is Hsc (some m) 6 from gi_im hpc.1 hpc.2.1)) ?_
        rw [(show mu_r Hsc m 6 = some (m + 13) from (gi_mr hpc.1 hpc.2.1 (j := 6) (by decide)).trans (congrArg some (by omega)))]
        refine mw_go mu_g179 (k := 2) (f1 := (201, [(2, .inl f), (3, .inl (nI k)), (0, .inr (.inr (some 92))), (1, .inl (nI i))], [.inl (0 : Int32), .inl (nI k), .inr (.inr (some (m + 13))), .inl (nI i), .inr (.inr (some 92)), .inl f], Hsc)) (C := []) rfl trivial ?_
        refine mw_cIe (fun _ => rfl) (show mu_is Hsc (some (m + 13)) 10 from (hpc.1.w (md_w6 hpc.2.1)).1) (dm.getr (d := (d + 3)) hpc rfl (j := 6) (by decide) rfl (nI k) (c := 0) (by decide)) ?_
        refine mw_go mu_g179 (k := 2) (f1 := (206, [(2, .inl f), (3, .inl (nI k)), (0, .inr (.inr (some 92))), (1, .inl (nI i))], [.inl (nI k), .inl (2 : Int32), .inl (tget ((ak m Hsc) 6) (nI k) 0), .inl (nI i), .inr (.inr (some 92)), .inl f], Hsc)) (C := []) rfl trivial ?_
        refine mw_cI (fun _ => rfl) (show mu_is Hsc (some 92) 12 from hpc.1.is rfl) (so_add2 (C := C) (d := d) hpc hIs (nI i) (tget ((ak m Hsc) 6) (nI k) 0) (2 : Int32) (nI k) (okm_at (by rw [hIs.n (by decide)]; exact hM) (by rw [hIs.n (by decide)]; exact hi) rfl (fun z => absurd z (by decide)) (fun _ => by rw [hIs.2.2.spc (c := 3) (by decide), hIs.2.2.spc (c := 3) (by decide)]; exact ⟨hk1, hkb⟩) (fun z => absurd z (by decide)) (fun z => absurd z (by decide))) (by omega) hC8) (fun x21 H21 q21 => ?_)
        obtain ⟨hx21, hp21, qt21, hI21, hs21, hz21⟩ := q21
        have ht21 := htc.trans qt21
        refine mw_go mu_g179 (k := 4) (f1 := (169, [(3, .inl ((nI k) + 1)), (2, .inl (f &&& x21)), (0, .inr (.inr (some 92))), (1, .inl (nI i))], [], H21)) (C := []) rfl trivial ?_
        rw [nI_1]
        exact mw_sub (by simp) (ihc ((f &&& x21), k + 1, H21) ⟨hp21, ht21, (show (f &&& x21) = 0 ∨ (f &&& x21) = 1 from (b_and (hf) (hx21))), (show sp X i 3 ≤ (k + 1) from by omega), (show (k + 1) ≤ sp X (i + 1) 3 from by omega), (show SI m X H21 from hI21), (show ∀ j, j ≠ 19 → ak m H21 j = ak m H j from (fun j hj => (hs21 j hj).trans (hsm j hj))), (show (ak m H21 19).1 + sp X i 3 ≤ (ak m H 19).1 + (sp X (i + 1) 1 - sp X i 1 + (sp X (i + 1) 2 - sp X i 2)) + (k + 1) from by omega)⟩ (by show sp X (i + 1) 3 - (k + 1) < sp X (i + 1) 3 - k; omega))
      · -- 217: not (nI k) < (nI (sp X (i + 1) 3))
        have hkb : ¬ k < sp X (i + 1) 3 := fun z => h19 (nI_lt z (by omega))
        refine mw_go mu_g179 (k := 1) (f1 := (218, [(2, .inl f), (3, .inl (nI k)), (0, .inr (.inr (some 92))), (1, .inl (nI i))], [.inl f], Hsc)) (C := []) rfl trivial ?_
        exact mw_of (fun _ => mu_ret rfl hf ⟨_, Hsc, rfl, hf, hpc, htc, hIs, (fun j hj => hsm j hj), by omega⟩)
theorem so_values2 (h : dm m H) (hI : SI m X H) (hc : CT X) {w : Nat} (hw : w < (X 3).1) {a b : Nat} (ha : (X 3).2 w 2 = nI a) (hb : (X 3).2 w 3 = nI b) (hab : a + b ≤ (X 4).1) (hC : 10 * ((ak m H 19).1 + b) + 5 ≤ C 19) (hC8 : C 19 ≤ 8388608) : mu_TI (mu_D (d + 5)) 184 [.inr (.inr (some 92)), .inl (nI w)] H (fun x H1 => (x = 0 ∨ x = 1) ∧ dm m H1 ∧ rl m C H H1 ∧ SI m X H1 ∧ (∀ j, j ≠ 19 → ak m H1 j = ak m H j) ∧ (ak m H1 19).1 ≤ (ak m H 19).1 + b) := by
  have hM : (X 1).1 ≤ 67108864 := by rw [← hI.n (j := 1) (by decide)]; exact h.lt rfl (by decide)
  have hX3 : (X 3).1 ≤ 67108864 := by rw [← hI.n (j := 3) (by decide)]; exact h.lt rfl (by decide)
  have hX4 : (X 4).1 ≤ 67108864 := by rw [← hI.n (j := 4) (by decide)]; exact h.lt rfl (by decide)
  refine mu_meth (M := mu_m184) rfl rfl ?_
  refine mw_ht (mu_fn_of (show [0, 1].Nodup by decide)) ?_
  refine mw_go mu_g184 (k := 2) (f1 := (4, [(0, .inr (.inr (some 92))), (1, .inl (nI w))], [.inr (.inr (mu_r H 92 2))], H)) (C := [mu_is H (some 92) 12]) rfl (show mu_is H (some 92) 12 from h.1.is rfl) ?_
  rw [h.2.2.1]
  refine mw_go mu_g184 (k := 1) (f1 := (7, [(0, .inr (.inr (some 92))), (1, .inl (nI w))], [.inr (.inr (mu_r H m 3))], H)) (C := [mu_is H (some m) 6]) rfl (show mu_is H (some m) 6 from (show mu_is H (some m) 6 from gi_im h.1 h.2.1)) ?_
  rw [(show mu_r H m 3 = some (m + 7) from (gi_mr h.1 h.2.1 (j := 3) (by decide)).trans (congrArg some (by omega)))]
  refine mw_go mu_g184 (k := 2) (f1 := (9, [(0, .inr (.inr (some 92))), (1, .inl (nI w))], [.inl (2 : Int32), .inl (nI w), .inr (.inr (some (m + 7)))], H)) (C := []) rfl trivial ?_
  refine mw_cIe (fun _ => rfl) (show mu_is H (some (m + 7)) 10 from (h.1.w (md_w3 h.2.1)).1) (dm.getr (d := (d + 3)) h rfl (j := 3) (by decide) rfl (nI w) (c := 2) (by decide)) ?_
  rw [show (tget ((ak m H) 3) (nI w) 2) = (nI a) from (hI.c3 (by decide) (by omega)).trans ha]
  refine mw_go mu_g184 (k := 5) (f1 := (18, [(4, .inl (nI a)), (3, .inl (1 : Int32)), (2, .inl (nI a)), (0, .inr (.inr (some 92))), (1, .inl (nI w))], [], H)) (C := []) rfl trivial ?_
  refine mw_sub (L' := [(3, .inl (1 : Int32)), (4, .inl (nI a)), (0, .inr (.inr (some 92))), (1, .inl (nI w)), (2, .inl (nI a))]) (by simp) ?_
  refine mw_down (α := Int32 × Nat × mu_H) (fun zs => (18, [(3, .inl zs.1), (4, .inl (nI zs.2.1)), (0, .inr (.inr (some 92))), (1, .inl (nI w)), (2, .inl (nI a))], [], zs.2.2)) (fun zs => a + b - zs.2.1) (fun zs => dm m zs.2.2 ∧ rl m C H zs.2.2 ∧ (zs.1 = 0 ∨ zs.1 = 1) ∧ (a ≤ zs.2.1) ∧ (zs.2.1 ≤ a + b) ∧ (SI m X zs.2.2) ∧ (∀ j, j ≠ 19 → ak m zs.2.2 j = ak m H j) ∧ ((ak m zs.2.2 19).1 + a ≤ (ak m H 19).1 + zs.2.1)) (fun zs hza iha => ?_) ((1 : Int32), a, H) ⟨h, (rl.refl m C H), (show (1 : Int32) = 0 ∨ (1 : Int32) = 1 from (Or.inr rfl)), (show a ≤ a from by omega), (show a ≤ a + b from by omega), (show SI m X H from hI), (show ∀ j, j ≠ 19 → ak m H j = ak m H j from (fun _ _ => rfl)), (show (ak m H 19).1 + a ≤ (ak m H 19).1 + a from by omega)⟩
  obtain ⟨f, k, Hsa⟩ := zs
  obtain ⟨hpa, hta, hf, hk1, hk2, hIs, hsm, hz⟩ := hza
  have hpa : dm m Hsa := hpa
  have hta : rl m C H Hsa := hta
  have hf : f = 0 ∨ f = 1 := hf
  have hk1 : a ≤ k := hk1
  have hk2 : k ≤ a + b := hk2
  have hIs : SI m X Hsa := hIs
  have hsm : ∀ j, j ≠ 19 → ak m Hsa j = ak m H j := hsm
  have hz : (ak m Hsa 19).1 + a ≤ (ak m H 19).1 + k := hz
  show mu_W _ _ (18, [(3, .inl f), (4, .inl (nI k)), (0, .inr (.inr (some 92))), (1, .inl (nI w)), (2, .inl (nI a))], [], Hsa) _
  refine mw_go mu_g184 (k := 4) (f1 := (25, [(3, .inl f), (4, .inl (nI k)), (0, .inr (.inr (some 92))), (1, .inl (nI w)), (2, .inl (nI a))], [.inr (.inr (mu_r Hsa 92 2)), .inl (nI a), .inl (nI k)], Hsa)) (C := [mu_is Hsa (some 92) 12]) rfl (show mu_is Hsa (some 92) 12 from hpa.1.is rfl) ?_
  rw [hpa.2.2.1]
  refine mw_go mu_g184 (k := 1) (f1 := (28, [(3, .inl f), (4, .inl (nI k)), (0, .inr (.inr (some 92))), (1, .inl (nI w)), (2, .inl (nI a))], [.inr (.inr (mu_r Hsa m 3)), .inl (nI a), .inl (nI k)], Hsa)) (C := [mu_is Hsa (some m) 6]) rfl (show mu_is Hsa (some m) 6 from (show mu_is Hsa (some m) 6 from gi_im hpa.1 hpa.2.1)) ?_
  rw [(show mu_r Hsa m 3 = some (m + 7) from (gi_mr hpa.1 hpa.2.1 (j := 3) (by decide)).trans (congrArg some (by omega)))]
  refine mw_go mu_g184 (k := 2) (f1 := (30, [(3, .inl f), (4, .inl (nI k)), (0, .inr (.inr (some 92))), (1, .inl (nI w)), (2, .inl (nI a))], [.inl (3 : Int32), .inl (nI w), .inr (.inr (some (m + 7))), .inl (nI a), .inl (nI k)], Hsa)) (C := []) rfl trivial ?_
  refine mw_cIe (fun _ => rfl) (show mu_is Hsa (some (m + 7)) 10 from (hpa.1.w (md_w3 hpa.2.1)).1) (dm.getr (d := (d + 3)) hpa rfl (j := 3) (by decide) rfl (nI w) (c := 3) (by decide)) ?_
  rw [show (tget ((ak m Hsa) 3) (nI w) 3) = (nI b) from (hIs.c3 (by decide) (by omega)).trans hb]
  refine mw_go mu_g184 (k := 1) (f1 := (34, [(3, .inl f), (4, .inl (nI k)), (0, .inr (.inr (some 92))), (1, .inl (nI w)), (2, .inl (nI a))], [.inl ((nI a) + (nI b)), .inl (nI k)], Hsa)) (C := []) rfl trivial ?_
  refine mw_if (P := (nI k) < ((nI a) + (nI b))) (a := 37) (b := 106) (fun _ => rfl) trivial (fun h3 => ?_) (fun h3 => ?_)
  · -- 37: (nI k) < ((nI a) + (nI b))
    rw [nI_add] at h3
    have hkb : k < a + b := (nI_ltI (by omega) (by omega)).mp h3
    refine mw_go mu_g184 (k := 3) (f1 := (42, [(3, .inl f), (4, .inl (nI k)), (0, .inr (.inr (some 92))), (1, .inl (nI w)), (2, .inl (nI a))], [.inr (.inr (mu_r Hsa 92 2)), .inl f], Hsa)) (C := [mu_is Hsa (some 92) 12]) rfl (show mu_is Hsa (some 92) 12 from hpa.1.is rfl) ?_
    rw [hpa.2.2.1]
    refine mw_go mu_g184 (k := 1) (f1 := (45, [(3, .inl f), (4, .inl (nI k)), (0, .inr (.inr (some 92))), (1, .inl (nI w)), (2, .inl (nI a))], [.inr (.inr (mu_r Hsa m 4)), .inl f], Hsa)) (C := [mu_is Hsa (some m) 6]) rfl (show mu_is Hsa (some m) 6 from (show mu_is Hsa (some m) 6 from gi_im hpa.1 hpa.2.1)) ?_
    rw [(show mu_r Hsa m 4 = some (m + 9) from (gi_mr hpa.1 hpa.2.1 (j := 4) (by decide)).trans (congrArg some (by omega)))]
    refine mw_go mu_g184 (k := 2) (f1 := (48, [(3, .inl f), (4, .inl (nI k)), (0, .inr (.inr (some 92))), (1, .inl (nI w)), (2, .inl (nI a))], [.inl (1 : Int32), .inl (nI k), .inr (.inr (some (m + 9))), .inl f], Hsa)) (C := []) rfl trivial ?_
    refine mw_cIe (fun _ => rfl) (show mu_is Hsa (some (m + 9)) 10 from (hpa.1.w (md_w4 hpa.2.1)).1) (dm.getr (d := (d + 3)) hpa rfl (j := 4) (by decide) rfl (nI k) (c := 1) (by decide)) ?_
    refine mw_go mu_g184 (k := 2) (f1 := (55, [(3, .inl f), (4, .inl (nI k)), (0, .inr (.inr (some 92))), (1, .inl (nI w)), (2, .inl (nI a))], [.inr (.inr (mu_r Hsa 92 2)), .inl (tget ((ak m Hsa) 4) (nI k) 1), .inl f], Hsa)) (C := [mu_is Hsa (some 92) 12]) rfl (show mu_is Hsa (some 92) 12 from hpa.1.is rfl) ?_
    rw [hpa.2.2.1]
    refine mw_go mu_g184 (k := 1) (f1 := (58, [(3, .inl f), (4, .inl (nI k)), (0, .inr (.inr (some 92))), (1, .inl (nI w)), (2, .inl (nI a))], [.inr (.inr (mu_r Hsa m 4)), .inl (tget ((ak m Hsa) 4) (nI k) 1), .inl f], Hsa)) (C := [mu_is Hsa (some m) 6]) rfl (show mu_is Hsa (some m) 6 from (show mu_is Hsa (some m) 6 from gi_im hpa.1 hpa.2.1)) ?_
    rw [(show mu_r Hsa m 4 = some (m + 9) from (gi_mr hpa.1 hpa.2.1 (j := 4) (by decide)).trans (congrArg some (by omega)))]
    refine mw_go mu_g184 (k := 2) (f1 := (60, [(3, .inl f), (4, .inl (nI k)), (0, .inr (.inr (some 92))), (1, .inl (nI w)), (2, .inl (nI a))], [.inl (1 : Int32), .inl (nI a), .inr (.inr (some (m + 9))), .inl (tget ((ak m Hsa) 4) (nI k) 1), .inl f], Hsa)) (C := []) rfl trivial ?_
    refine mw_cIe (fun _ => rfl) (show mu_is Hsa (some (m + 9)) 10 from (hpa.1.w (md_w4 hpa.2.1)).1) (dm.getr (d := (d + 3)) hpa rfl (j := 4) (by decide) rfl (nI a) (c := 1) (by decide)) ?_
    refine mw_if (P := (tget ((ak m Hsa) 4) (nI k) 1) = (tget ((ak m Hsa) 4) (nI a) 1)) (a := 66) (b := 70) (fun _ => rfl) trivial (fun h6 => ?_) (fun h6 => ?_)
    · -- 66: (tget ((ak m Hsa) 4) (nI k) 1) = (tget ((ak m Hsa) 4) (nI a) 1)
      refine mw_go mu_g184 (k := 11) (f1 := (83, [(3, .inl (f &&& (1 : Int32))), (4, .inl (nI k)), (0, .inr (.inr (some 92))), (1, .inl (nI w)), (2, .inl (nI a))], [.inr (.inr (mu_r Hsa 92 2)), .inl ((-2 : Int32) - (nI w)), .inr (.inr (some 92)), .inl (f &&& (1 : Int32))], Hsa)) (C := [mu_is Hsa (some 92) 12]) rfl (show mu_is Hsa (some 92) 12 from hpa.1.is rfl) ?_
      rw [hpa.2.2.1]
      refine mw_go mu_g184 (k := 1) (f1 := (86, [(3, .inl (f &&& (1 : Int32))), (4, .inl (nI k)), (0, .inr (.inr (some 92))), (1, .inl (nI w)), (2, .inl (nI a))], [.inr (.inr (mu_r Hsa m 4)), .inl ((-2 : Int32) - (nI w)), .inr (.inr (some 92)), .inl (f &&& (1 : Int32))], Hsa)) (C := [mu_is Hsa (some m) 6]) rfl (show mu_is Hsa (some m) 6 from (show mu_is Hsa (some m) 6 from gi_im hpa.1 hpa.2.1)) ?_
      rw [(show mu_r Hsa m 4 = some (m + 9) from (gi_mr hpa.1 hpa.2.1 (j := 4) (by decide)).trans (congrArg some (by omega)))]
      refine mw_go mu_g184 (k := 2) (f1 := (89, [(3, .inl (f &&& (1 : Int32))), (4, .inl (nI k)), (0, .inr (.inr (some 92))), (1, .inl (nI w)), (2, .inl (nI a))], [.inl (0 : Int32), .inl (nI k), .inr (.inr (some (m + 9))), .inl ((-2 : Int32) - (nI w)), .inr (.inr (some 92)), .inl (f &&& (1 : Int32))], Hsa)) (C := []) rfl trivial ?_
      refine mw_cIe (fun _ => rfl) (show mu_is Hsa (some (m + 9)) 10 from (hpa.1.w (md_w4 hpa.2.1)).1) (dm.getr (d := (d + 3)) hpa rfl (j := 4) (by decide) rfl (nI k) (c := 0) (by decide)) ?_
      refine mw_go mu_g184 (k := 2) (f1 := (95, [(3, .inl (f &&& (1 : Int32))), (4, .inl (nI k)), (0, .inr (.inr (some 92))), (1, .inl (nI w)), (2, .inl (nI a))], [.inl (nI k), .inl (5 : Int32), .inl (tget ((ak m Hsa) 4) (nI k) 0), .inl ((-2 : Int32) - (nI w)), .inr (.inr (some 92)), .inl (f &&& (1 : Int32))], Hsa)) (C := []) rfl trivial ?_
      refine mw_cI (fun _ => rfl) (show mu_is Hsa (some 92) 12 from hpa.1.is rfl) (so_add2 (C := C) (d := d) hpa hIs ((-2 : Int32) - (nI w)) (tget ((ak m Hsa) 4) (nI k) 0) (5 : Int32) (nI k) (okm_val (by rw [hIs.n (by decide)]; exact hM) (by omega)) (by omega) hC8) (fun x8 H8 q8 => ?_)
      obtain ⟨hx8, hp8, qt8, hI8, hs8, hz8⟩ := q8
      have ht8 := hta.trans qt8
      refine mw_go mu_g184 (k := 4) (f1 := (18, [(4, .inl ((nI k) + 1)), (3, .inl ((f &&& (1 : Int32)) &&& x8)), (0, .inr (.inr (some 92))), (1, .inl (nI w)), (2, .inl (nI a))], [], H8)) (C := []) rfl trivial ?_
      rw [nI_1]
      exact mw_sub (by simp) (iha (((f &&& (1 : Int32)) &&& x8), k + 1, H8) ⟨hp8, ht8, (show ((f &&& (1 : Int32)) &&& x8) = 0 ∨ ((f &&& (1 : Int32)) &&& x8) = 1 from (b_and (b_and (hf) (Or.inr rfl)) (hx8))), (show a ≤ (k + 1) from by omega), (show (k + 1) ≤ a + b from by omega), (show SI m X H8 from hI8), (show ∀ j, j ≠ 19 → ak m H8 j = ak m H j from (fun j hj => (hs8 j hj).trans (hsm j hj))), (show (ak m H8 19).1 + a ≤ (ak m H 19).1 + (k + 1) from by omega)⟩ (by show a + b - (k + 1) < a + b - k; omega))
    · -- 70: not (tget ((ak m Hsa) 4) (nI k) 1) = (tget ((ak m Hsa) 4) (nI a) 1)
      refine mw_go mu_g184 (k := 10) (f1 := (83, [(3, .inl (f &&& (0 : Int32))), (4, .inl (nI k)), (0, .inr (.inr (some 92))), (1, .inl (nI w)), (2, .inl (nI a))], [.inr (.inr (mu_r Hsa 92 2)), .inl ((-2 : Int32) - (nI w)), .inr (.inr (some 92)), .inl (f &&& (0 : Int32))], Hsa)) (C := [mu_is Hsa (some 92) 12]) rfl (show mu_is Hsa (some 92) 12 from hpa.1.is rfl) ?_
      rw [hpa.2.2.1]
      refine mw_go mu_g184 (k := 1) (f1 := (86, [(3, .inl (f &&& (0 : Int32))), (4, .inl (nI k)), (0, .inr (.inr (some 92))), (1, .inl (nI w)), (2, .inl (nI a))], [.inr (.inr (mu_r Hsa m 4)), .inl ((-2 : Int32) - (nI w)), .inr (.inr (some 92)), .inl (f &&& (0 : Int32))], Hsa)) (C := [mu_is Hsa (some m) 6]) rfl (show mu_is Hsa (some m) 6 from (show mu_is Hsa (some m) 6 from gi_im hpa.1 hpa.2.1)) ?_
      rw [(show mu_r Hsa m 4 = some (m + 9) from (gi_mr hpa.1 hpa.2.1 (j := 4) (by decide)).trans (congrArg some (by omega)))]
      refine mw_go mu_g184 (k := 2) (f1 := (89, [(3, .inl (f &&& (0 : Int32))), (4, .inl (nI k)), (0, .inr (.inr (some 92))), (1, .inl (nI w)), (2, .inl (nI a))], [.inl (0 : Int32), .inl (nI k), .inr (.inr (some (m + 9))), .inl ((-2 : Int32) - (nI w)), .inr (.inr (some 92)), .inl (f &&& (0 : Int32))], Hsa)) (C := []) rfl trivial ?_
      refine mw_cIe (fun _ => rfl) (show mu_is Hsa (some (m + 9)) 10 from (hpa.1.w (md_w4 hpa.2.1)).1) (dm.getr (d := (d + 3)) hpa rfl (j := 4) (by decide) rfl (nI k) (c := 0) (by decide)) ?_
      refine mw_go mu_g184 (k := 2) (f1 := (95, [(3, .inl (f &&& (0 : Int32))), (4, .inl (nI k)), (0, .inr (.inr (some 92))), (1, .inl (nI w)), (2, .inl (nI a))], [.inl (nI k), .inl (5 : Int32), .inl (tget ((ak m Hsa) 4) (nI k) 0), .inl ((-2 : Int32) - (nI w)), .inr (.inr (some 92)), .inl (f &&& (0 : Int32))], Hsa)) (C := []) rfl trivial ?_
      refine mw_cI (fun _ => rfl) (show mu_is Hsa (some 92) 12 from hpa.1.is rfl) (so_add2 (C := C) (d := d) hpa hIs ((-2 : Int32) - (nI w)) (tget ((ak m Hsa) 4) (nI k) 0) (5 : Int32) (nI k) (okm_val (by rw [hIs.n (by decide)]; exact hM) (by omega)) (by omega) hC8) (fun x10 H10 q10 => ?_)
      obtain ⟨hx10, hp10, qt10, hI10, hs10, hz10⟩ := q10
      have ht10 := hta.trans qt10
      refine mw_go mu_g184 (k := 4) (f1 := (18, [(4, .inl ((nI k) + 1)), (3, .inl ((f &&& (0 : Int32)) &&& x10)), (0, .inr (.inr (some 92))), (1, .inl (nI w)), (2, .inl (nI a))], [], H10)) (C := []) rfl trivial ?_
      rw [nI_1]
      exact mw_sub (by simp) (iha (((f &&& (0 : Int32)) &&& x10), k + 1, H10) ⟨hp10, ht10, (show ((f &&& (0 : Int32)) &&& x10) = 0 ∨ ((f &&& (0 : Int32)) &&& x10) = 1 from (b_and (b_and (hf) (Or.inl rfl)) (hx10))), (show a ≤ (k + 1) from by omega), (show (k + 1) ≤ a + b from by omega), (show SI m X H10 from hI10), (show ∀ j, j ≠ 19 → ak m H10 j = ak m H j from (fun j hj => (hs10 j hj).trans (hsm j hj))), (show (ak m H10 19).1 + a ≤ (ak m H 19).1 + (k + 1) from by omega)⟩ (by show a + b - (k + 1) < a + b - k; omega))
  · -- 106: not (nI k) < ((nI a) + (nI b))
    rw [nI_add] at h3
    have hkb : ¬ k < a + b := fun z => h3 (nI_lt z (by omega))
    refine mw_go mu_g184 (k := 1) (f1 := (107, [(3, .inl f), (4, .inl (nI k)), (0, .inr (.inr (some 92))), (1, .inl (nI w)), (2, .inl (nI a))], [.inl f], Hsa)) (C := []) rfl trivial ?_
    exact mw_of (fun _ => mu_ret rfl hf ⟨_, Hsa, rfl, hf, hpa, hta, hIs, (fun j hj => hsm j hj), by omega⟩)
theorem so_instance2 (h : dm m H) (hI : SI m X H) (hc : CT X) {w : Nat} (hw : w < (X 3).1) : mu_TI (mu_D (d + 3)) 185 [.inr (.inr (some 92)), .inl (nI w)] H (fun x H1 => (x = 0 ∨ x = 1) ∧ dm m H1 ∧ rl m C H H1 ∧ SI m X H1 ∧ (∀ j, j ≠ 3 → ak m H1 j = ak m H j) ∧ (∀ v, v ≠ w → (ak m H1 3).2 v 4 = (ak m H 3).2 v 4) ∧ (x = 1 → VM (ak m H1) w)) := by
  have hM : (X 1).1 ≤ 67108864 := by rw [← hI.n (j := 1) (by decide)]; exact h.lt rfl (by decide)
  have hX3 : (X 3).1 ≤ 67108864 := by rw [← hI.n (j := 3) (by decide)]; exact h.lt rfl (by decide)
  have hX4 : (X 4).1 ≤ 67108864 := by rw [← hI.n (j := 4) (by decide)]; exact h.lt rfl (by decide)
  refine mu_meth (M := mu_m185) rfl rfl ?_
  refine mw_ht (mu_fn_of (show [0, 1].Nodup by decide)) ?_
  refine mw_go mu_g185 (k := 5) (f1 := (7, [(0, .inr (.inr (some 92))), (1, .inl (nI w))], [.inr (.inr (mu_r H 92 2)), .inl (-1 : Int32), .inr (.inr (some 92)), .inr (.inr (some 92))], H)) (C := [mu_is H (some 92) 12]) rfl (show mu_is H (some 92) 12 from h.1.is rfl) ?_
  rw [h.2.2.1]
  refine mw_go mu_g185 (k := 1) (f1 := (10, [(0, .inr (.inr (some 92))), (1, .inl (nI w))], [.inr (.inr (mu_r H m 3)), .inl (-1 : Int32), .inr (.inr (some 92)), .inr (.inr (some 92))], H)) (C := [mu_is H (some m) 6]) rfl (show mu_is H (some m) 6 from (show mu_is H (some m) 6 from gi_im h.1 h.2.1)) ?_
  rw [(show mu_r H m 3 = some (m + 7) from (gi_mr h.1 h.2.1 (j := 3) (by decide)).trans (congrArg some (by omega)))]
  refine mw_go mu_g185 (k := 2) (f1 := (12, [(0, .inr (.inr (some 92))), (1, .inl (nI w))], [.inl (4 : Int32), .inl (nI w), .inr (.inr (some (m + 7))), .inl (-1 : Int32), .inr (.inr (some 92)), .inr (.inr (some 92))], H)) (C := []) rfl trivial ?_
  refine mw_cIe (fun _ => rfl) (show mu_is H (some (m + 7)) 10 from (h.1.w (md_w3 h.2.1)).1) (dm.getr (d := (d + 1)) h rfl (j := 3) (by decide) rfl (nI w) (c := 4) (by decide)) ?_
  refine mw_cI (fun _ => rfl) (show mu_is H (some 92) 12 from h.1.is rfl) (so_find2 (d := d) h rfl hI.1 (-1 : Int32) (tget ((ak m H) 3) (nI w) 4)) (fun x2 H2 q2 => ?_)
  rcases q2 with ⟨rfl, rfl⟩ | ⟨r, hr, rfl, e0, e1, rfl⟩
  · -- (-1 : Int32)
    refine mw_cIe (fun _ => rfl) (show mu_is H (some 92) 12 from h.1.is rfl) (so_rowOf2 (d := d) h rfl (-1 : Int32)) ?_
    rw [show rwo ((ak m H) 19) (-1 : Int32) = (-1 : Int32) from rfl]
    refine mw_go mu_g185 (k := 2) (f1 := (23, [(2, .inl (-1 : Int32)), (0, .inr (.inr (some 92))), (1, .inl (nI w))], [.inl (-1 : Int32)], H)) (C := []) rfl trivial ?_
    refine mw_if (P := (-1 : Int32) < 0) (a := 26) (b := 28) (fun _ => rfl) trivial (fun h4 => ?_) (fun h4 => absurd (by decide) h4)
    refine mw_go mu_g185 (k := 1) (f1 := (27, [(2, .inl (-1 : Int32)), (0, .inr (.inr (some 92))), (1, .inl (nI w))], [.inl (0 : Int32)], H)) (C := []) rfl trivial ?_
    exact mw_of (fun _ => mu_ret rfl (Or.inl rfl) ⟨_, H, rfl, Or.inl rfl, h, rl.refl m C H, hI, fun _ _ => rfl, fun _ _ => rfl, fun z => absurd z (by decide)⟩)
  · -- (nI r)
    obtain ⟨kk, hkk, ekk⟩ := (hI.2.1 r hr).1 e0
    have hk2 : kk < (X 1).1 := by rw [← hI.n (j := 1) (by decide)]; exact hkk
    have hr6 : r < 67108864 := Nat.lt_of_lt_of_le hr (h.lt rfl (by decide))
    refine mw_cIe (fun _ => rfl) (show mu_is H (some 92) 12 from h.1.is rfl) (so_rowOf2 (d := d) h rfl (nI r)) ?_
    rw [show rwo ((ak m H) 19) (nI r) = nI kk from (if_neg (nI_pos (by omega))).trans ((tget_nI (by omega)).trans ekk)]
    refine mw_go mu_g185 (k := 2) (f1 := (23, [(2, .inl (nI kk)), (0, .inr (.inr (some 92))), (1, .inl (nI w))], [.inl (nI kk)], H)) (C := []) rfl trivial ?_
    refine mw_if (P := (nI kk) < 0) (a := 26) (b := 28) (fun _ => rfl) trivial (fun h6 => ?_) (fun h6 => ?_)
    · -- 26: (nI kk) < 0
      exact absurd h6 (nI_pos (by omega))
    · -- 28: not (nI kk) < 0
      refine mw_go mu_g185 (k := 2) (f1 := (32, [(2, .inl (nI kk)), (0, .inr (.inr (some 92))), (1, .inl (nI w))], [.inr (.inr (mu_r H 92 2))], H)) (C := [mu_is H (some 92) 12]) rfl (show mu_is H (some 92) 12 from h.1.is rfl) ?_
      rw [h.2.2.1]
      refine mw_go mu_g185 (k := 1) (f1 := (35, [(2, .inl (nI kk)), (0, .inr (.inr (some 92))), (1, .inl (nI w))], [.inr (.inr (mu_r H m 3))], H)) (C := [mu_is H (some m) 6]) rfl (show mu_is H (some m) 6 from (show mu_is H (some m) 6 from gi_im h.1 h.2.1)) ?_
      rw [(show mu_r H m 3 = some (m + 7) from (gi_mr h.1 h.2.1 (j := 3) (by decide)).trans (congrArg some (by omega)))]
      refine mw_go mu_g185 (k := 3) (f1 := (38, [(2, .inl (nI kk)), (0, .inr (.inr (some 92))), (1, .inl (nI w))], [.inl (nI kk), .inl (4 : Int32), .inl (nI w), .inr (.inr (some (m + 7)))], H)) (C := []) rfl trivial ?_
      refine mw_cV (fun _ => rfl) (show mu_is H (some (m + 7)) 10 from (h.1.w (md_w3 h.2.1)).1) (dm.setr (C := C) (d := (d + 1)) h rfl (j := 3) (by decide) rfl (nI w) (nI kk) (c := 4) (by decide)) (fun H7 q7 => ?_)
      obtain ⟨hp7, qt7, ha7, qh7⟩ := q7
      have ht7 := (rl.refl m C H).trans qt7
      have ha7 : ak m H7 = (ax 3 (ak m H) (nI w) 4 (nI kk)) := ha7
      have hI7 : SI m X H7 := hI.set qh7 (by rw [ha7]; exact ax_ne (by decide)) (by rw [ha7]; exact eqc_ax3 (by decide))
      refine mw_go mu_g185 (k := 2) (f1 := (45, [(2, .inl (nI kk)), (0, .inr (.inr (some 92))), (1, .inl (nI w))], [.inr (.inr (mu_r H7 92 2))], H7)) (C := [mu_is H7 (some 92) 12]) rfl (show mu_is H7 (some 92) 12 from hp7.1.is rfl) ?_
      rw [hp7.2.2.1]
      refine mw_go mu_g185 (k := 4) (f1 := (51, [(2, .inl (nI kk)), (0, .inr (.inr (some 92))), (1, .inl (nI w))], [.inr (.inr (mu_r H7 92 2)), .inl (1 : Int32), .inl (nI kk), .inr (.inr (some m))], H7)) (C := [mu_is H7 (some 92) 12]) rfl (show mu_is H7 (some 92) 12 from hp7.1.is rfl) ?_
      rw [hp7.2.2.1]
      refine mw_go mu_g185 (k := 1) (f1 := (54, [(2, .inl (nI kk)), (0, .inr (.inr (some 92))), (1, .inl (nI w))], [.inr (.inr (mu_r H7 m 2)), .inl (1 : Int32), .inl (nI kk), .inr (.inr (some m))], H7)) (C := [mu_is H7 (some m) 6]) rfl (show mu_is H7 (some m) 6 from (show mu_is H7 (some m) 6 from gi_im hp7.1 hp7.2.1)) ?_
      rw [(show mu_r H7 m 2 = some (m + 5) from (gi_mr hp7.1 hp7.2.1 (j := 2) (by decide)).trans (congrArg some (by omega)))]
      refine mw_cIe (fun _ => rfl) (show mu_is H7 (some m) 6 from (show mu_is H7 (some m) 6 from gi_im hp7.1 hp7.2.1)) (dm.stopr (d := d) hp7 rfl (j := 2) (by decide) rfl (c := 1) (by decide) (nI kk)) ?_
      rw [show (stp (ak m H7) (nI kk) 1 2) = (nI (sp X (kk + 1) 1)) from hI7.stop hp7 hc hk2 (by decide) (by decide) rfl]
      refine mw_go mu_g185 (k := 2) (f1 := (61, [(2, .inl (nI kk)), (0, .inr (.inr (some 92))), (1, .inl (nI w))], [.inr (.inr (mu_r H7 92 2)), .inl (nI (sp X (kk + 1) 1))], H7)) (C := [mu_is H7 (some 92) 12]) rfl (show mu_is H7 (some 92) 12 from hp7.1.is rfl) ?_
      rw [hp7.2.2.1]
      refine mw_go mu_g185 (k := 1) (f1 := (64, [(2, .inl (nI kk)), (0, .inr (.inr (some 92))), (1, .inl (nI w))], [.inr (.inr (mu_r H7 m 1)), .inl (nI (sp X (kk + 1) 1))], H7)) (C := [mu_is H7 (some m) 6]) rfl (show mu_is H7 (some m) 6 from (show mu_is H7 (some m) 6 from gi_im hp7.1 hp7.2.1)) ?_
      rw [(show mu_r H7 m 1 = some (m + 3) from (gi_mr hp7.1 hp7.2.1 (j := 1) (by decide)).trans (congrArg some (by omega)))]
      refine mw_go mu_g185 (k := 2) (f1 := (66, [(2, .inl (nI kk)), (0, .inr (.inr (some 92))), (1, .inl (nI w))], [.inl (1 : Int32), .inl (nI kk), .inr (.inr (some (m + 3))), .inl (nI (sp X (kk + 1) 1))], H7)) (C := []) rfl trivial ?_
      refine mw_cIe (fun _ => rfl) (show mu_is H7 (some (m + 3)) 10 from (hp7.1.w (md_w1 hp7.2.1)).1) (dm.getr (d := (d + 1)) hp7 rfl (j := 1) (by decide) rfl (nI kk) (c := 1) (by decide)) ?_
      rw [show (tget ((ak m H7) 1) (nI kk) 1) = (nI (sp X kk 1)) from hI7.start hp7 hc hk2 (by decide) (by decide)]
      refine mw_go mu_g185 (k := 5) (f1 := (76, [(3, .inl ((nI (sp X (kk + 1) 1)) - (nI (sp X kk 1)))), (2, .inl (nI kk)), (0, .inr (.inr (some 92))), (1, .inl (nI w))], [.inr (.inr (mu_r H7 92 2)), .inl ((nI (sp X (kk + 1) 1)) - (nI (sp X kk 1)))], H7)) (C := [mu_is H7 (some 92) 12]) rfl (show mu_is H7 (some 92) 12 from hp7.1.is rfl) ?_
      rw [hp7.2.2.1]
      refine mw_go mu_g185 (k := 1) (f1 := (79, [(3, .inl ((nI (sp X (kk + 1) 1)) - (nI (sp X kk 1)))), (2, .inl (nI kk)), (0, .inr (.inr (some 92))), (1, .inl (nI w))], [.inr (.inr (mu_r H7 m 3)), .inl ((nI (sp X (kk + 1) 1)) - (nI (sp X kk 1)))], H7)) (C := [mu_is H7 (some m) 6]) rfl (show mu_is H7 (some m) 6 from (show mu_is H7 (some m) 6 from gi_im hp7.1 hp7.2.1)) ?_
      rw [(show mu_r H7 m 3 = some (m + 7) from (gi_mr hp7.1 hp7.2.1 (j := 3) (by decide)).trans (congrArg some (by omega)))]
      refine mw_go mu_g185 (k := 2) (f1 := (81, [(3, .inl ((nI (sp X (kk + 1) 1)) - (nI (sp X kk 1)))), (2, .inl (nI kk)), (0, .inr (.inr (some 92))), (1, .inl (nI w))], [.inl (3 : Int32), .inl (nI w), .inr (.inr (some (m + 7))), .inl ((nI (sp X (kk + 1) 1)) - (nI (sp X kk 1)))], H7)) (C := []) rfl trivial ?_
      refine mw_cIe (fun _ => rfl) (show mu_is H7 (some (m + 7)) 10 from (hp7.1.w (md_w3 hp7.2.1)).1) (dm.getr (d := (d + 1)) hp7 rfl (j := 3) (by decide) rfl (nI w) (c := 3) (by decide)) ?_
      rw [show (tget ((ak m H7) 3) (nI w) 3) = ((X 3).2 w 3) from hI7.c3 (by decide) (by omega)]
      refine mw_if (P := ((nI (sp X (kk + 1) 1)) - (nI (sp X kk 1))) = ((X 3).2 w 3)) (a := 87) (b := 91) (fun _ => rfl) trivial (fun h11 => ?_) (fun h11 => ?_)
      · -- 87: ((nI (sp X (kk + 1) 1)) - (nI (sp X kk 1))) = ((X 3).2 w 3)
        refine mw_go mu_g185 (k := 2) (f1 := (92, [(3, .inl ((nI (sp X (kk + 1) 1)) - (nI (sp X kk 1)))), (2, .inl (nI kk)), (0, .inr (.inr (some 92))), (1, .inl (nI w))], [.inl (1 : Int32)], H7)) (C := []) rfl trivial ?_
        obtain ⟨lk1, lk2, lk3⟩ := hI.le h hc hk2 (c := 1) (j := 2) (by decide) (by decide) rfl
        refine mw_of (fun _ => mu_ret rfl (Or.inr rfl) ⟨_, H7, rfl, Or.inr rfl, hp7, ht7, hI7, fun j hj => by rw [ha7]; exact ax_ne hj, fun v hv => by rw [ha7]; exact ax_c (fun _ z => absurd (z.trans (nI_clamp (by omega))) hv), fun _ z => ⟨kk, ?_, ?_, ?_⟩⟩)
        · rw [hI7.n (by decide)]; exact hk2
        · rw [ha7]; exact ax_hit (by rw [hI.n (by decide)]; exact hw) (by decide) (by omega)
        · rw [hI7.2.2.2 3 (by decide) w 3 (by omega) (by omega) (by omega), hI7.2.2.spc (by decide), hI7.2.2.spc (by decide), ← h11, pk_sub lk1]
      · -- 91: not ((nI (sp X (kk + 1) 1)) - (nI (sp X kk 1))) = ((X 3).2 w 3)
        refine mw_go mu_g185 (k := 1) (f1 := (92, [(3, .inl ((nI (sp X (kk + 1) 1)) - (nI (sp X kk 1)))), (2, .inl (nI kk)), (0, .inr (.inr (some 92))), (1, .inl (nI w))], [.inl (0 : Int32)], H7)) (C := []) rfl trivial ?_
        exact mw_of (fun _ => mu_ret rfl (Or.inl rfl) ⟨_, H7, rfl, Or.inl rfl, hp7, ht7, hI7, fun j hj => by rw [ha7]; exact ax_ne hj, fun v hv => by rw [ha7]; exact ax_c (fun _ z => absurd (z.trans (nI_clamp (by omega))) hv), fun z => absurd z (by decide)⟩)
theorem so_types2 (h : dm m H) (hI : SI m X H) (hc : CT X) (hi : i < (X 1).1) (hC : 10 * ((ak m H 19).1 + ls2 (X 3) (sp X (i + 1) 2) - ls2 (X 3) (sp X i 2)) + 5 ≤ C 19) (hC8 : C 19 ≤ 8388608) : mu_TI (mu_D (d + 6)) 180 [.inr (.inr (some 92)), .inl (nI i)] H (fun x H1 => (x = 0 ∨ x = 1) ∧ dm m H1 ∧ rl m C H H1 ∧ SI m X H1 ∧ (ak m H1 19).1 + ls2 (X 3) (sp X i 2) ≤ (ak m H 19).1 + ls2 (X 3) (sp X (i + 1) 2) ∧ (x = 1 → c4 X i (sp X (i + 1) 2) (ak m H) (ak m H1))) := by
  have hM : (X 1).1 ≤ 67108864 := by rw [← hI.n (j := 1) (by decide)]; exact h.lt rfl (by decide)
  obtain ⟨le1, lf1, lg1⟩ := hI.le h hc hi (c := 1) (j := 2) (by decide) (by decide) rfl
  obtain ⟨le2, lf2, lg2⟩ := hI.le h hc hi (c := 2) (j := 3) (by decide) (by decide) rfl
  obtain ⟨le3, lf3, lg3⟩ := hI.le h hc hi (c := 3) (j := 6) (by decide) (by decide) rfl
  obtain ⟨le4, lf4, lg4⟩ := hI.le h hc hi (c := 4) (j := 7) (by decide) (by decide) rfl
  have hX3 : (X 3).1 ≤ 67108864 := by rw [← hI.n (j := 3) (by decide)]; exact h.lt rfl (by decide)
  have hX4 : (X 4).1 ≤ 67108864 := by rw [← hI.n (j := 4) (by decide)]; exact h.lt rfl (by decide)
  refine mu_meth (M := mu_m180) rfl rfl ?_
  refine mw_ht (mu_fn_of (show [0, 1].Nodup by decide)) ?_
  refine mw_go mu_g180 (k := 2) (f1 := (4, [(0, .inr (.inr (some 92))), (1, .inl (nI i))], [.inr (.inr (mu_r H 92 2))], H)) (C := [mu_is H (some 92) 12]) rfl (show mu_is H (some 92) 12 from h.1.is rfl) ?_
  rw [h.2.2.1]
  refine mw_go mu_g180 (k := 1) (f1 := (7, [(0, .inr (.inr (some 92))), (1, .inl (nI i))], [.inr (.inr (mu_r H m 1))], H)) (C := [mu_is H (some m) 6]) rfl (show mu_is H (some m) 6 from (show mu_is H (some m) 6 from gi_im h.1 h.2.1)) ?_
  rw [(show mu_r H m 1 = some (m + 3) from (gi_mr h.1 h.2.1 (j := 1) (by decide)).trans (congrArg some (by omega)))]
  refine mw_go mu_g180 (k := 2) (f1 := (9, [(0, .inr (.inr (some 92))), (1, .inl (nI i))], [.inl (2 : Int32), .inl (nI i), .inr (.inr (some (m + 3)))], H)) (C := []) rfl trivial ?_
  refine mw_cIe (fun _ => rfl) (show mu_is H (some (m + 3)) 10 from (h.1.w (md_w1 h.2.1)).1) (dm.getr (d := (d + 4)) h rfl (j := 1) (by decide) rfl (nI i) (c := 2) (by decide)) ?_
  rw [show (tget ((ak m H) 1) (nI i) 2) = (nI (sp X i 2)) from hI.start h hc hi (by decide) (by decide)]
  refine mw_go mu_g180 (k := 1) (f1 := (13, [(2, .inl (nI (sp X i 2))), (0, .inr (.inr (some 92))), (1, .inl (nI i))], [], H)) (C := []) rfl trivial ?_
  refine mw_sub (L' := [(2, .inl (nI (sp X i 2))), (0, .inr (.inr (some 92))), (1, .inl (nI i))]) (by simp) ?_
  refine mw_down (α := Nat × mu_H) (fun zs => (13, [(2, .inl (nI zs.1)), (0, .inr (.inr (some 92))), (1, .inl (nI i))], [], zs.2)) (fun zs => sp X (i + 1) 2 - zs.1) (fun zs => dm m zs.2 ∧ rl m C H zs.2 ∧ (sp X i 2 ≤ zs.1) ∧ (zs.1 ≤ sp X (i + 1) 2) ∧ (SI m X zs.2) ∧ (c4 X i zs.1 (ak m H) (ak m zs.2)) ∧ ((ak m zs.2 19).1 + ls2 (X 3) (sp X i 2) ≤ (ak m H 19).1 + ls2 (X 3) zs.1)) (fun zs hza iha => ?_) (sp X i 2, H) ⟨h, (rl.refl m C H), (show sp X i 2 ≤ (sp X i 2) from by omega), (show (sp X i 2) ≤ sp X (i + 1) 2 from by omega), (show SI m X H from hI), (show c4 X i (sp X i 2) (ak m H) (ak m H) from ⟨fun _ _ _ => rfl, fun _ _ => rfl, fun v a b => absurd b (by omega)⟩), (show (ak m H 19).1 + ls2 (X 3) (sp X i 2) ≤ (ak m H 19).1 + ls2 (X 3) (sp X i 2) from by omega)⟩
  obtain ⟨k, Hsa⟩ := zs
  obtain ⟨hpa, hta, hk1, hk2, hIs, hcs, hz⟩ := hza
  have hpa : dm m Hsa := hpa
  have hta : rl m C H Hsa := hta
  have hk1 : sp X i 2 ≤ k := hk1
  have hk2 : k ≤ sp X (i + 1) 2 := hk2
  have hIs : SI m X Hsa := hIs
  have hcs : c4 X i k (ak m H) (ak m Hsa) := hcs
  have hz : (ak m Hsa 19).1 + ls2 (X 3) (sp X i 2) ≤ (ak m H 19).1 + ls2 (X 3) k := hz
  show mu_W _ _ (13, [(2, .inl (nI k)), (0, .inr (.inr (some 92))), (1, .inl (nI i))], [], Hsa) _
  refine mw_go mu_g180 (k := 3) (f1 := (18, [(2, .inl (nI k)), (0, .inr (.inr (some 92))), (1, .inl (nI i))], [.inr (.inr (mu_r Hsa 92 2)), .inl (nI k)], Hsa)) (C := [mu_is Hsa (some 92) 12]) rfl (show mu_is Hsa (some 92) 12 from hpa.1.is rfl) ?_
  rw [hpa.2.2.1]
  refine mw_go mu_g180 (k := 4) (f1 := (24, [(2, .inl (nI k)), (0, .inr (.inr (some 92))), (1, .inl (nI i))], [.inr (.inr (mu_r Hsa 92 2)), .inl (2 : Int32), .inl (nI i), .inr (.inr (some m)), .inl (nI k)], Hsa)) (C := [mu_is Hsa (some 92) 12]) rfl (show mu_is Hsa (some 92) 12 from hpa.1.is rfl) ?_
  rw [hpa.2.2.1]
  refine mw_go mu_g180 (k := 1) (f1 := (27, [(2, .inl (nI k)), (0, .inr (.inr (some 92))), (1, .inl (nI i))], [.inr (.inr (mu_r Hsa m 3)), .inl (2 : Int32), .inl (nI i), .inr (.inr (some m)), .inl (nI k)], Hsa)) (C := [mu_is Hsa (some m) 6]) rfl (show mu_is Hsa (some m) 6 from (show mu_is Hsa (some m) 6 from gi_im hpa.1 hpa.2.1)) ?_
  rw [(show mu_r Hsa m 3 = some (m + 7) from (gi_mr hpa.1 hpa.2.1 (j := 3) (by decide)).trans (congrArg some (by omega)))]
  refine mw_cIe (fun _ => rfl) (show mu_is Hsa (some m) 6 from (show mu_is Hsa (some m) 6 from gi_im hpa.1 hpa.2.1)) (dm.stopr (d := (d + 3)) hpa rfl (j := 3) (by decide) rfl (c := 2) (by decide) (nI i)) ?_
  rw [show (stp (ak m Hsa) (nI i) 2 3) = (nI (sp X (i + 1) 2)) from hIs.stop hpa hc hi (by decide) (by decide) rfl]
  refine mw_if (P := (nI k) < (nI (sp X (i + 1) 2))) (a := 33) (b := 112) (fun _ => rfl) trivial (fun h3 => ?_) (fun h3 => ?_)
  · -- 33: (nI k) < (nI (sp X (i + 1) 2))
    have hkb : k < sp X (i + 1) 2 := (nI_ltI (by omega) (by omega)).mp h3
    refine mw_go mu_g180 (k := 2) (f1 := (37, [(2, .inl (nI k)), (0, .inr (.inr (some 92))), (1, .inl (nI i))], [.inr (.inr (mu_r Hsa 92 2))], Hsa)) (C := [mu_is Hsa (some 92) 12]) rfl (show mu_is Hsa (some 92) 12 from hpa.1.is rfl) ?_
    rw [hpa.2.2.1]
    refine mw_go mu_g180 (k := 1) (f1 := (40, [(2, .inl (nI k)), (0, .inr (.inr (some 92))), (1, .inl (nI i))], [.inr (.inr (mu_r Hsa m 3))], Hsa)) (C := [mu_is Hsa (some m) 6]) rfl (show mu_is Hsa (some m) 6 from (show mu_is Hsa (some m) 6 from gi_im hpa.1 hpa.2.1)) ?_
    rw [(show mu_r Hsa m 3 = some (m + 7) from (gi_mr hpa.1 hpa.2.1 (j := 3) (by decide)).trans (congrArg some (by omega)))]
    refine mw_go mu_g180 (k := 2) (f1 := (42, [(2, .inl (nI k)), (0, .inr (.inr (some 92))), (1, .inl (nI i))], [.inl (1 : Int32), .inl (nI k), .inr (.inr (some (m + 7)))], Hsa)) (C := []) rfl trivial ?_
    refine mw_cIe (fun _ => rfl) (show mu_is Hsa (some (m + 7)) 10 from (hpa.1.w (md_w3 hpa.2.1)).1) (dm.getr (d := (d + 4)) hpa rfl (j := 3) (by decide) rfl (nI k) (c := 1) (by decide)) ?_
    rw [show (tget ((ak m Hsa) 3) (nI k) 1) = ((X 3).2 k 1) from hIs.c3 (by decide) (by omega)]
    refine mw_go mu_g180 (k := 3) (f1 := (48, [(3, .inl ((X 3).2 k 1)), (2, .inl (nI k)), (0, .inr (.inr (some 92))), (1, .inl (nI i))], [.inl (1 : Int32), .inl ((X 3).2 k 1)], Hsa)) (C := []) rfl trivial ?_
    refine mw_if (P := ((X 3).2 k 1) = (1 : Int32)) (a := 51) (b := 78) (fun _ => rfl) trivial (fun h5 => ?_) (fun h5 => ?_)
    · -- 51: ((X 3).2 k 1) = (1 : Int32)
      refine mw_go mu_g180 (k := 2) (f1 := (55, [(3, .inl ((X 3).2 k 1)), (2, .inl (nI k)), (0, .inr (.inr (some 92))), (1, .inl (nI i))], [.inr (.inr (mu_r Hsa 92 2))], Hsa)) (C := [mu_is Hsa (some 92) 12]) rfl (show mu_is Hsa (some 92) 12 from hpa.1.is rfl) ?_
      rw [hpa.2.2.1]
      refine mw_go mu_g180 (k := 1) (f1 := (58, [(3, .inl ((X 3).2 k 1)), (2, .inl (nI k)), (0, .inr (.inr (some 92))), (1, .inl (nI i))], [.inr (.inr (mu_r Hsa m 3))], Hsa)) (C := [mu_is Hsa (some m) 6]) rfl (show mu_is Hsa (some m) 6 from (show mu_is Hsa (some m) 6 from gi_im hpa.1 hpa.2.1)) ?_
      rw [(show mu_r Hsa m 3 = some (m + 7) from (gi_mr hpa.1 hpa.2.1 (j := 3) (by decide)).trans (congrArg some (by omega)))]
      refine mw_go mu_g180 (k := 2) (f1 := (60, [(3, .inl ((X 3).2 k 1)), (2, .inl (nI k)), (0, .inr (.inr (some 92))), (1, .inl (nI i))], [.inl (2 : Int32), .inl (nI k), .inr (.inr (some (m + 7)))], Hsa)) (C := []) rfl trivial ?_
      refine mw_cIe (fun _ => rfl) (show mu_is Hsa (some (m + 7)) 10 from (hpa.1.w (md_w3 hpa.2.1)).1) (dm.getr (d := (d + 4)) hpa rfl (j := 3) (by decide) rfl (nI k) (c := 2) (by decide)) ?_
      rw [show (tget ((ak m Hsa) 3) (nI k) 2) = ((X 3).2 k 2) from hIs.c3 (by decide) (by omega)]
      refine mw_go mu_g180 (k := 2) (f1 := (67, [(3, .inl ((X 3).2 k 1)), (2, .inl (nI k)), (0, .inr (.inr (some 92))), (1, .inl (nI i))], [.inr (.inr (mu_r Hsa 92 2)), .inl ((X 3).2 k 2)], Hsa)) (C := [mu_is Hsa (some 92) 12]) rfl (show mu_is Hsa (some 92) 12 from hpa.1.is rfl) ?_
      rw [hpa.2.2.1]
      refine mw_go mu_g180 (k := 1) (f1 := (70, [(3, .inl ((X 3).2 k 1)), (2, .inl (nI k)), (0, .inr (.inr (some 92))), (1, .inl (nI i))], [.inr (.inr (mu_r Hsa m 3)), .inl ((X 3).2 k 2)], Hsa)) (C := [mu_is Hsa (some m) 6]) rfl (show mu_is Hsa (some m) 6 from (show mu_is Hsa (some m) 6 from gi_im hpa.1 hpa.2.1)) ?_
      rw [(show mu_r Hsa m 3 = some (m + 7) from (gi_mr hpa.1 hpa.2.1 (j := 3) (by decide)).trans (congrArg some (by omega)))]
      refine mw_go mu_g180 (k := 2) (f1 := (72, [(3, .inl ((X 3).2 k 1)), (2, .inl (nI k)), (0, .inr (.inr (some 92))), (1, .inl (nI i))], [.inl (3 : Int32), .inl (nI k), .inr (.inr (some (m + 7))), .inl ((X 3).2 k 2)], Hsa)) (C := []) rfl trivial ?_
      refine mw_cIe (fun _ => rfl) (show mu_is Hsa (some (m + 7)) 10 from (hpa.1.w (md_w3 hpa.2.1)).1) (dm.getr (d := (d + 4)) hpa rfl (j := 3) (by decide) rfl (nI k) (c := 3) (by decide)) ?_
      rw [show (tget ((ak m Hsa) 3) (nI k) 3) = ((X 3).2 k 3) from hIs.c3 (by decide) (by omega)]
      refine mw_if (P := ((X 3).2 k 3) < ((X 3).2 k 2)) (a := 104) (b := 78) (fun _ => rfl) trivial (fun h8 => ?_) (fun h8 => ?_)
      · -- 104: ((X 3).2 k 3) < ((X 3).2 k 2)
        refine mw_go mu_g180 (k := 1) (f1 := (105, [(3, .inl ((X 3).2 k 1)), (2, .inl (nI k)), (0, .inr (.inr (some 92))), (1, .inl (nI i))], [.inl (0 : Int32)], Hsa)) (C := []) rfl trivial ?_
        exact mw_of (fun _ => mu_ret rfl (Or.inl rfl) ⟨_, Hsa, rfl, Or.inl rfl, hpa, hta, hIs, (by have z := ls2_le (t := X 3) (show k ≤ sp X (i + 1) 2 by omega); omega), fun z => absurd z (by decide)⟩)
      · -- 78: not ((X 3).2 k 3) < ((X 3).2 k 2)
        refine mw_go mu_g180 (k := 2) (f1 := (80, [(3, .inl ((X 3).2 k 1)), (2, .inl (nI k)), (0, .inr (.inr (some 92))), (1, .inl (nI i))], [.inl (2 : Int32), .inl ((X 3).2 k 1)], Hsa)) (C := []) rfl trivial ?_
        refine mw_if (P := ((X 3).2 k 1) = (2 : Int32)) (a := 83) (b := 91) (fun _ => rfl) trivial (fun h9 => ?_) (fun h9 => ?_)
        · -- 83: ((X 3).2 k 1) = (2 : Int32)
          exact absurd (show (1 : Int32) = 2 from h5.symm.trans h9) (by decide)
        · -- 91: not ((X 3).2 k 1) = (2 : Int32)
          refine mw_go mu_g180 (k := 2) (f1 := (93, [(3, .inl ((X 3).2 k 1)), (2, .inl (nI k)), (0, .inr (.inr (some 92))), (1, .inl (nI i))], [.inl (3 : Int32), .inl ((X 3).2 k 1)], Hsa)) (C := []) rfl trivial ?_
          refine mw_if (P := ((X 3).2 k 1) = (3 : Int32)) (a := 96) (b := 106) (fun _ => rfl) trivial (fun h10 => ?_) (fun h10 => ?_)
          · -- 96: ((X 3).2 k 1) = (3 : Int32)
            exact absurd (show (1 : Int32) = 3 from h5.symm.trans h10) (by decide)
          · -- 106: not ((X 3).2 k 1) = (3 : Int32)
            refine mw_go mu_g180 (k := 2) (f1 := (13, [(2, .inl ((nI k) + 1)), (3, .inl ((X 3).2 k 1)), (0, .inr (.inr (some 92))), (1, .inl (nI i))], [], Hsa)) (C := []) rfl trivial ?_
            rw [nI_1]
            exact mw_sub (by simp) (iha (k + 1, Hsa) ⟨hpa, hta, (show sp X i 2 ≤ (k + 1) from by omega), (show (k + 1) ≤ sp X (i + 1) 2 from by omega), (show SI m X Hsa from hIs), (show c4 X i (k + 1) (ak m H) (ak m Hsa) from (hcs.plain (fun _ _ _ => rfl) (fun _ => rfl) (eqc.refl _) (by rw [hIs.2.2.2 3 (by decide) k 1 (by omega) (by omega) (by omega)]; exact h10))), (show (ak m Hsa 19).1 + ls2 (X 3) (sp X i 2) ≤ (ak m H 19).1 + ls2 (X 3) (k + 1) from (by have z := ls2_le (t := X 3) (show k ≤ k + 1 by omega); omega))⟩ (by show sp X (i + 1) 2 - (k + 1) < sp X (i + 1) 2 - k; omega))
    · -- 78: not ((X 3).2 k 1) = (1 : Int32)
      refine mw_go mu_g180 (k := 2) (f1 := (80, [(3, .inl ((X 3).2 k 1)), (2, .inl (nI k)), (0, .inr (.inr (some 92))), (1, .inl (nI i))], [.inl (2 : Int32), .inl ((X 3).2 k 1)], Hsa)) (C := []) rfl trivial ?_
      refine mw_if (P := ((X 3).2 k 1) = (2 : Int32)) (a := 83) (b := 91) (fun _ => rfl) trivial (fun h11 => ?_) (fun h11 => ?_)
      · -- 83: ((X 3).2 k 1) = (2 : Int32)
        refine mw_go mu_g180 (k := 2) (f1 := (85, [(3, .inl ((X 3).2 k 1)), (2, .inl (nI k)), (0, .inr (.inr (some 92))), (1, .inl (nI i))], [.inl (nI k), .inr (.inr (some 92))], Hsa)) (C := []) rfl trivial ?_
        obtain ⟨la, lb, ea, eb, eab⟩ : ∃ la lb, (X 3).2 k 2 = nI la ∧ (X 3).2 k 3 = nI lb ∧ la + lb ≤ (X 4).1 := CT.list hc hi hk1 hkb (by assumption)
        have els : ls2 (X 3) (k + 1) = ls2 (X 3) k + lb := by show ls2 (X 3) k + (if (X 3).2 k 1 = 2 then ((X 3).2 k 3).toNatClampNeg else 0) = _; rw [if_pos (by assumption), eb, nI_clamp (by omega)]
        have elt : ls2 (X 3) (k + 1) ≤ ls2 (X 3) (sp X (i + 1) 2) := ls2_le (by omega)
        refine mw_cI (fun _ => rfl) (show mu_is Hsa (some 92) 12 from hpa.1.is rfl) (so_values2 (C := C) (d := d) hpa hIs hc (w := k) (by omega) ea eb eab (by omega) hC8) (fun x12 H12 q12 => ?_)
        obtain ⟨qx12, hp12, qt12, hI12, hs12, hz12⟩ := q12
        rcases qx12 with rfl | rfl
        · -- (0 : Int32)
          have ht12 := hta.trans qt12
          have h412 : ∀ v, (ak m H12 3).2 v 4 = (ak m Hsa 3).2 v 4 := fun v => by rw [hs12 3 (by decide)]
          refine mw_if (P := (0 : Int32) = 0) (a := 104) (b := 91) (fun _ => rfl) trivial (fun h13 => ?_) (fun h13 => absurd (by decide) h13)
          refine mw_go mu_g180 (k := 1) (f1 := (105, [(3, .inl ((X 3).2 k 1)), (2, .inl (nI k)), (0, .inr (.inr (some 92))), (1, .inl (nI i))], [.inl (0 : Int32)], H12)) (C := []) rfl trivial ?_
          exact mw_of (fun _ => mu_ret rfl (Or.inl rfl) ⟨_, H12, rfl, Or.inl rfl, hp12, ht12, hI12, (by omega), fun z => absurd z (by decide)⟩)
        · -- (1 : Int32)
          have ht12 := hta.trans qt12
          have h412 : ∀ v, (ak m H12 3).2 v 4 = (ak m Hsa 3).2 v 4 := fun v => by rw [hs12 3 (by decide)]
          refine mw_if (P := (1 : Int32) = 0) (a := 104) (b := 91) (fun _ => rfl) trivial (fun h14 => absurd h14 (by decide)) (fun h14 => ?_)
          refine mw_go mu_g180 (k := 2) (f1 := (93, [(3, .inl ((X 3).2 k 1)), (2, .inl (nI k)), (0, .inr (.inr (some 92))), (1, .inl (nI i))], [.inl (3 : Int32), .inl ((X 3).2 k 1)], H12)) (C := []) rfl trivial ?_
          refine mw_if (P := ((X 3).2 k 1) = (3 : Int32)) (a := 96) (b := 106) (fun _ => rfl) trivial (fun h15 => ?_) (fun h15 => ?_)
          · -- 96: ((X 3).2 k 1) = (3 : Int32)
            exact absurd (show (2 : Int32) = 3 from h11.symm.trans h15) (by decide)
          · -- 106: not ((X 3).2 k 1) = (3 : Int32)
            refine mw_go mu_g180 (k := 2) (f1 := (13, [(2, .inl ((nI k) + 1)), (3, .inl ((X 3).2 k 1)), (0, .inr (.inr (some 92))), (1, .inl (nI i))], [], H12)) (C := []) rfl trivial ?_
            rw [nI_1]
            exact mw_sub (by simp) (iha (k + 1, H12) ⟨hp12, ht12, (show sp X i 2 ≤ (k + 1) from by omega), (show (k + 1) ≤ sp X (i + 1) 2 from by omega), (show SI m X H12 from hI12), (show c4 X i (k + 1) (ak m H) (ak m H12) from (hcs.plain (fun j a b => hs12 j a) h412 (hIs.eqq hI12) (by rw [hI12.2.2.2 3 (by decide) k 1 (by omega) (by omega) (by omega)]; exact h15))), (show (ak m H12 19).1 + ls2 (X 3) (sp X i 2) ≤ (ak m H 19).1 + ls2 (X 3) (k + 1) from by omega)⟩ (by show sp X (i + 1) 2 - (k + 1) < sp X (i + 1) 2 - k; omega))
      · -- 91: not ((X 3).2 k 1) = (2 : Int32)
        refine mw_go mu_g180 (k := 2) (f1 := (93, [(3, .inl ((X 3).2 k 1)), (2, .inl (nI k)), (0, .inr (.inr (some 92))), (1, .inl (nI i))], [.inl (3 : Int32), .inl ((X 3).2 k 1)], Hsa)) (C := []) rfl trivial ?_
        refine mw_if (P := ((X 3).2 k 1) = (3 : Int32)) (a := 96) (b := 106) (fun _ => rfl) trivial (fun h16 => ?_) (fun h16 => ?_)
        · -- 96: ((X 3).2 k 1) = (3 : Int32)
          refine mw_go mu_g180 (k := 2) (f1 := (98, [(3, .inl ((X 3).2 k 1)), (2, .inl (nI k)), (0, .inr (.inr (some 92))), (1, .inl (nI i))], [.inl (nI k), .inr (.inr (some 92))], Hsa)) (C := []) rfl trivial ?_
          refine mw_cI (fun _ => rfl) (show mu_is Hsa (some 92) 12 from hpa.1.is rfl) (so_instance2 (C := C) (d := (d + 2)) hpa hIs hc (w := k) (by omega)) (fun x17 H17 q17 => ?_)
          obtain ⟨qx17, hp17, qt17, hI17, hs17, h417, hv17⟩ := q17
          rcases qx17 with rfl | rfl
          · -- (0 : Int32)
            have ht17 := hta.trans qt17
            refine mw_if (P := (0 : Int32) = 0) (a := 104) (b := 106) (fun _ => rfl) trivial (fun h18 => ?_) (fun h18 => absurd (by decide) h18)
            refine mw_go mu_g180 (k := 1) (f1 := (105, [(3, .inl ((X 3).2 k 1)), (2, .inl (nI k)), (0, .inr (.inr (some 92))), (1, .inl (nI i))], [.inl (0 : Int32)], H17)) (C := []) rfl trivial ?_
            exact mw_of (fun _ => mu_ret rfl (Or.inl rfl) ⟨_, H17, rfl, Or.inl rfl, hp17, ht17, hI17, (by have z := ls2_le (t := X 3) (show k ≤ sp X (i + 1) 2 by omega); have z2 : (ak m H17 19).1 = (ak m Hsa 19).1 := (by rw [hs17 19 (by decide)]); omega), fun z => absurd z (by decide)⟩)
          · -- (1 : Int32)
            have ht17 := hta.trans qt17
            refine mw_if (P := (1 : Int32) = 0) (a := 104) (b := 106) (fun _ => rfl) trivial (fun h19 => absurd h19 (by decide)) (fun h19 => ?_)
            refine mw_go mu_g180 (k := 2) (f1 := (13, [(2, .inl ((nI k) + 1)), (3, .inl ((X 3).2 k 1)), (0, .inr (.inr (some 92))), (1, .inl (nI i))], [], H17)) (C := []) rfl trivial ?_
            rw [nI_1]
            exact mw_sub (by simp) (iha (k + 1, H17) ⟨hp17, ht17, (show sp X i 2 ≤ (k + 1) from by omega), (show (k + 1) ≤ sp X (i + 1) 2 from by omega), (show SI m X H17 from hI17), (show c4 X i (k + 1) (ak m H) (ak m H17) from (hcs.inst hk1 hs17 h417 (hIs.eqq hI17) (hv17 rfl))), (show (ak m H17 19).1 + ls2 (X 3) (sp X i 2) ≤ (ak m H 19).1 + ls2 (X 3) (k + 1) from (by have z := ls2_le (t := X 3) (show k ≤ k + 1 by omega); have z2 : (ak m H17 19).1 = (ak m Hsa 19).1 := (by rw [hs17 19 (by decide)]); omega))⟩ (by show sp X (i + 1) 2 - (k + 1) < sp X (i + 1) 2 - k; omega))
        · -- 106: not ((X 3).2 k 1) = (3 : Int32)
          refine mw_go mu_g180 (k := 2) (f1 := (13, [(2, .inl ((nI k) + 1)), (3, .inl ((X 3).2 k 1)), (0, .inr (.inr (some 92))), (1, .inl (nI i))], [], Hsa)) (C := []) rfl trivial ?_
          rw [nI_1]
          exact mw_sub (by simp) (iha (k + 1, Hsa) ⟨hpa, hta, (show sp X i 2 ≤ (k + 1) from by omega), (show (k + 1) ≤ sp X (i + 1) 2 from by omega), (show SI m X Hsa from hIs), (show c4 X i (k + 1) (ak m H) (ak m Hsa) from (hcs.plain (fun _ _ _ => rfl) (fun _ => rfl) (eqc.refl _) (by rw [hIs.2.2.2 3 (by decide) k 1 (by omega) (by omega) (by omega)]; exact h16))), (show (ak m Hsa 19).1 + ls2 (X 3) (sp X i 2) ≤ (ak m H 19).1 + ls2 (X 3) (k + 1) from (by have z := ls2_le (t := X 3) (show k ≤ k + 1 by omega); omega))⟩ (by show sp X (i + 1) 2 - (k + 1) < sp X (i + 1) 2 - k; omega))
  · -- 112: not (nI k) < (nI (sp X (i + 1) 2))
    have hkb : ¬ k < sp X (i + 1) 2 := fun z => h3 (nI_lt z (by omega))
    have hke : k = sp X (i + 1) 2 := by omega
    refine mw_go mu_g180 (k := 1) (f1 := (113, [(2, .inl (nI k)), (0, .inr (.inr (some 92))), (1, .inl (nI i))], [.inl (1 : Int32)], Hsa)) (C := []) rfl trivial ?_
    exact mw_of (fun _ => mu_ret rfl (Or.inr rfl) ⟨_, Hsa, rfl, Or.inr rfl, hpa, hta, hIs, by rw [← hke]; omega, fun _ => by rw [← hke]; exact hcs⟩)
theorem so_lines2 (h : dm m H) (hI : SI m X H) (hc : CT X) (hi : i < (X 1).1) : mu_TI (mu_D (d + 3)) 181 [.inr (.inr (some 92)), .inl (nI i)] H (fun x H1 => (x = 0 ∨ x = 1) ∧ dm m H1 ∧ rl m C H H1 ∧ SI m X H1 ∧ (ak m H1 19).1 = (ak m H 19).1 ∧ (x = 1 → c7 X i (sp X (i + 1) 4) (ak m H) (ak m H1))) := by
  have hM : (X 1).1 ≤ 67108864 := by rw [← hI.n (j := 1) (by decide)]; exact h.lt rfl (by decide)
  obtain ⟨le1, lf1, lg1⟩ := hI.le h hc hi (c := 1) (j := 2) (by decide) (by decide) rfl
  obtain ⟨le2, lf2, lg2⟩ := hI.le h hc hi (c := 2) (j := 3) (by decide) (by decide) rfl
  obtain ⟨le3, lf3, lg3⟩ := hI.le h hc hi (c := 3) (j := 6) (by decide) (by decide) rfl
  obtain ⟨le4, lf4, lg4⟩ := hI.le h hc hi (c := 4) (j := 7) (by decide) (by decide) rfl
  have hX3 : (X 3).1 ≤ 67108864 := by rw [← hI.n (j := 3) (by decide)]; exact h.lt rfl (by decide)
  have hX4 : (X 4).1 ≤ 67108864 := by rw [← hI.n (j := 4) (by decide)]; exact h.lt rfl (by decide)
  refine mu_meth (M := mu_m181) rfl rfl ?_
  refine mw_ht (mu_fn_of (show [0, 1].Nodup by decide)) ?_
  refine mw_go mu_g181 (k := 2) (f1 := (4, [(0, .inr (.inr (some 92))), (1, .inl (nI i))], [.inr (.inr (mu_r H 92 2))], H)) (C := [mu_is H (some 92) 12]) rfl (show mu_is H (some 92) 12 from h.1.is rfl) ?_
  rw [h.2.2.1]
  refine mw_go mu_g181 (k := 1) (f1 := (7, [(0, .inr (.inr (some 92))), (1, .inl (nI i))], [.inr (.inr (mu_r H m 1))], H)) (C := [mu_is H (some m) 6]) rfl (show mu_is H (some m) 6 from (show mu_is H (some m) 6 from gi_im h.1 h.2.1)) ?_
  rw [(show mu_r H m 1 = some (m + 3) from (gi_mr h.1 h.2.1 (j := 1) (by decide)).trans (congrArg some (by omega)))]
  refine mw_go mu_g181 (k := 2) (f1 := (9, [(0, .inr (.inr (some 92))), (1, .inl (nI i))], [.inl (4 : Int32), .inl (nI i), .inr (.inr (some (m + 3)))], H)) (C := []) rfl trivial ?_
  refine mw_cIe (fun _ => rfl) (show mu_is H (some (m + 3)) 10 from (h.1.w (md_w1 h.2.1)).1) (dm.getr (d := (d + 1)) h rfl (j := 1) (by decide) rfl (nI i) (c := 4) (by decide)) ?_
  rw [show (tget ((ak m H) 1) (nI i) 4) = (nI (sp X i 4)) from hI.start h hc hi (by decide) (by decide)]
  refine mw_go mu_g181 (k := 1) (f1 := (13, [(2, .inl (nI (sp X i 4))), (0, .inr (.inr (some 92))), (1, .inl (nI i))], [], H)) (C := []) rfl trivial ?_
  refine mw_sub (L' := [(2, .inl (nI (sp X i 4))), (0, .inr (.inr (some 92))), (1, .inl (nI i))]) (by simp) ?_
  refine mw_down (α := Nat × mu_H) (fun zs => (13, [(2, .inl (nI zs.1)), (0, .inr (.inr (some 92))), (1, .inl (nI i))], [], zs.2)) (fun zs => sp X (i + 1) 4 - zs.1) (fun zs => dm m zs.2 ∧ rl m C H zs.2 ∧ (sp X i 4 ≤ zs.1) ∧ (zs.1 ≤ sp X (i + 1) 4) ∧ (SI m X zs.2) ∧ (c7 X i zs.1 (ak m H) (ak m zs.2))) (fun zs hza iha => ?_) (sp X i 4, H) ⟨h, (rl.refl m C H), (show sp X i 4 ≤ (sp X i 4) from by omega), (show (sp X i 4) ≤ sp X (i + 1) 4 from by omega), (show SI m X H from hI), (show c7 X i (sp X i 4) (ak m H) (ak m H) from ⟨fun _ _ _ => rfl, fun _ => rfl, fun _ _ => rfl, fun v a b => absurd b (by omega)⟩)⟩
  obtain ⟨k, Hsa⟩ := zs
  obtain ⟨hpa, hta, hk1, hk2, hIs, hcs⟩ := hza
  have hpa : dm m Hsa := hpa
  have hta : rl m C H Hsa := hta
  have hk1 : sp X i 4 ≤ k := hk1
  have hk2 : k ≤ sp X (i + 1) 4 := hk2
  have hIs : SI m X Hsa := hIs
  have hcs : c7 X i k (ak m H) (ak m Hsa) := hcs
  show mu_W _ _ (13, [(2, .inl (nI k)), (0, .inr (.inr (some 92))), (1, .inl (nI i))], [], Hsa) _
  refine mw_go mu_g181 (k := 3) (f1 := (18, [(2, .inl (nI k)), (0, .inr (.inr (some 92))), (1, .inl (nI i))], [.inr (.inr (mu_r Hsa 92 2)), .inl (nI k)], Hsa)) (C := [mu_is Hsa (some 92) 12]) rfl (show mu_is Hsa (some 92) 12 from hpa.1.is rfl) ?_
  rw [hpa.2.2.1]
  refine mw_go mu_g181 (k := 4) (f1 := (24, [(2, .inl (nI k)), (0, .inr (.inr (some 92))), (1, .inl (nI i))], [.inr (.inr (mu_r Hsa 92 2)), .inl (4 : Int32), .inl (nI i), .inr (.inr (some m)), .inl (nI k)], Hsa)) (C := [mu_is Hsa (some 92) 12]) rfl (show mu_is Hsa (some 92) 12 from hpa.1.is rfl) ?_
  rw [hpa.2.2.1]
  refine mw_go mu_g181 (k := 1) (f1 := (27, [(2, .inl (nI k)), (0, .inr (.inr (some 92))), (1, .inl (nI i))], [.inr (.inr (mu_r Hsa m 7)), .inl (4 : Int32), .inl (nI i), .inr (.inr (some m)), .inl (nI k)], Hsa)) (C := [mu_is Hsa (some m) 6]) rfl (show mu_is Hsa (some m) 6 from (show mu_is Hsa (some m) 6 from gi_im hpa.1 hpa.2.1)) ?_
  rw [(show mu_r Hsa m 7 = some (m + 15) from (gi_mr hpa.1 hpa.2.1 (j := 7) (by decide)).trans (congrArg some (by omega)))]
  refine mw_cIe (fun _ => rfl) (show mu_is Hsa (some m) 6 from (show mu_is Hsa (some m) 6 from gi_im hpa.1 hpa.2.1)) (dm.stopr (d := d) hpa rfl (j := 7) (by decide) rfl (c := 4) (by decide) (nI i)) ?_
  rw [show (stp (ak m Hsa) (nI i) 4 7) = (nI (sp X (i + 1) 4)) from hIs.stop hpa hc hi (by decide) (by decide) rfl]
  refine mw_if (P := (nI k) < (nI (sp X (i + 1) 4))) (a := 33) (b := 159) (fun _ => rfl) trivial (fun h3 => ?_) (fun h3 => ?_)
  · -- 33: (nI k) < (nI (sp X (i + 1) 4))
    have hkb : k < sp X (i + 1) 4 := (nI_ltI (by omega) (by omega)).mp h3
    refine mw_go mu_g181 (k := 4) (f1 := (39, [(2, .inl (nI k)), (0, .inr (.inr (some 92))), (1, .inl (nI i))], [.inr (.inr (mu_r Hsa 92 2)), .inl (nI i), .inr (.inr (some 92))], Hsa)) (C := [mu_is Hsa (some 92) 12]) rfl (show mu_is Hsa (some 92) 12 from hpa.1.is rfl) ?_
    rw [hpa.2.2.1]
    refine mw_go mu_g181 (k := 1) (f1 := (42, [(2, .inl (nI k)), (0, .inr (.inr (some 92))), (1, .inl (nI i))], [.inr (.inr (mu_r Hsa m 7)), .inl (nI i), .inr (.inr (some 92))], Hsa)) (C := [mu_is Hsa (some m) 6]) rfl (show mu_is Hsa (some m) 6 from (show mu_is Hsa (some m) 6 from gi_im hpa.1 hpa.2.1)) ?_
    rw [(show mu_r Hsa m 7 = some (m + 15) from (gi_mr hpa.1 hpa.2.1 (j := 7) (by decide)).trans (congrArg some (by omega)))]
    refine mw_go mu_g181 (k := 2) (f1 := (44, [(2, .inl (nI k)), (0, .inr (.inr (some 92))), (1, .inl (nI i))], [.inl (1 : Int32), .inl (nI k), .inr (.inr (some (m + 15))), .inl (nI i), .inr (.inr (some 92))], Hsa)) (C := []) rfl trivial ?_
    refine mw_cIe (fun _ => rfl) (show mu_is Hsa (some (m + 15)) 10 from (hpa.1.w (md_w7 hpa.2.1)).1) (dm.getr (d := (d + 1)) hpa rfl (j := 7) (by decide) rfl (nI k) (c := 1) (by decide)) ?_
    refine mw_cI (fun _ => rfl) (show mu_is Hsa (some 92) 12 from hpa.1.is rfl) (so_find2 (d := d) hpa rfl hIs.1 (nI i) (tget ((ak m Hsa) 7) (nI k) 1)) (fun x5 H5 q5 => ?_)
    rcases q5 with ⟨rfl, rfl⟩ | ⟨r, hr, rfl, e0, e1, rfl⟩
    · -- (-1 : Int32)
      refine mw_go mu_g181 (k := 3) (f1 := (53, [(3, .inl (-1 : Int32)), (2, .inl (nI k)), (0, .inr (.inr (some 92))), (1, .inl (nI i))], [.inl (-1 : Int32), .inr (.inr (some 92))], Hsa)) (C := []) rfl trivial ?_
      refine mw_cIe (fun _ => rfl) (show mu_is Hsa (some 92) 12 from hpa.1.is rfl) (so_kindOf2 (d := d) hpa rfl (-1 : Int32)) ?_
      rw [show kdo ((ak m Hsa) 19) (-1 : Int32) = (0 : Int32) from rfl]
      refine mw_go mu_g181 (k := 1) (f1 := (57, [(3, .inl (-1 : Int32)), (2, .inl (nI k)), (0, .inr (.inr (some 92))), (1, .inl (nI i))], [.inl (3 : Int32), .inl (0 : Int32)], Hsa)) (C := []) rfl trivial ?_
      refine mw_if (P := (0 : Int32) = (3 : Int32)) (a := 62) (b := 60) (fun _ => rfl) trivial (fun h7 => absurd h7 (by decide)) (fun h7 => ?_)
      refine mw_go mu_g181 (k := 1) (f1 := (61, [(3, .inl (-1 : Int32)), (2, .inl (nI k)), (0, .inr (.inr (some 92))), (1, .inl (nI i))], [.inl (0 : Int32)], Hsa)) (C := []) rfl trivial ?_
      exact mw_of (fun _ => mu_ret rfl (Or.inl rfl) ⟨_, Hsa, rfl, Or.inl rfl, hpa, hta, hIs, by rw [hcs.1 19 (by decide) (by decide)], fun z => absurd z (by decide)⟩)
    · -- (nI r)
      have hr6 : r < 67108864 := Nat.lt_of_lt_of_le hr (hpa.lt rfl (by decide))
      refine mw_go mu_g181 (k := 3) (f1 := (53, [(3, .inl (nI r)), (2, .inl (nI k)), (0, .inr (.inr (some 92))), (1, .inl (nI i))], [.inl (nI r), .inr (.inr (some 92))], Hsa)) (C := []) rfl trivial ?_
      refine mw_cIe (fun _ => rfl) (show mu_is Hsa (some 92) 12 from hpa.1.is rfl) (so_kindOf2 (d := d) hpa rfl (nI r)) ?_
      rw [show kdo ((ak m Hsa) 19) (nI r) = ((ak m Hsa) 19).2 r 2 from (if_neg (nI_pos (by omega))).trans (tget_nI (by omega))]
      refine mw_go mu_g181 (k := 1) (f1 := (57, [(3, .inl (nI r)), (2, .inl (nI k)), (0, .inr (.inr (some 92))), (1, .inl (nI i))], [.inl (3 : Int32), .inl (((ak m Hsa) 19).2 r 2)], Hsa)) (C := []) rfl trivial ?_
      refine mw_if (P := (((ak m Hsa) 19).2 r 2) = (3 : Int32)) (a := 62) (b := 60) (fun _ => rfl) trivial (fun h9 => ?_) (fun h9 => ?_)
      · -- 62: (((ak m Hsa) 19).2 r 2) = (3 : Int32)
        refine mw_go mu_g181 (k := 2) (f1 := (64, [(3, .inl (nI r)), (2, .inl (nI k)), (0, .inr (.inr (some 92))), (1, .inl (nI i))], [.inl (nI r), .inr (.inr (some 92))], Hsa)) (C := []) rfl trivial ?_
        refine mw_cIe (fun _ => rfl) (show mu_is Hsa (some 92) 12 from hpa.1.is rfl) (so_rowOf2 (d := d) hpa rfl (nI r)) ?_
        obtain ⟨vv, ev, hv1, hv2, hv3⟩ := ((hIs.2.1 r hr).2 i (by rw [hIs.n (by decide)]; exact hi) e0).2.2.1 h9
        rw [hIs.2.2.spc (by decide)] at hv1 hv2
        rw [hIs.2.2.2 3 (by decide) vv 1 (by omega) (by omega) (by omega)] at hv3
        rw [show rwo ((ak m Hsa) 19) (nI r) = nI vv from (if_neg (nI_pos (by omega))).trans ((tget_nI (by omega)).trans ev)]
        refine mw_go mu_g181 (k := 3) (f1 := (73, [(4, .inl (nI vv)), (3, .inl (nI r)), (2, .inl (nI k)), (0, .inr (.inr (some 92))), (1, .inl (nI i))], [.inr (.inr (mu_r Hsa 92 2))], Hsa)) (C := [mu_is Hsa (some 92) 12]) rfl (show mu_is Hsa (some 92) 12 from hpa.1.is rfl) ?_
        rw [hpa.2.2.1]
        refine mw_go mu_g181 (k := 1) (f1 := (76, [(4, .inl (nI vv)), (3, .inl (nI r)), (2, .inl (nI k)), (0, .inr (.inr (some 92))), (1, .inl (nI i))], [.inr (.inr (mu_r Hsa m 7))], Hsa)) (C := [mu_is Hsa (some m) 6]) rfl (show mu_is Hsa (some m) 6 from (show mu_is Hsa (some m) 6 from gi_im hpa.1 hpa.2.1)) ?_
        rw [(show mu_r Hsa m 7 = some (m + 15) from (gi_mr hpa.1 hpa.2.1 (j := 7) (by decide)).trans (congrArg some (by omega)))]
        refine mw_go mu_g181 (k := 2) (f1 := (78, [(4, .inl (nI vv)), (3, .inl (nI r)), (2, .inl (nI k)), (0, .inr (.inr (some 92))), (1, .inl (nI i))], [.inl (0 : Int32), .inl (nI k), .inr (.inr (some (m + 15)))], Hsa)) (C := []) rfl trivial ?_
        refine mw_cIe (fun _ => rfl) (show mu_is Hsa (some (m + 15)) 10 from (hpa.1.w (md_w7 hpa.2.1)).1) (dm.getr (d := (d + 1)) hpa rfl (j := 7) (by decide) rfl (nI k) (c := 0) (by decide)) ?_
        refine mw_go mu_g181 (k := 3) (f1 := (87, [(5, .inl (tget ((ak m Hsa) 7) (nI k) 0)), (4, .inl (nI vv)), (3, .inl (nI r)), (2, .inl (nI k)), (0, .inr (.inr (some 92))), (1, .inl (nI i))], [.inr (.inr (mu_r Hsa 92 2))], Hsa)) (C := [mu_is Hsa (some 92) 12]) rfl (show mu_is Hsa (some 92) 12 from hpa.1.is rfl) ?_
        rw [hpa.2.2.1]
        refine mw_go mu_g181 (k := 1) (f1 := (90, [(5, .inl (tget ((ak m Hsa) 7) (nI k) 0)), (4, .inl (nI vv)), (3, .inl (nI r)), (2, .inl (nI k)), (0, .inr (.inr (some 92))), (1, .inl (nI i))], [.inr (.inr (mu_r Hsa m 3))], Hsa)) (C := [mu_is Hsa (some m) 6]) rfl (show mu_is Hsa (some m) 6 from (show mu_is Hsa (some m) 6 from gi_im hpa.1 hpa.2.1)) ?_
        rw [(show mu_r Hsa m 3 = some (m + 7) from (gi_mr hpa.1 hpa.2.1 (j := 3) (by decide)).trans (congrArg some (by omega)))]
        refine mw_go mu_g181 (k := 2) (f1 := (93, [(5, .inl (tget ((ak m Hsa) 7) (nI k) 0)), (4, .inl (nI vv)), (3, .inl (nI r)), (2, .inl (nI k)), (0, .inr (.inr (some 92))), (1, .inl (nI i))], [.inl (5 : Int32), .inl (nI vv), .inr (.inr (some (m + 7)))], Hsa)) (C := []) rfl trivial ?_
        refine mw_cIe (fun _ => rfl) (show mu_is Hsa (some (m + 7)) 10 from (hpa.1.w (md_w3 hpa.2.1)).1) (dm.getr (d := (d + 1)) hpa rfl (j := 3) (by decide) rfl (nI vv) (c := 5) (by decide)) ?_
        refine mw_go mu_g181 (k := 3) (f1 := (101, [(6, .inl (tget ((ak m Hsa) 3) (nI vv) 5)), (5, .inl (tget ((ak m Hsa) 7) (nI k) 0)), (4, .inl (nI vv)), (3, .inl (nI r)), (2, .inl (nI k)), (0, .inr (.inr (some 92))), (1, .inl (nI i))], [.inl (1 : Int32), .inl (tget ((ak m Hsa) 7) (nI k) 0)], Hsa)) (C := []) rfl trivial ?_
        refine mw_if (P := (tget ((ak m Hsa) 7) (nI k) 0) = (1 : Int32)) (a := 104) (b := 109) (fun _ => rfl) trivial (fun h13 => ?_) (fun h13 => ?_)
        · -- 104: (tget ((ak m Hsa) 7) (nI k) 0) = (1 : Int32)
          refine mw_go mu_g181 (k := 1) (f1 := (106, [(6, .inl (tget ((ak m Hsa) 3) (nI vv) 5)), (5, .inl (tget ((ak m Hsa) 7) (nI k) 0)), (4, .inl (nI vv)), (3, .inl (nI r)), (2, .inl (nI k)), (0, .inr (.inr (some 92))), (1, .inl (nI i))], [.inl (tget ((ak m Hsa) 3) (nI vv) 5)], Hsa)) (C := []) rfl trivial ?_
          refine mw_if (P := (tget ((ak m Hsa) 3) (nI vv) 5) = 0) (a := 109) (b := 119) (fun _ => rfl) trivial (fun h14 => ?_) (fun h14 => ?_)
          · -- 109: (tget ((ak m Hsa) 3) (nI vv) 5) = 0
            refine mw_go mu_g181 (k := 5) (f1 := (116, [(6, .inl (tget ((ak m Hsa) 3) (nI vv) 5)), (5, .inl (tget ((ak m Hsa) 7) (nI k) 0)), (4, .inl (nI vv)), (3, .inl (nI r)), (2, .inl (nI k)), (0, .inr (.inr (some 92))), (1, .inl (nI i))], [.inl ((tget ((ak m Hsa) 3) (nI vv) 5) &&& ((tget ((ak m Hsa) 7) (nI k) 0) ||| (1 : Int32)))], Hsa)) (C := []) rfl trivial ?_
            refine mw_if (P := ((tget ((ak m Hsa) 3) (nI vv) 5) &&& ((tget ((ak m Hsa) 7) (nI k) 0) ||| (1 : Int32))) = 0) (a := 121) (b := 119) (fun _ => rfl) trivial (fun h15 => ?_) (fun h15 => ?_)
            · -- 121: ((tget ((ak m Hsa) 3) (nI vv) 5) &&& ((tget ((ak m Hsa) 7) (nI k) 0) ||| (1 : Int32))) = 0
              refine mw_go mu_g181 (k := 2) (f1 := (125, [(6, .inl (tget ((ak m Hsa) 3) (nI vv) 5)), (5, .inl (tget ((ak m Hsa) 7) (nI k) 0)), (4, .inl (nI vv)), (3, .inl (nI r)), (2, .inl (nI k)), (0, .inr (.inr (some 92))), (1, .inl (nI i))], [.inr (.inr (mu_r Hsa 92 2))], Hsa)) (C := [mu_is Hsa (some 92) 12]) rfl (show mu_is Hsa (some 92) 12 from hpa.1.is rfl) ?_
              rw [hpa.2.2.1]
              refine mw_go mu_g181 (k := 1) (f1 := (128, [(6, .inl (tget ((ak m Hsa) 3) (nI vv) 5)), (5, .inl (tget ((ak m Hsa) 7) (nI k) 0)), (4, .inl (nI vv)), (3, .inl (nI r)), (2, .inl (nI k)), (0, .inr (.inr (some 92))), (1, .inl (nI i))], [.inr (.inr (mu_r Hsa m 3))], Hsa)) (C := [mu_is Hsa (some m) 6]) rfl (show mu_is Hsa (some m) 6 from (show mu_is Hsa (some m) 6 from gi_im hpa.1 hpa.2.1)) ?_
              rw [(show mu_r Hsa m 3 = some (m + 7) from (gi_mr hpa.1 hpa.2.1 (j := 3) (by decide)).trans (congrArg some (by omega)))]
              refine mw_go mu_g181 (k := 5) (f1 := (136, [(6, .inl (tget ((ak m Hsa) 3) (nI vv) 5)), (5, .inl (tget ((ak m Hsa) 7) (nI k) 0)), (4, .inl (nI vv)), (3, .inl (nI r)), (2, .inl (nI k)), (0, .inr (.inr (some 92))), (1, .inl (nI i))], [.inl ((tget ((ak m Hsa) 3) (nI vv) 5) ||| (tget ((ak m Hsa) 7) (nI k) 0)), .inl (5 : Int32), .inl (nI vv), .inr (.inr (some (m + 7)))], Hsa)) (C := []) rfl trivial ?_
              refine mw_cV (fun _ => rfl) (show mu_is Hsa (some (m + 7)) 10 from (hpa.1.w (md_w3 hpa.2.1)).1) (dm.setr (C := C) (d := (d + 1)) hpa rfl (j := 3) (by decide) rfl (nI vv) ((tget ((ak m Hsa) 3) (nI vv) 5) ||| (tget ((ak m Hsa) 7) (nI k) 0)) (c := 5) (by decide)) (fun H16 q16 => ?_)
              obtain ⟨hp16, qt16, ha16, qh16⟩ := q16
              have ht16 := hta.trans qt16
              have ha16 : ak m H16 = (ax 3 (ak m Hsa) (nI vv) 5 ((tget ((ak m Hsa) 3) (nI vv) 5) ||| (tget ((ak m Hsa) 7) (nI k) 0))) := ha16
              have hI16 : SI m X H16 := hIs.set qh16 (by rw [ha16]; exact ax_ne (by decide)) (by rw [ha16]; exact eqc_ax3 (by decide))
              refine mw_go mu_g181 (k := 2) (f1 := (143, [(6, .inl (tget ((ak m Hsa) 3) (nI vv) 5)), (5, .inl (tget ((ak m Hsa) 7) (nI k) 0)), (4, .inl (nI vv)), (3, .inl (nI r)), (2, .inl (nI k)), (0, .inr (.inr (some 92))), (1, .inl (nI i))], [.inr (.inr (mu_r H16 92 2))], H16)) (C := [mu_is H16 (some 92) 12]) rfl (show mu_is H16 (some 92) 12 from hp16.1.is rfl) ?_
              rw [hp16.2.2.1]
              refine mw_go mu_g181 (k := 1) (f1 := (146, [(6, .inl (tget ((ak m Hsa) 3) (nI vv) 5)), (5, .inl (tget ((ak m Hsa) 7) (nI k) 0)), (4, .inl (nI vv)), (3, .inl (nI r)), (2, .inl (nI k)), (0, .inr (.inr (some 92))), (1, .inl (nI i))], [.inr (.inr (mu_r H16 m 7))], H16)) (C := [mu_is H16 (some m) 6]) rfl (show mu_is H16 (some m) 6 from (show mu_is H16 (some m) 6 from gi_im hp16.1 hp16.2.1)) ?_
              rw [(show mu_r H16 m 7 = some (m + 15) from (gi_mr hp16.1 hp16.2.1 (j := 7) (by decide)).trans (congrArg some (by omega)))]
              refine mw_go mu_g181 (k := 3) (f1 := (150, [(6, .inl (tget ((ak m Hsa) 3) (nI vv) 5)), (5, .inl (tget ((ak m Hsa) 7) (nI k) 0)), (4, .inl (nI vv)), (3, .inl (nI r)), (2, .inl (nI k)), (0, .inr (.inr (some 92))), (1, .inl (nI i))], [.inl (nI vv), .inl (1 : Int32), .inl (nI k), .inr (.inr (some (m + 15)))], H16)) (C := []) rfl trivial ?_
              refine mw_cV (fun _ => rfl) (show mu_is H16 (some (m + 15)) 10 from (hp16.1.w (md_w7 hp16.2.1)).1) (dm.setr (C := C) (d := (d + 1)) hp16 rfl (j := 7) (by decide) rfl (nI k) (nI vv) (c := 1) (by decide)) (fun H17 q17 => ?_)
              obtain ⟨hp17, qt17, ha17, qh17⟩ := q17
              have ht17 := ht16.trans qt17
              have ha17 : ak m H17 = (ax 7 (ak m H16) (nI k) 1 (nI vv)) := ha17
              have hI17 : SI m X H17 := hI16.set qh17 (by rw [ha17]; exact ax_ne (by decide)) (by rw [ha17]; exact eqc_ax7)
              refine mw_go mu_g181 (k := 2) (f1 := (13, [(2, .inl ((nI k) + 1)), (6, .inl (tget ((ak m Hsa) 3) (nI vv) 5)), (5, .inl (tget ((ak m Hsa) 7) (nI k) 0)), (4, .inl (nI vv)), (3, .inl (nI r)), (0, .inr (.inr (some 92))), (1, .inl (nI i))], [], H17)) (C := []) rfl trivial ?_
              rw [nI_1]
              exact mw_sub (by simp) (iha (k + 1, H17) ⟨hp17, ht17, (show sp X i 4 ≤ (k + 1) from by omega), (show (k + 1) ≤ sp X (i + 1) 4 from by omega), (show SI m X H17 from hI17), (show c7 X i (k + 1) (ak m H) (ak m H17) from (hcs.more hk1 (fun j u w => by rw [ha17, ax_ne w, ha16, ax_ne u]) (fun v => by rw [ha17, ax_ne (by decide), ha16]; exact ax_c (fun _ _ => by decide)) (fun n u => by rw [ha17, ax_c (fun _ z => absurd (z.trans (nI_clamp (by omega))) u), ha16, ax_ne (by decide)]) (hIs.eqq hI17) ⟨vv, by rw [ha17]; exact ax_hit (by rw [hI16.n (by decide)]; omega) (by decide) (by omega), by rw [hI17.2.2.spc (by decide)]; exact hv1, by rw [hI17.2.2.spc (by decide)]; exact hv2, by rw [hI17.2.2.2 3 (by decide) vv 1 (by omega) (by omega) (by omega)]; exact hv3⟩))⟩ (by show sp X (i + 1) 4 - (k + 1) < sp X (i + 1) 4 - k; omega))
            · -- 119: not ((tget ((ak m Hsa) 3) (nI vv) 5) &&& ((tget ((ak m Hsa) 7) (nI k) 0) ||| (1 : Int32))) = 0
              refine mw_go mu_g181 (k := 1) (f1 := (120, [(6, .inl (tget ((ak m Hsa) 3) (nI vv) 5)), (5, .inl (tget ((ak m Hsa) 7) (nI k) 0)), (4, .inl (nI vv)), (3, .inl (nI r)), (2, .inl (nI k)), (0, .inr (.inr (some 92))), (1, .inl (nI i))], [.inl (0 : Int32)], Hsa)) (C := []) rfl trivial ?_
              exact mw_of (fun _ => mu_ret rfl (Or.inl rfl) ⟨_, Hsa, rfl, Or.inl rfl, hpa, hta, hIs, by rw [hcs.1 19 (by decide) (by decide)], fun z => absurd z (by decide)⟩)
          · -- 119: not (tget ((ak m Hsa) 3) (nI vv) 5) = 0
            refine mw_go mu_g181 (k := 1) (f1 := (120, [(6, .inl (tget ((ak m Hsa) 3) (nI vv) 5)), (5, .inl (tget ((ak m Hsa) 7) (nI k) 0)), (4, .inl (nI vv)), (3, .inl (nI r)), (2, .inl (nI k)), (0, .inr (.inr (some 92))), (1, .inl (nI i))], [.inl (0 : Int32)], Hsa)) (C := []) rfl trivial ?_
            exact mw_of (fun _ => mu_ret rfl (Or.inl rfl) ⟨_, Hsa, rfl, Or.inl rfl, hpa, hta, hIs, by rw [hcs.1 19 (by decide) (by decide)], fun z => absurd z (by decide)⟩)
        · -- 109: not (tget ((ak m Hsa) 7) (nI k) 0) = (1 : Int32)
          refine mw_go mu_g181 (k := 5) (f1 := (116, [(6, .inl (tget ((ak m Hsa) 3) (nI vv) 5)), (5, .inl (tget ((ak m Hsa) 7) (nI k) 0)), (4, .inl (nI vv)), (3, .inl (nI r)), (2, .inl (nI k)), (0, .inr (.inr (some 92))), (1, .inl (nI i))], [.inl ((tget ((ak m Hsa) 3) (nI vv) 5) &&& ((tget ((ak m Hsa) 7) (nI k) 0) ||| (1 : Int32)))], Hsa)) (C := []) rfl trivial ?_
          refine mw_if (P := ((tget ((ak m Hsa) 3) (nI vv) 5) &&& ((tget ((ak m Hsa) 7) (nI k) 0) ||| (1 : Int32))) = 0) (a := 121) (b := 119) (fun _ => rfl) trivial (fun h18 => ?_) (fun h18 => ?_)
          · -- 121: ((tget ((ak m Hsa) 3) (nI vv) 5) &&& ((tget ((ak m Hsa) 7) (nI k) 0) ||| (1 : Int32))) = 0
            refine mw_go mu_g181 (k := 2) (f1 := (125, [(6, .inl (tget ((ak m Hsa) 3) (nI vv) 5)), (5, .inl (tget ((ak m Hsa) 7) (nI k) 0)), (4, .inl (nI vv)), (3, .inl (nI r)), (2, .inl (nI k)), (0, .inr (.inr (some 92))), (1, .inl (nI i))], [.inr (.inr (mu_r Hsa 92 2))], Hsa)) (C := [mu_is Hsa (some 92) 12]) rfl (show mu_is Hsa (some 92) 12 from hpa.1.is rfl) ?_
            rw [hpa.2.2.1]
            refine mw_go mu_g181 (k := 1) (f1 := (128, [(6, .inl (tget ((ak m Hsa) 3) (nI vv) 5)), (5, .inl (tget ((ak m Hsa) 7) (nI k) 0)), (4, .inl (nI vv)), (3, .inl (nI r)), (2, .inl (nI k)), (0, .inr (.inr (some 92))), (1, .inl (nI i))], [.inr (.inr (mu_r Hsa m 3))], Hsa)) (C := [mu_is Hsa (some m) 6]) rfl (show mu_is Hsa (some m) 6 from (show mu_is Hsa (some m) 6 from gi_im hpa.1 hpa.2.1)) ?_
            rw [(show mu_r Hsa m 3 = some (m + 7) from (gi_mr hpa.1 hpa.2.1 (j := 3) (by decide)).trans (congrArg some (by omega)))]
            refine mw_go mu_g181 (k := 5) (f1 := (136, [(6, .inl (tget ((ak m Hsa) 3) (nI vv) 5)), (5, .inl (tget ((ak m Hsa) 7) (nI k) 0)), (4, .inl (nI vv)), (3, .inl (nI r)), (2, .inl (nI k)), (0, .inr (.inr (some 92))), (1, .inl (nI i))], [.inl ((tget ((ak m Hsa) 3) (nI vv) 5) ||| (tget ((ak m Hsa) 7) (nI k) 0)), .inl (5 : Int32), .inl (nI vv), .inr (.inr (some (m + 7)))], Hsa)) (C := []) rfl trivial ?_
            refine mw_cV (fun _ => rfl) (show mu_is Hsa (some (m + 7)) 10 from (hpa.1.w (md_w3 hpa.2.1)).1) (dm.setr (C := C) (d := (d + 1)) hpa rfl (j := 3) (by decide) rfl (nI vv) ((tget ((ak m Hsa) 3) (nI vv) 5) ||| (tget ((ak m Hsa) 7) (nI k) 0)) (c := 5) (by decide)) (fun H19 q19 => ?_)
            obtain ⟨hp19, qt19, ha19, qh19⟩ := q19
            have ht19 := hta.trans qt19
            have ha19 : ak m H19 = (ax 3 (ak m Hsa) (nI vv) 5 ((tget ((ak m Hsa) 3) (nI vv) 5) ||| (tget ((ak m Hsa) 7) (nI k) 0))) := ha19
            have hI19 : SI m X H19 := hIs.set qh19 (by rw [ha19]; exact ax_ne (by decide)) (by rw [ha19]; exact eqc_ax3 (by decide))
            refine mw_go mu_g181 (k := 2) (f1 := (143, [(6, .inl (tget ((ak m Hsa) 3) (nI vv) 5)), (5, .inl (tget ((ak m Hsa) 7) (nI k) 0)), (4, .inl (nI vv)), (3, .inl (nI r)), (2, .inl (nI k)), (0, .inr (.inr (some 92))), (1, .inl (nI i))], [.inr (.inr (mu_r H19 92 2))], H19)) (C := [mu_is H19 (some 92) 12]) rfl (show mu_is H19 (some 92) 12 from hp19.1.is rfl) ?_
            rw [hp19.2.2.1]
            refine mw_go mu_g181 (k := 1) (f1 := (146, [(6, .inl (tget ((ak m Hsa) 3) (nI vv) 5)), (5, .inl (tget ((ak m Hsa) 7) (nI k) 0)), (4, .inl (nI vv)), (3, .inl (nI r)), (2, .inl (nI k)), (0, .inr (.inr (some 92))), (1, .inl (nI i))], [.inr (.inr (mu_r H19 m 7))], H19)) (C := [mu_is H19 (some m) 6]) rfl (show mu_is H19 (some m) 6 from (show mu_is H19 (some m) 6 from gi_im hp19.1 hp19.2.1)) ?_
            rw [(show mu_r H19 m 7 = some (m + 15) from (gi_mr hp19.1 hp19.2.1 (j := 7) (by decide)).trans (congrArg some (by omega)))]
            refine mw_go mu_g181 (k := 3) (f1 := (150, [(6, .inl (tget ((ak m Hsa) 3) (nI vv) 5)), (5, .inl (tget ((ak m Hsa) 7) (nI k) 0)), (4, .inl (nI vv)), (3, .inl (nI r)), (2, .inl (nI k)), (0, .inr (.inr (some 92))), (1, .inl (nI i))], [.inl (nI vv), .inl (1 : Int32), .inl (nI k), .inr (.inr (some (m + 15)))], H19)) (C := []) rfl trivial ?_
            refine mw_cV (fun _ => rfl) (show mu_is H19 (some (m + 15)) 10 from (hp19.1.w (md_w7 hp19.2.1)).1) (dm.setr (C := C) (d := (d + 1)) hp19 rfl (j := 7) (by decide) rfl (nI k) (nI vv) (c := 1) (by decide)) (fun H20 q20 => ?_)
            obtain ⟨hp20, qt20, ha20, qh20⟩ := q20
            have ht20 := ht19.trans qt20
            have ha20 : ak m H20 = (ax 7 (ak m H19) (nI k) 1 (nI vv)) := ha20
            have hI20 : SI m X H20 := hI19.set qh20 (by rw [ha20]; exact ax_ne (by decide)) (by rw [ha20]; exact eqc_ax7)
            refine mw_go mu_g181 (k := 2) (f1 := (13, [(2, .inl ((nI k) + 1)), (6, .inl (tget ((ak m Hsa) 3) (nI vv) 5)), (5, .inl (tget ((ak m Hsa) 7) (nI k) 0)), (4, .inl (nI vv)), (3, .inl (nI r)), (0, .inr (.inr (some 92))), (1, .inl (nI i))], [], H20)) (C := []) rfl trivial ?_
            rw [nI_1]
            exact mw_sub (by simp) (iha (k + 1, H20) ⟨hp20, ht20, (show sp X i 4 ≤ (k + 1) from by omega), (show (k + 1) ≤ sp X (i + 1) 4 from by omega), (show SI m X H20 from hI20), (show c7 X i (k + 1) (ak m H) (ak m H20) from (hcs.more hk1 (fun j u w => by rw [ha20, ax_ne w, ha19, ax_ne u]) (fun v => by rw [ha20, ax_ne (by decide), ha19]; exact ax_c (fun _ _ => by decide)) (fun n u => by rw [ha20, ax_c (fun _ z => absurd (z.trans (nI_clamp (by omega))) u), ha19, ax_ne (by decide)]) (hIs.eqq hI20) ⟨vv, by rw [ha20]; exact ax_hit (by rw [hI19.n (by decide)]; omega) (by decide) (by omega), by rw [hI20.2.2.spc (by decide)]; exact hv1, by rw [hI20.2.2.spc (by decide)]; exact hv2, by rw [hI20.2.2.2 3 (by decide) vv 1 (by omega) (by omega) (by omega)]; exact hv3⟩))⟩ (by show sp X (i + 1) 4 - (k + 1) < sp X (i + 1) 4 - k; omega))
          · -- 119: not ((tget ((ak m Hsa) 3) (nI vv) 5) &&& ((tget ((ak m Hsa) 7) (nI k) 0) ||| (1 : Int32))) = 0
            refine mw_go mu_g181 (k := 1) (f1 := (120, [(6, .inl (tget ((ak m Hsa) 3) (nI vv) 5)), (5, .inl (tget ((ak m Hsa) 7) (nI k) 0)), (4, .inl (nI vv)), (3, .inl (nI r)), (2, .inl (nI k)), (0, .inr (.inr (some 92))), (1, .inl (nI i))], [.inl (0 : Int32)], Hsa)) (C := []) rfl trivial ?_
            exact mw_of (fun _ => mu_ret rfl (Or.inl rfl) ⟨_, Hsa, rfl, Or.inl rfl, hpa, hta, hIs, by rw [hcs.1 19 (by decide) (by decide)], fun z => absurd z (by decide)⟩)
      · -- 60: not (((ak m Hsa) 19).2 r 2) = (3 : Int32)
        refine mw_go mu_g181 (k := 1) (f1 := (61, [(3, .inl (nI r)), (2, .inl (nI k)), (0, .inr (.inr (some 92))), (1, .inl (nI i))], [.inl (0 : Int32)], Hsa)) (C := []) rfl trivial ?_
        exact mw_of (fun _ => mu_ret rfl (Or.inl rfl) ⟨_, Hsa, rfl, Or.inl rfl, hpa, hta, hIs, by rw [hcs.1 19 (by decide) (by decide)], fun z => absurd z (by decide)⟩)
  · -- 159: not (nI k) < (nI (sp X (i + 1) 4))
    have hkb : ¬ k < sp X (i + 1) 4 := fun z => h3 (nI_lt z (by omega))
    have hke : k = sp X (i + 1) 4 := by omega
    refine mw_go mu_g181 (k := 1) (f1 := (160, [(2, .inl (nI k)), (0, .inr (.inr (some 92))), (1, .inl (nI i))], [.inl (1 : Int32)], Hsa)) (C := []) rfl trivial ?_
    exact mw_of (fun _ => mu_ret rfl (Or.inr rfl) ⟨_, Hsa, rfl, Or.inr rfl, hpa, hta, hIs, by rw [hcs.1 19 (by decide) (by decide)], fun _ => by rw [← hke]; exact hcs⟩)
end SoundData2
