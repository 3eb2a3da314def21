/-! SOUND AS DATA: its members -/
def okr (t : Tb) (x : Int32) : Prop := x = -1 ∨ ∃ r, r < t.1 ∧ x = nI r
/-- heads and chains of the members lead to members -/
def MC (t : Tb) (H : mu_H) : Prop := (∀ i, i < 512 → okr t (mu_i H 95 i)) ∧ ∀ r, r < t.1 → okr t (t.2 r 4)
/-- what a member of a kind is -/
def okm (s : Ts) (w kind row : Int32) : Prop := (w = -1 → ∃ k, k < (s 1).1 ∧ row = nI k) ∧ ∀ k, k < (s 1).1 → w = nI k →
  (kind = 1 → ∃ p, row = nI p ∧ sp s k 1 ≤ p ∧ p < sp s (k + 1) 1) ∧ (kind = 2 → ∃ p, row = nI p ∧ sp s k 3 ≤ p ∧ p < sp s (k + 1) 3) ∧
  (kind = 3 → ∃ v, row = nI v ∧ sp s k 2 ≤ v ∧ v < sp s (k + 1) 2 ∧ ¬ (s 3).2 v 1 = 3) ∧ (kind = 4 → ∃ v, row = nI v ∧ sp s k 2 ≤ v ∧ v < sp s (k + 1) 2 ∧ (s 3).2 v 1 = 3)
def MB (s : Ts) : Prop := ∀ r, r < (s 19).1 → okm s ((s 19).2 r 0) ((s 19).2 r 2) ((s 19).2 r 3)
/-- what Sound leaves as it is -/
def eqc (s s' : Ts) : Prop := (∀ j, j < 19 → (s' j).1 = (s j).1) ∧ ∀ j, j < 19 → ∀ i c, ¬ (j = 3 ∧ 4 ≤ c) → ¬ (j = 7 ∧ c = 1) → ¬ (j = 1 ∧ 7 ≤ c) → (s' j).2 i c = (s j).2 i c
def SI (m : Nat) (X : Ts) (H : mu_H) : Prop := MC (ak m H 19) H ∧ MB (ak m H) ∧ eqc X (ak m H)
def kdo (t : Tb) (v : Int32) : Int32 := if v < 0 then 0 else tget t v 2
def rwo (t : Tb) (v : Int32) : Int32 := if v < 0 then -1 else tget t v 3
section Members
variable {t : Tb} {x v w : Int32} {s s' s2 : Ts} {H H1 : mu_H} {m j d : Nat} {C : Nat → Nat}
theorem tget_nI {k c : Nat} (hk : k < 2147483648) : tget t (nI k) c = t.2 k c := by
  unfold tget
  rw [if_neg (nI_pos hk), nI_clamp hk]
theorem okr_at (h : okr t x) (h0 : ¬ x < 0) : ∃ r, r < t.1 ∧ x = nI r := by
  rcases h with e | e
  · rw [e] at h0
    exact absurd (by decide) h0
  · exact e
theorem okr_hit (hb : t.1 ≤ 67108864) (h : okr t x) (h0 : ¬ x < 0) (e0 : tget t x 0 = v) (e1 : tget t x 1 = w) : ∃ r, r < t.1 ∧ x = nI r ∧ t.2 r 0 = v ∧ t.2 r 1 = w := by
  obtain ⟨r, hr, rfl⟩ := okr_at h h0
  rw [tget_nI (by omega)] at e0 e1
  exact ⟨r, hr, rfl, e0, e1⟩
theorem okr_next (hb : t.1 ≤ 67108864) (h : okr t x) (h0 : ¬ x < 0) (hc : ∀ r, r < t.1 → okr t (t.2 r 4)) : okr t (tget t x 4) := by
  obtain ⟨r, hr, rfl⟩ := okr_at h h0
  rw [tget_nI (by omega)]
  exact hc r hr
theorem okr_up {t' : Tb} (h : okr t x) (hn : t.1 ≤ t'.1) : okr t' x := by
  rcases h with e | ⟨r, hr, e⟩
  · exact Or.inl e
  · exact Or.inr ⟨r, by omega, e⟩
theorem eqc.refl (s : Ts) : eqc s s := ⟨fun _ _ => rfl, fun _ _ _ _ _ _ _ => rfl⟩
theorem eqc.trans (h : eqc s s') (h' : eqc s' s2) : eqc s s2 := ⟨fun j hj => (h'.1 j hj).trans (h.1 j hj), fun j hj i c a b e => (h'.2 j hj i c a b e).trans (h.2 j hj i c a b e)⟩
theorem eqc.same (h : ∀ j, j < 19 → s' j = s j) : eqc s s' := ⟨fun j hj => by rw [h j hj], fun j hj i c _ _ _ => by rw [h j hj]⟩
theorem eqc.spc (h : eqc s s') {k c : Nat} (hc : c ≤ 6) : sp s' k c = sp s k c := by
  have ht := tabc_lt hc
  unfold sp
  rw [h.1 1 (by decide), h.1 _ (by omega), h.2 1 (by decide) k c (by omega) (by omega) (by omega)]
theorem eqc.okm (h : eqc s s') {k : Int32} (ho : okm s w k x) : okm s' w k x := by
  obtain ⟨h1, h2⟩ := ho
  have n1 := h.1 1 (by decide)
  have t3 : ∀ v, (s' 3).2 v 1 = (s 3).2 v 1 := fun v => h.2 3 (by decide) v 1 (by omega) (by omega) (by omega)
  refine ⟨fun e => ?_, fun q hq e => ?_⟩
  · rw [n1]; exact h1 e
  · rw [n1] at hq
    rw [h.spc (by decide), h.spc (by decide), h.spc (by decide), h.spc (by decide), h.spc (by decide), h.spc (by decide)]
    obtain ⟨a, b, c, f⟩ := h2 q hq e
    refine ⟨a, b, fun z => ?_, fun z => ?_⟩
    · obtain ⟨v, v1, v2, v3, v4⟩ := c z
      exact ⟨v, v1, v2, v3, by rw [t3]; exact v4⟩
    · obtain ⟨v, v1, v2, v3, v4⟩ := f z
      exact ⟨v, v1, v2, v3, by rw [t3]; exact v4⟩
theorem MB.eqs (h : MB s) (e : eqc s s') (e19 : s' 19 = s 19) : MB s' := fun r hr => by
  rw [e19] at hr ⊢
  exact e.okm (h r hr)
/-- the content, but for what Sound writes -/
def CU (s : Ts) : Prop := Cm s ∧ Cc s ∧ (Cr s 5 false 1 2 ∧ Cr s 3 false 1 2 ∧ Cr s 4 true 2 3 ∧ (1 ≤ (s 1).1 → ∀ c, 1 ≤ c → c ≤ 6 → (s 1).2 0 c = 0)) ∧ Cv s ∧ Cf s ∧ Cl s
theorem CT.eqs (h : CT s) (e : eqc s s') : CU s' := by
  have n := e.1
  have hs : ∀ k c, c ≤ 6 → sp s' k c = sp s k c := fun k c hc => e.spc hc
  have c0 : ∀ i c, (s' 0).2 i c = (s 0).2 i c := fun i c => e.2 0 (by decide) i c (by omega) (by omega) (by omega)
  have c5 : ∀ i c, (s' 5).2 i c = (s 5).2 i c := fun i c => e.2 5 (by decide) i c (by omega) (by omega) (by omega)
  have c6 : ∀ i c, (s' 6).2 i c = (s 6).2 i c := fun i c => e.2 6 (by decide) i c (by omega) (by omega) (by omega)
  have c7 : ∀ i c, c ≠ 1 → (s' 7).2 i c = (s 7).2 i c := fun i c hc => e.2 7 (by decide) i c (by omega) (by omega) (by omega)
  have c8 : ∀ i c, (s' 8).2 i c = (s 8).2 i c := fun i c => e.2 8 (by decide) i c (by omega) (by omega) (by omega)
  have c9 : ∀ i c, (s' 9).2 i c = (s 9).2 i c := fun i c => e.2 9 (by decide) i c (by omega) (by omega) (by omega)
  have c3 : ∀ i c, c ≤ 3 → (s' 3).2 i c = (s 3).2 i c := fun i c hc => e.2 3 (by decide) i c (by omega) (by omega) (by omega)
  have c1 : ∀ i c, c ≤ 6 → (s' 1).2 i c = (s 1).2 i c := fun i c hc => e.2 1 (by decide) i c (by omega) (by omega) (by omega)
  have hrg : ∀ k kd a b, rg s k kd a b → rg s' k kd a b := fun k kd a b hr => by
    obtain ⟨r1, r2, r3, r4⟩ := hr
    refine ⟨r1, by rw [n 0 (by decide)]; exact r2, ?_, fun p hp1 hp2 ho => ?_⟩
    · rw [kst_congr (t := s 0) (fun i _ => ⟨c0 _ _, c0 _ _⟩)]
      exact r3
    · rw [c0] at ho
      rw [c0, hs k 6 (by decide), hs (k + 1) 6 (by decide)]
      exact r4 p hp1 hp2 ho
  have hCr : ∀ c kd c1 c2, c ≤ 6 → (∀ i q, q = c1 ∨ q = c2 → (s' (tabc c)).2 i q = (s (tabc c)).2 i q) → Cr s c kd c1 c2 → Cr s' c kd c1 c2 := fun c kd q1 q2 h6 hq hc k hk i hi1 hi2 => by
    rw [n 1 (by decide)] at hk
    rw [hs k c h6] at hi1
    rw [hs (k + 1) c h6] at hi2
    obtain ⟨a, b, e1, e2, e3⟩ := hc k hk i hi1 hi2
    exact ⟨a, b, by rw [hq i q1 (Or.inl rfl)]; exact e1, by rw [hq i q2 (Or.inr rfl)]; exact e2, hrg _ _ _ _ e3⟩
  obtain ⟨d1, d2, ⟨d3, d4, d5, d5', -⟩, d6, d7, d8⟩ := h
  refine ⟨fun k hk c a1 a6 => ?_, fun p hp => ?_, ⟨hCr _ _ _ _ (by decide) (fun i q _ => c8 i q) d3, hCr _ _ _ _ (by decide) (fun i q _ => c6 i q) d4, hCr _ _ _ _ (by decide) (fun i q hq => c7 i q (by omega)) d5, fun z c a1 a6 => ?_⟩, fun k hk v hv1 hv2 => ?_, fun r hr => ?_, ?_⟩
  · rw [n 1 (by decide)] at hk
    rw [hs k c a6, hs (k + 1) c a6, n _ (by have := tabc_lt a6; omega), c1 k c a6]
    exact d1 k hk c a1 a6
  · rw [n 0 (by decide)] at hp
    rw [c0, c0]
    exact d2 p hp
  · rw [n 1 (by decide)] at z
    rw [c1 0 c a6]
    exact d5' z c a1 a6
  · rw [n 1 (by decide)] at hk
    rw [hs k 2 (by decide)] at hv1
    rw [hs (k + 1) 2 (by decide)] at hv2
    obtain ⟨y, y1, y2, y4, y5⟩ := d6 k hk v hv1 hv2
    refine ⟨y, y1, by rw [c3 v 1 (by decide)]; exact y2, by rw [c3 v 2 (by decide), c3 v 3 (by decide), n 4 (by decide)]; exact y4, fun z => ?_⟩
    obtain ⟨a, b, e1, e2, e3, e4⟩ := y5 z
    refine ⟨a, b, by rw [c3 v 2 (by decide)]; exact e1, by rw [c3 v 3 (by decide)]; exact e2, by rw [n 5 (by decide)]; exact e3, fun g hg1 hg2 => ?_⟩
    obtain ⟨a', b', f1, f2, f3⟩ := e4 g hg1 hg2
    exact ⟨a', b', by rw [c5]; exact f1, by rw [c5]; exact f2, hrg _ _ _ _ f3⟩
  · rw [n 9 (by decide)] at hr
    obtain ⟨a, l, e1, e2, e3, e4, e5⟩ := d7 r hr
    exact ⟨a, l, by rw [c9]; exact e1, by rw [c9]; exact e2, by rw [n 10 (by decide)]; exact e3, by rw [c9]; exact e4, fun r' h1 h2 => by rw [n 9 (by decide)] at h2; rw [c9]; exact e5 r' h1 h2⟩
  · show ls2 (s' 3) (s' 3).1 ≤ (s' 4).1
    rw [n 3 (by decide), n 4 (by decide), ls2_congr (t := s 3) (fun i _ => ⟨c3 i 1 (by decide), c3 i 3 (by decide)⟩)]
    exact d8
/-- a MODULE's first row and the row behind its last -/
theorem sp_get (h : Cm s) {k c : Nat} (hk : k < (s 1).1) (hb : (s 1).1 ≤ 67108864) (h1 : 1 ≤ c) (h6 : c ≤ 6) : tget (s 1) (nI k) c = nI (sp s k c) := by
  rw [tget_nI (by omega)]
  exact (h k hk c h1 h6).1
theorem sp_stp (h : Cm s) {k c : Nat} (hk : k < (s 1).1) (hb : (s 1).1 ≤ 67108864) (h1 : 1 ≤ c) (h6 : c ≤ 6) (hj : tabc c = j) : stp s (nI k) c j = nI (sp s (k + 1) c) := by
  unfold stp
  rw [nI_1]
  by_cases h2 : k + 1 < (s 1).1
  · rw [if_pos (nI_lt h2 (by omega))]
    exact sp_get h h2 hb h1 h6
  · rw [if_neg (fun z => h2 ((nI_ltI (by omega) (by omega)).mp z))]
    unfold sp
    rw [if_neg h2, hj]
theorem dm.head (h : dm m H) {k : Nat} {y : Int32} : dm m (mu_si H 95 k y) ∧ rl m C H (mu_si H 95 k y) ∧ ak m (mu_si H 95 k y) = ak m H := by
  have ho : mu_onl H (mu_si H 95 k y) 95 := (mu_onl.refl H 95).si _ _
  have hg : gi (mu_si H 95 k y) := h.1.onl ho (Or.inl (h.1.a (p := 95) (x := (100, 512)) rfl).1.2.2)
  have hk : gk (fun p => Nat.beq p 92) H (mu_si H 95 k y) := gk.onla (p := 92) (j := 1) h.1 (by rw [h.1.r (p := 92) (j := 1) (q := 95) rfl]; exact ho) rfl rfl
  have hr : rl m C H (mu_si H 95 k y) := ⟨hk.mono (fun p hp => by rw [Nat.eq_of_beq_eq_true hp]; exact decide_eq_true (Or.inr (Or.inl rfl))), fun _ => rfl, fun _ => rfl, fun _ _ => Nat.le_max_left _ _, fun q => by rw [mu_i_si, if_neg (fun z => by omega)]⟩
  exact ⟨h.of hg hr, hr, gT_keep (ra_ok h.2.1) hk (fun j hj => beq_f (ra_91 h.2.1 hj).2.1)⟩
theorem ap_n {a b c e : Int32} : (ap j s a b c e j).1 = (s j).1 + 1 := by unfold ap; rw [fu_at]; rfl
theorem ap_ne {a b c e : Int32} {i : Nat} (h : i ≠ j) : ap j s a b c e i = s i := fu_ne _ _ h
theorem ax_ne {row y : Int32} {c i : Nat} (h : i ≠ j) : ax j s row c y i = s i := fu_ne _ _ h
theorem ax_at {row y : Int32} {c : Nat} : ax j s row c y j = tset (wa j) (s j) row c y := fu_at _ _
theorem ax_n {row y : Int32} {c i : Nat} : (ax j s row c y i).1 = (s i).1 := by
  by_cases h : i = j
  · subst h; rw [ax_at, tset_n]
  · rw [ax_ne h]
theorem ax_c {row y : Int32} {c i r c' : Nat} (h : i = j → r = row.toNatClampNeg → c' ≠ c) : (ax j s row c y i).2 r c' = (s i).2 r c' := by
  by_cases e : i = j
  · subst e; rw [ax_at]; exact tset_ne (h rfl)
  · rw [ax_ne e]
theorem ax_hit {y : Int32} {c r : Nat} (hr : r < (s j).1) (hc : c < wa j) (hb : r < 2147483648) : (ax j s (nI r) c y j).2 r c = y := by rw [ax_at]; exact tset_hit hr hc hb
/-- a member more -/
theorem mem_c {a1 a2 a3 a4 y : Int32} (hn : (s 19).1 < 2147483648) {r c : Nat} : (ax 19 (ap 19 s a1 a2 a3 a4) (nI (s 19).1) 4 y 19).2 r c = if r = (s 19).1 then (if c = 4 then y else if c < 5 then rw_col a1 a2 a3 a4 c else 0) else (s 19).2 r c := by
  by_cases hr : r = (s 19).1
  · subst hr
    rw [if_pos rfl]
    by_cases hc : c = 4
    · subst hc
      rw [if_pos rfl, ax_hit (by rw [ap_n]; omega) (by decide) hn]
    · rw [if_neg hc, ax_c (fun _ _ => hc)]
      unfold ap
      rw [fu_at]
      exact if_pos rfl
  · rw [if_neg hr, ax_c (fun _ e => by rw [nI_clamp hn] at e; exact absurd e hr)]
    unfold ap
    rw [fu_at]
    exact if_neg hr
theorem mem_n {a1 a2 a3 a4 y : Int32} : (ax 19 (ap 19 s a1 a2 a3 a4) (nI (s 19).1) 4 y 19).1 = (s 19).1 + 1 := by rw [ax_n, ap_n]
theorem mem_ne {a1 a2 a3 a4 y : Int32} {i : Nat} (h : i ≠ 19) : ax 19 (ap 19 s a1 a2 a3 a4) (nI (s 19).1) 4 y i = s i := by rw [ax_ne h, ap_ne h]
theorem MC.more {a1 a2 a3 a4 y : Int32} {hd : Nat} (h : MC (s 19) H) (hn : (s 19).1 < 2147483648) (hy : okr (s 19) y) (h1 : ∀ i, mu_i H1 95 i = mu_i H 95 i) : MC (ax 19 (ap 19 s a1 a2 a3 a4) (nI (s 19).1) 4 y 19) (mu_si H1 95 hd (nI (s 19).1)) := by
  refine ⟨fun i hi => ?_, fun r hr => ?_⟩
  · rw [mu_i_si]
    split
    · exact Or.inr ⟨(s 19).1, by rw [mem_n]; omega, rfl⟩
    · rw [h1]
      exact okr_up (h.1 i hi) (by rw [mem_n]; omega)
  · rw [mem_n] at hr
    rw [mem_c hn]
    split
    · rw [if_pos rfl]
      exact okr_up hy (by rw [mem_n]; omega)
    · exact okr_up (h.2 r (by omega)) (by rw [mem_n]; omega)
theorem MB.more {a1 a2 a3 a4 y : Int32} (h : MB s) (hn : (s 19).1 < 2147483648) (hk : okm s a1 a3 a4) : MB (ax 19 (ap 19 s a1 a2 a3 a4) (nI (s 19).1) 4 y) := fun r hr => by
  have e : eqc s (ax 19 (ap 19 s a1 a2 a3 a4) (nI (s 19).1) 4 y) := eqc.same (fun j hj => mem_ne (by omega))
  rw [mem_n] at hr
  rw [mem_c hn, mem_c hn, mem_c hn]
  split
  · exact e.okm hk
  · exact e.okm (h r (by omega))
end Members
section SoundFind
variable {H : mu_H} {d m : Nat} {X : Ts} {C : Nat → Nat}
theorem so_find2 (h : dm m H) (hX : ak m H = X) (hMC : MC (X 19) H) (v w : Int32) : mu_TI (mu_D (d + 2)) 174 [.inr (.inr (some 92)), .inl v, .inl w] H (fun x H1 => (x = -1 ∧ H = H1) ∨ (∃ r, r < (X 19).1 ∧ x = nI r ∧ (X 19).2 r 0 = v ∧ (X 19).2 r 1 = w ∧ H = H1)) := by
  have hb := h.lt hX (j := 19) (by decide)
  refine mu_meth (M := mu_m174) rfl rfl ?_
  refine mw_ht (mu_fn_of (show [0, 1, 2].Nodup by decide)) ?_
  refine mw_go mu_g174 (k := 2) (f1 := (4, [(0, .inr (.inr (some 92))), (1, .inl v), (2, .inl w)], [.inr (.inr (mu_r H 92 1))], H)) (C := [mu_is H (some 92) 12]) rfl (show mu_is H (some 92) 12 from h.1.is rfl) ?_
  rw [(h.1.r (p := 92) (j := 1) (q := 95) rfl)]
  refine mw_go mu_g174 (k := 3) (f1 := (7, [(0, .inr (.inr (some 92))), (1, .inl v), (2, .inl w)], [.inl w, .inl v, .inr (.inr (some 92)), .inr (.inr (some 95))], H)) (C := []) rfl trivial ?_
  refine mw_cI (fun _ => rfl) (show mu_is H (some 92) 12 from h.1.is rfl) (so_hash (d := d) h.1 v w) (fun x1 H1 q1 => ?_)
  obtain ⟨rfl, hd, hhd, rfl⟩ := q1
  refine mw_go mu_g174 (k := 4) (f1 := (15, [(4, .inl (0 : Int32)), (3, .inl (mu_i H 95 (nI hd).toNatClampNeg)), (0, .inr (.inr (some 92))), (1, .inl v), (2, .inl w)], [], H)) (C := [mu_isr H (some 95) 100, vp_in (nI hd) (mu_n H 95)]) rfl (show (mu_isr H (some 95) 100) ∧ (vp_in (nI hd) (mu_n H 95)) from ⟨((h.1.a (p := 95) (x := (100, 512)) rfl).1).r, (by rw [(h.1.a (p := 95) (x := (100, 512)) rfl).2]; exact vp_in_nI hhd (by decide))⟩) ?_
  refine mw_sub (L' := [(3, .inl (mu_i H 95 (nI hd).toNatClampNeg)), (4, .inl (0 : Int32)), (0, .inr (.inr (some 92))), (1, .inl v), (2, .inl w)]) (by simp) ?_
  refine mw_down (α := Int32 × Int32) (fun zs => (15, [(3, .inl zs.1), (4, .inl zs.2), (0, .inr (.inr (some 92))), (1, .inl v), (2, .inl w)], [], H)) (fun zs => (2147483647 - zs.2.toInt).toNat) (fun zs => (okr (X 19) zs.1)) (fun zs hs ih => ?_) ((mu_i H 95 (nI hd).toNatClampNeg), (0 : Int32)) (show okr (X 19) (mu_i H 95 (nI hd).toNatClampNeg) from (by rw [nI_clamp (by omega)]; exact hMC.1 hd hhd))
  obtain ⟨x, y⟩ := zs
  have hx := hs
  have hx : okr (X 19) x := hx
  show mu_W _ _ (15, [(3, .inl x), (4, .inl y), (0, .inr (.inr (some 92))), (1, .inl v), (2, .inl w)], [], H) _
  refine mw_go mu_g174 (k := 3) (f1 := (21, [(3, .inl x), (4, .inl y), (0, .inr (.inr (some 92))), (1, .inl v), (2, .inl w)], [.inr (.inr (mu_r H 92 0)), .inl y], H)) (C := [mu_is H (some 92) 12]) rfl (show mu_is H (some 92) 12 from h.1.is rfl) ?_
  rw [(h.1.r (p := 92) (j := 0) (q := 93) rfl)]
  refine mw_go mu_g174 (k := 1) (f1 := (24, [(3, .inl x), (4, .inl y), (0, .inr (.inr (some 92))), (1, .inl v), (2, .inl w)], [.inl (mu_i H 93 2), .inl y], H)) (C := [mu_is H (some 93) 10]) rfl (show mu_is H (some 93) 10 from h.1.is rfl) ?_
  rw [(show mu_i H 93 2 = nI (X 19).1 from h.size hX (j := 19) (by decide))]
  refine mw_if (P := y < (nI (X 19).1)) (a := 27) (b := 75) (fun _ => rfl) trivial (fun h2 => ?_) (fun h2 => ?_)
  · -- 27: y < (nI (X 19).1)
    have huph2 := i32_up h2
    refine mw_go mu_g174 (k := 1) (f1 := (28, [(3, .inl x), (4, .inl y), (0, .inr (.inr (some 92))), (1, .inl v), (2, .inl w)], [.inl x], H)) (C := []) rfl trivial ?_
    refine mw_if (P := x < 0) (a := 75) (b := 31) (fun _ => rfl) trivial (fun h3 => ?_) (fun h3 => ?_)
    · -- 75: x < 0
      refine mw_go mu_g174 (k := 1) (f1 := (76, [(3, .inl x), (4, .inl y), (0, .inr (.inr (some 92))), (1, .inl v), (2, .inl w)], [.inl (-1 : Int32)], H)) (C := []) rfl trivial ?_
      exact mw_of (fun _ => mu_ret rfl trivial ⟨_, _, rfl, Or.inl ⟨rfl, rfl⟩⟩)
    · -- 31: not x < 0
      refine mw_go mu_g174 (k := 2) (f1 := (35, [(3, .inl x), (4, .inl y), (0, .inr (.inr (some 92))), (1, .inl v), (2, .inl w)], [.inr (.inr (mu_r H 92 0))], H)) (C := [mu_is H (some 92) 12]) rfl (show mu_is H (some 92) 12 from h.1.is rfl) ?_
      rw [(h.1.r (p := 92) (j := 0) (q := 93) rfl)]
      refine mw_go mu_g174 (k := 2) (f1 := (37, [(3, .inl x), (4, .inl y), (0, .inr (.inr (some 92))), (1, .inl v), (2, .inl w)], [.inl (0 : Int32), .inl x, .inr (.inr (some 93))], H)) (C := []) rfl trivial ?_
      refine mw_cIe (fun _ => rfl) (show mu_is H (some 93) 10 from h.1.is rfl) (dm.getr (d := d) h hX (j := 19) (by decide) rfl x (c := 0) (by decide)) ?_
      refine mw_go mu_g174 (k := 1) (f1 := (41, [(3, .inl x), (4, .inl y), (0, .inr (.inr (some 92))), (1, .inl v), (2, .inl w)], [.inl v, .inl (tget (X 19) x 0)], H)) (C := []) rfl trivial ?_
      refine mw_if (P := (tget (X 19) x 0) = v) (a := 44) (b := 59) (fun _ => rfl) trivial (fun h5 => ?_) (fun h5 => ?_)
      · -- 44: (tget (X 19) x 0) = v
        refine mw_go mu_g174 (k := 2) (f1 := (48, [(3, .inl x), (4, .inl y), (0, .inr (.inr (some 92))), (1, .inl v), (2, .inl w)], [.inr (.inr (mu_r H 92 0))], H)) (C := [mu_is H (some 92) 12]) rfl (show mu_is H (some 92) 12 from h.1.is rfl) ?_
        rw [(h.1.r (p := 92) (j := 0) (q := 93) rfl)]
        refine mw_go mu_g174 (k := 2) (f1 := (50, [(3, .inl x), (4, .inl y), (0, .inr (.inr (some 92))), (1, .inl v), (2, .inl w)], [.inl (1 : Int32), .inl x, .inr (.inr (some 93))], H)) (C := []) rfl trivial ?_
        refine mw_cIe (fun _ => rfl) (show mu_is H (some 93) 10 from h.1.is rfl) (dm.getr (d := d) h hX (j := 19) (by decide) rfl x (c := 1) (by decide)) ?_
        refine mw_go mu_g174 (k := 1) (f1 := (54, [(3, .inl x), (4, .inl y), (0, .inr (.inr (some 92))), (1, .inl v), (2, .inl w)], [.inl w, .inl (tget (X 19) x 1)], H)) (C := []) rfl trivial ?_
        refine mw_if (P := (tget (X 19) x 1) = w) (a := 57) (b := 59) (fun _ => rfl) trivial (fun h7 => ?_) (fun h7 => ?_)
        · -- 57: (tget (X 19) x 1) = w
          refine mw_go mu_g174 (k := 1) (f1 := (58, [(3, .inl x), (4, .inl y), (0, .inr (.inr (some 92))), (1, .inl v), (2, .inl w)], [.inl x], H)) (C := []) rfl trivial ?_
          exact mw_of (fun _ => mu_ret rfl trivial ⟨_, _, rfl, Or.inr (by obtain ⟨r, z1, z2, z3, z4⟩ := okr_hit hb hx h3 h5 h7; exact ⟨r, z1, z2, z3, z4, rfl⟩)⟩)
        · -- 59: not (tget (X 19) x 1) = w
          refine mw_go mu_g174 (k := 2) (f1 := (63, [(3, .inl x), (4, .inl y), (0, .inr (.inr (some 92))), (1, .inl v), (2, .inl w)], [.inr (.inr (mu_r H 92 0))], H)) (C := [mu_is H (some 92) 12]) rfl (show mu_is H (some 92) 12 from h.1.is rfl) ?_
          rw [(h.1.r (p := 92) (j := 0) (q := 93) rfl)]
          refine mw_go mu_g174 (k := 2) (f1 := (65, [(3, .inl x), (4, .inl y), (0, .inr (.inr (some 92))), (1, .inl v), (2, .inl w)], [.inl (4 : Int32), .inl x, .inr (.inr (some 93))], H)) (C := []) rfl trivial ?_
          refine mw_cIe (fun _ => rfl) (show mu_is H (some 93) 10 from h.1.is rfl) (dm.getr (d := d) h hX (j := 19) (by decide) rfl x (c := 4) (by decide)) ?_
          refine mw_go mu_g174 (k := 3) (f1 := (15, [(4, .inl (y + 1)), (3, .inl (tget (X 19) x 4)), (0, .inr (.inr (some 92))), (1, .inl v), (2, .inl w)], [], H)) (C := []) rfl trivial ?_
          exact mw_sub (by simp) (ih ((tget (X 19) x 4), (y + 1)) (show okr (X 19) (tget (X 19) x 4) from (okr_next hb hx h3 hMC.2)) (by show (2147483647 - (y + 1).toInt).toNat < (2147483647 - y.toInt).toNat; omega))
      · -- 59: not (tget (X 19) x 0) = v
        refine mw_go mu_g174 (k := 2) (f1 := (63, [(3, .inl x), (4, .inl y), (0, .inr (.inr (some 92))), (1, .inl v), (2, .inl w)], [.inr (.inr (mu_r H 92 0))], H)) (C := [mu_is H (some 92) 12]) rfl (show mu_is H (some 92) 12 from h.1.is rfl) ?_
        rw [(h.1.r (p := 92) (j := 0) (q := 93) rfl)]
        refine mw_go mu_g174 (k := 2) (f1 := (65, [(3, .inl x), (4, .inl y), (0, .inr (.inr (some 92))), (1, .inl v), (2, .inl w)], [.inl (4 : Int32), .inl x, .inr (.inr (some 93))], H)) (C := []) rfl trivial ?_
        refine mw_cIe (fun _ => rfl) (show mu_is H (some 93) 10 from h.1.is rfl) (dm.getr (d := d) h hX (j := 19) (by decide) rfl x (c := 4) (by decide)) ?_
        refine mw_go mu_g174 (k := 3) (f1 := (15, [(4, .inl (y + 1)), (3, .inl (tget (X 19) x 4)), (0, .inr (.inr (some 92))), (1, .inl v), (2, .inl w)], [], H)) (C := []) rfl trivial ?_
        exact mw_sub (by simp) (ih ((tget (X 19) x 4), (y + 1)) (show okr (X 19) (tget (X 19) x 4) from (okr_next hb hx h3 hMC.2)) (by show (2147483647 - (y + 1).toInt).toNat < (2147483647 - y.toInt).toNat; omega))
  · -- 75: not y < (nI (X 19).1)
    refine mw_go mu_g174 (k := 1) (f1 := (76, [(3, .inl x), (4, .inl y), (0, .inr (.inr (some 92))), (1, .inl v), (2, .inl w)], [.inl (-1 : Int32)], H)) (C := []) rfl trivial ?_
    exact mw_of (fun _ => mu_ret rfl trivial ⟨_, _, rfl, Or.inl ⟨rfl, rfl⟩⟩)
theorem so_kindOf2 (h : dm m H) (hX : ak m H = X) (v : Int32) : mu_TI (mu_D (d + 2)) 175 [.inr (.inr (some 92)), .inl v] H (fun x H1 => x = kdo (X 19) v ∧ H1 = H) := by
  refine mu_meth (M := mu_m175) rfl rfl ?_
  refine mw_ht (mu_fn_of (show [0, 1].Nodup by decide)) ?_
  refine mw_go mu_g175 (k := 1) (f1 := (1, [(0, .inr (.inr (some 92))), (1, .inl v)], [.inl v], H)) (C := []) rfl trivial ?_
  refine mw_if (P := v < 0) (a := 4) (b := 8) (fun _ => rfl) trivial (fun h1 => ?_) (fun h1 => ?_)
  · -- 4: v < 0
    refine mw_go mu_g175 (k := 2) (f1 := (17, [(0, .inr (.inr (some 92))), (1, .inl v)], [.inl (0 : Int32)], H)) (C := []) rfl trivial ?_
    exact mw_of (fun _ => mu_ret rfl trivial ⟨_, _, rfl, (if_pos h1).symm, rfl⟩)
  · -- 8: not v < 0
    refine mw_go mu_g175 (k := 2) (f1 := (12, [(0, .inr (.inr (some 92))), (1, .inl v)], [.inr (.inr (mu_r H 92 0))], H)) (C := [mu_is H (some 92) 12]) rfl (show mu_is H (some 92) 12 from h.1.is rfl) ?_
    rw [(h.1.r (p := 92) (j := 0) (q := 93) rfl)]
    refine mw_go mu_g175 (k := 2) (f1 := (14, [(0, .inr (.inr (some 92))), (1, .inl v)], [.inl (2 : Int32), .inl v, .inr (.inr (some 93))], H)) (C := []) rfl trivial ?_
    refine mw_cIe (fun _ => rfl) (show mu_is H (some 93) 10 from h.1.is rfl) (dm.getr (d := d) h hX (j := 19) (by decide) rfl v (c := 2) (by decide)) ?_
    exact mw_of (fun _ => mu_ret rfl trivial ⟨_, _, rfl, (if_neg h1).symm, rfl⟩)
theorem so_rowOf2 (h : dm m H) (hX : ak m H = X) (v : Int32) : mu_TI (mu_D (d + 2)) 176 [.inr (.inr (some 92)), .inl v] H (fun x H1 => x = rwo (X 19) v ∧ H1 = H) := by
  refine mu_meth (M := mu_m176) rfl rfl ?_
  refine mw_ht (mu_fn_of (show [0, 1].Nodup by decide)) ?_
  refine mw_go mu_g176 (k := 1) (f1 := (1, [(0, .inr (.inr (some 92))), (1, .inl v)], [.inl v], H)) (C := []) rfl trivial ?_
  refine mw_if (P := v < 0) (a := 4) (b := 8) (fun _ => rfl) trivial (fun h1 => ?_) (fun h1 => ?_)
  · -- 4: v < 0
    refine mw_go mu_g176 (k := 2) (f1 := (17, [(0, .inr (.inr (some 92))), (1, .inl v)], [.inl (-1 : Int32)], H)) (C := []) rfl trivial ?_
    exact mw_of (fun _ => mu_ret rfl trivial ⟨_, _, rfl, (if_pos h1).symm, rfl⟩)
  · -- 8: not v < 0
    refine mw_go mu_g176 (k := 2) (f1 := (12, [(0, .inr (.inr (some 92))), (1, .inl v)], [.inr (.inr (mu_r H 92 0))], H)) (C := [mu_is H (some 92) 12]) rfl (show mu_is H (some 92) 12 from h.1.is rfl) ?_
    rw [(h.1.r (p := 92) (j := 0) (q := 93) rfl)]
    refine mw_go mu_g176 (k := 2) (f1 := (14, [(0, .inr (.inr (some 92))), (1, .inl v)], [.inl (3 : Int32), .inl v, .inr (.inr (some 93))], H)) (C := []) rfl trivial ?_
    refine mw_cIe (fun _ => rfl) (show mu_is H (some 93) 10 from h.1.is rfl) (dm.getr (d := d) h hX (j := 19) (by decide) rfl v (c := 3) (by decide)) ?_
    exact mw_of (fun _ => mu_ret rfl trivial ⟨_, _, rfl, (if_neg h1).symm, rfl⟩)
theorem so_add2 (h : dm m H) (hI : SI m X H) (a1 a2 a3 a4 : Int32) (hk : okm (ak m H) a1 a3 a4) (hC : 10 * ((ak m H 19).1 + 1) + 5 ≤ C 19) (hC8 : C 19 ≤ 8388608) : mu_TI (mu_D (d + 4)) 178 [.inr (.inr (some 92)), .inl a1, .inl a2, .inl a3, .inl a4] H (fun x H1 => (x = 0 ∨ x = 1) ∧ dm m H1 ∧ rl m C H H1 ∧ SI m X H1 ∧ (∀ j, j ≠ 19 → ak m H1 j = ak m H j) ∧ (ak m H1 19).1 ≤ (ak m H 19).1 + 1) := by
  have hb := h.lt rfl (j := 19) (by decide)
  refine mu_meth (M := mu_m178) rfl rfl ?_
  refine mw_ht (mu_fn_of (show [0, 1, 2, 3, 4].Nodup by decide)) ?_
  refine mw_go mu_g178 (k := 3) (f1 := (3, [(0, .inr (.inr (some 92))), (1, .inl a1), (2, .inl a2), (3, .inl a3), (4, .inl a4)], [.inl a2, .inl a1, .inr (.inr (some 92))], H)) (C := []) rfl trivial ?_
  refine mw_cI (fun _ => rfl) (show mu_is H (some 92) 12 from h.1.is rfl) (so_find2 (d := (d + 1)) h rfl hI.1 a1 a2) (fun x1 H1 q1 => ?_)
  rcases q1 with ⟨rfl, rfl⟩ | ⟨r, hr, rfl, e0, e1, rfl⟩
  · -- (-1 : Int32)
    refine mw_if (P := (-1 : Int32) < 0) (a := 11) (b := 9) (fun _ => rfl) trivial (fun h2 => ?_) (fun h2 => absurd (by decide) h2)
    refine mw_go mu_g178 (k := 3) (f1 := (14, [(0, .inr (.inr (some 92))), (1, .inl a1), (2, .inl a2), (3, .inl a3), (4, .inl a4)], [.inl a2, .inl a1, .inr (.inr (some 92))], H)) (C := []) rfl trivial ?_
    refine mw_cI (fun _ => rfl) (show mu_is H (some 92) 12 from h.1.is rfl) (so_hash (d := (d + 2)) h.1 a1 a2) (fun x3 H3 q3 => ?_)
    obtain ⟨rfl, hd, hhd, rfl⟩ := q3
    refine mw_go mu_g178 (k := 3) (f1 := (23, [(5, .inl (nI hd)), (0, .inr (.inr (some 92))), (1, .inl a1), (2, .inl a2), (3, .inl a3), (4, .inl a4)], [.inr (.inr (mu_r H 92 0))], H)) (C := [mu_is H (some 92) 12]) rfl (show mu_is H (some 92) 12 from h.1.is rfl) ?_
    rw [(h.1.r (p := 92) (j := 0) (q := 93) rfl)]
    refine mw_go mu_g178 (k := 4) (f1 := (28, [(5, .inl (nI hd)), (0, .inr (.inr (some 92))), (1, .inl a1), (2, .inl a2), (3, .inl a3), (4, .inl a4)], [.inl a4, .inl a3, .inl a2, .inl a1, .inr (.inr (some 93))], H)) (C := []) rfl trivial ?_
    refine mw_cI (fun _ => rfl) (show mu_is H (some 93) 10 from h.1.is rfl) (dm.putr (C := C) (d := d) h rfl (j := 19) (by decide) rfl a1 a2 a3 a4 (show 2 * (((ak m H 19).1 + 1) * 5) + 5 ≤ C 19 by omega) hC8) (fun x4 H4 q4 => ?_)
    obtain ⟨rfl, hp4, qt4, ha4, qh4⟩ := q4
    have ht4 := (rl.refl m C H).trans qt4
    refine mw_go mu_g178 (k := 3) (f1 := (37, [(6, .inl (nI ((ak m H) 19).1)), (5, .inl (nI hd)), (0, .inr (.inr (some 92))), (1, .inl a1), (2, .inl a2), (3, .inl a3), (4, .inl a4)], [.inr (.inr (mu_r H4 92 0))], H4)) (C := [mu_is H4 (some 92) 12]) rfl (show mu_is H4 (some 92) 12 from hp4.1.is rfl) ?_
    rw [(hp4.1.r (p := 92) (j := 0) (q := 93) rfl)]
    refine mw_go mu_g178 (k := 4) (f1 := (44, [(6, .inl (nI ((ak m H) 19).1)), (5, .inl (nI hd)), (0, .inr (.inr (some 92))), (1, .inl a1), (2, .inl a2), (3, .inl a3), (4, .inl a4)], [.inr (.inr (mu_r H4 92 1)), .inl (4 : Int32), .inl (nI ((ak m H) 19).1), .inr (.inr (some 93))], H4)) (C := [mu_is H4 (some 92) 12]) rfl (show mu_is H4 (some 92) 12 from hp4.1.is rfl) ?_
    rw [(hp4.1.r (p := 92) (j := 1) (q := 95) rfl)]
    refine mw_go mu_g178 (k := 2) (f1 := (47, [(6, .inl (nI ((ak m H) 19).1)), (5, .inl (nI hd)), (0, .inr (.inr (some 92))), (1, .inl a1), (2, .inl a2), (3, .inl a3), (4, .inl a4)], [.inl (mu_i H4 95 (nI hd).toNatClampNeg), .inl (4 : Int32), .inl (nI ((ak m H) 19).1), .inr (.inr (some 93))], H4)) (C := [mu_isr H4 (some 95) 100, vp_in (nI hd) (mu_n H4 95)]) rfl (show (mu_isr H4 (some 95) 100) ∧ (vp_in (nI hd) (mu_n H4 95)) from ⟨((hp4.1.a (p := 95) (x := (100, 512)) rfl).1).r, (by rw [(hp4.1.a (p := 95) (x := (100, 512)) rfl).2]; exact vp_in_nI hhd (by decide))⟩) ?_
    refine mw_cV (fun _ => rfl) (show mu_is H4 (some 93) 10 from hp4.1.is rfl) (dm.setr (C := C) (d := (d + 2)) hp4 ha4 (j := 19) (by decide) rfl (nI ((ak m H) 19).1) (mu_i H4 95 (nI hd).toNatClampNeg) (c := 4) (by decide)) (fun H5 q5 => ?_)
    obtain ⟨hp5, qt5, ha5, qh5⟩ := q5
    have ht5 := ht4.trans qt5
    refine mw_go mu_g178 (k := 2) (f1 := (54, [(6, .inl (nI ((ak m H) 19).1)), (5, .inl (nI hd)), (0, .inr (.inr (some 92))), (1, .inl a1), (2, .inl a2), (3, .inl a3), (4, .inl a4)], [.inr (.inr (mu_r H5 92 1))], H5)) (C := [mu_is H5 (some 92) 12]) rfl (show mu_is H5 (some 92) 12 from hp5.1.is rfl) ?_
    rw [(hp5.1.r (p := 92) (j := 1) (q := 95) rfl)]
    refine mw_go mu_g178 (k := 2) (f1 := (58, [(6, .inl (nI ((ak m H) 19).1)), (5, .inl (nI hd)), (0, .inr (.inr (some 92))), (1, .inl a1), (2, .inl a2), (3, .inl a3), (4, .inl a4)], [.inl (nI ((ak m H) 19).1), .inl (nI hd), .inr (.inr (some 95))], H5)) (C := []) rfl trivial ?_
    refine mw_go mu_g178 (k := 1) (f1 := (59, [(6, .inl (nI ((ak m H) 19).1)), (5, .inl (nI hd)), (0, .inr (.inr (some 92))), (1, .inl a1), (2, .inl a2), (3, .inl a3), (4, .inl a4)], [], (mu_si H5 95 (nI hd).toNatClampNeg (nI ((ak m H) 19).1)))) (C := [mu_is H5 (some 95) 100, vp_in (nI hd) (mu_n H5 95)]) rfl ⟨(hp5.1.a (p := 95) (x := (100, 512)) rfl).1, (by rw [(hp5.1.a (p := 95) (x := (100, 512)) rfl).2]; exact vp_in_nI hhd (by decide))⟩ ?_
    obtain ⟨hp9, qt9, qa9⟩ := hp5.head (C := C) (k := (nI hd).toNatClampNeg) (y := (nI ((ak m H) 19).1))
    have ht9 := ht5.trans qt9
    have ha9 : ak m (mu_si H5 95 (nI hd).toNatClampNeg (nI ((ak m H) 19).1)) = (ax 19 (ap 19 (ak m H) a1 a2 a3 a4) (nI ((ak m H) 19).1) 4 (mu_i H4 95 (nI hd).toNatClampNeg)) := qa9.trans ha5
    refine mw_go mu_g178 (k := 1) (f1 := (60, [(6, .inl (nI ((ak m H) 19).1)), (5, .inl (nI hd)), (0, .inr (.inr (some 92))), (1, .inl a1), (2, .inl a2), (3, .inl a3), (4, .inl a4)], [.inl (1 : Int32)], (mu_si H5 95 (nI hd).toNatClampNeg (nI ((ak m H) 19).1)))) (C := []) rfl trivial ?_
    have hy : okr (ak m H 19) (mu_i H4 95 (nI hd).toNatClampNeg) := by rw [nI_clamp (by omega), qh4]; exact hI.1.1 hd hhd
    have h95 : ∀ i, mu_i H5 95 i = mu_i H 95 i := fun i => (qh5 i).trans (qh4 i)
    refine mw_of (fun _ => mu_ret rfl (Or.inr rfl) ⟨_, (mu_si H5 95 (nI hd).toNatClampNeg (nI ((ak m H) 19).1)), rfl, Or.inr rfl, hp9, ht9, ⟨?_, ?_, ?_⟩, ?_, ?_⟩)
    · rw [ha9]; exact hI.1.more (by omega) hy h95
    · rw [ha9]; exact hI.2.1.more (by omega) hk
    · rw [ha9]; exact hI.2.2.trans (eqc.same (fun j hj => mem_ne (by omega)))
    · intro j hj; rw [ha9]; exact mem_ne hj
    · rw [ha9, mem_n]; exact Nat.le_refl _
  · -- (nI r)
    refine mw_if (P := (nI r) < 0) (a := 11) (b := 9) (fun _ => rfl) trivial (fun h6 => ?_) (fun h6 => ?_)
    · -- 11: (nI r) < 0
      exact absurd h6 (nI_pos (by omega))
    · -- 9: not (nI r) < 0
      refine mw_go mu_g178 (k := 1) (f1 := (10, [(0, .inr (.inr (some 92))), (1, .inl a1), (2, .inl a2), (3, .inl a3), (4, .inl a4)], [.inl (0 : Int32)], H)) (C := []) rfl trivial ?_
      exact mw_of (fun _ => mu_ret rfl (Or.inl rfl) ⟨_, _, rfl, Or.inl rfl, h, rl.refl m C H, hI, fun _ _ => rfl, Nat.le_succ _⟩)
end SoundFind
