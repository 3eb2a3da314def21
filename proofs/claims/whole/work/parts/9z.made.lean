/-! A MODEL THAT IS WELL FORMED, HAS GROWN AND KNOWS ITS NAMES -/
section Made
variable {X Y Z W s : Ts} {T k a b : Nat} {m : Nat} {H : mu_H} {kd : Bool}
theorem FY.mk (hc : CT X) (e : eqc X Y) {x : Int32} (hl : WL X Y x) (hb : ∀ j, j < 11 → (Y j).1 ≤ 67108864) : FY Y := ⟨hc.eqs e, hl.2.1, hl.2.2.2.1, fun k hk => hl.2.2.2.2 k (by rw [← e.1 1 (by decide)]; exact hk), hb⟩
theorem fz.okm (h : fz Y Z) {w kind x : Int32} (ho : okm Y w kind x) : okm Z w kind x := by
  obtain ⟨h1, h2⟩ := ho
  have n1 := h.2.1
  have t3 := h.1 3 (by decide) (by decide)
  refine ⟨fun e => ?_, fun q hq e => ?_⟩
  · rw [n1]; exact h1 e
  · rw [n1] at hq
    rw [h.spc (by decide), h.spc (by decide), h.spc (by decide), h.spc (by decide), h.spc (by decide), h.spc (by decide), t3]
    exact h2 q hq e
theorem fz.cm (h : fz Y Z) (hc : Cm Y) : Cm Z := fun k hk c h1 h6 => by
  have ht := tabc_lt h6
  have hn1 : tabc c ≠ 1 := (show ∀ c, c ≤ 6 → tabc c ≠ 1 by decide) c h6
  rw [h.2.1] at hk
  rw [h.spc h6, h.spc h6, h.1 _ hn1 (Or.inl ht), h.2.2 k c (by omega)]
  exact hc k hk c h1 h6
theorem KZ.mk (hF : FY Y) (h : fz Y Z) (hB : MB Y) : KZ Z := by
  have t3 := h.1 3 (by decide) (by decide)
  have t9 := h.1 9 (by decide) (by decide)
  have t10 := h.1 10 (by decide) (by decide)
  have t19 := h.1 19 (by decide) (by decide)
  refine ⟨h.cm hF.1.1, fun k hk v h1 h2 z => ?_, fun r hr => ?_, fun j hj => ?_, fun r hr => ?_⟩
  · rw [h.2.1] at hk
    rw [h.spc (by decide)] at h1 h2
    rw [t3] at z
    obtain ⟨c, c1, c2, c3⟩ := hF.2.1 k hk v h1 h2 z
    exact ⟨c, by rw [h.2.1]; exact c1, by rw [t3]; exact c2, by rw [t3, h.spc (by decide), h.spc (by decide)]; exact c3⟩
  · rw [t19] at hr ⊢
    exact h.okm (hB r hr)
  · by_cases h1 : j = 1
    · subst h1; rw [h.2.1]; exact hF.2.2.2.2 1 (by decide)
    · rw [h.1 j h1 (Or.inl hj)]; exact hF.2.2.2.2 j hj
  · rw [t9] at hr ⊢
    rw [t10]
    obtain ⟨a, l, e1, e2, e3, -, e5⟩ := hF.1.2.2.2.2.1 r hr
    exact ⟨a, l, e1, e2, e3, e5⟩
theorem rg_to (h0 : W 0 = Y 0) (h6 : ∀ k, sp W k 6 = sp Y k 6) (h : rg Y k kd a b) : rg W k kd a b := by
  unfold rg
  rw [h0, h6, h6]
  exact h
theorem wk_to {st : Tb} {q : Nat} (h1 : (W 1).1 = (Z 1).1) (h3 : W 3 = Z 3) (h2 : ∀ k, sp W k 2 = sp Z k 2) : ∀ {n q : Nat}, wk Z st k a n q → wk W st k a n q
  | 0, _, h => h
  | n + 1, q, h => by
    obtain ⟨q', v, a1, a2, a3, a4, a5, a6⟩ := h
    exact ⟨q', v, wk_to (q := q) h1 h3 h2 a1, by rw [h1]; exact a2, by rw [h2, h2]; exact a3, by rw [h3]; exact a4, by rw [h2]; exact a5, by rw [h3]; exact a6⟩
theorem JW.mk (hF : FY Y) (hG : GI Y Z T) (ho : (Z 18).1 = 0) (hk : kz Z W) (hK : ∀ q, q < (Z 1).1 → ¬ (Z 1).2 q 7 = 0 → ∀ r, sp Z q 6 ≤ r → r < sp Z (q + 1) 6 → KN Z W q r) (hb : ∀ j, j < 19 → (W j).1 ≤ 67108864) : JW W := by
  obtain ⟨g1, g2, g3, g4, ⟨g5, g5', gu⟩, g6, -⟩ := hG
  have wz : ∀ j, j ≠ 9 → j ≠ 10 → W j = Z j := hk.1
  have w0 : W 0 = Y 0 := (wz 0 (by decide) (by decide)).trans (g1.1 0 (by decide) (by decide))
  have w1 : W 1 = Z 1 := wz 1 (by decide) (by decide)
  have w3 : W 3 = Y 3 := (wz 3 (by decide) (by decide)).trans (g1.1 3 (by decide) (by decide))
  have w3z : W 3 = Z 3 := wz 3 (by decide) (by decide)
  have w11 := wz 11 (by decide) (by decide)
  have w12 := wz 12 (by decide) (by decide)
  have w13 := wz 13 (by decide) (by decide)
  have w15 := wz 15 (by decide) (by decide)
  have w16 := wz 16 (by decide) (by decide)
  have w17 := wz 17 (by decide) (by decide)
  have spz : ∀ k c, c ≤ 6 → sp W k c = sp Z k c := fun k c hc => by
    by_cases h6 : c = 6
    · subst h6
      unfold sp
      rw [w1, show (W (tabc 6)).1 = (Z (tabc 6)).1 from hk.2.1]
    · exact hk.spc (by omega)
  have spy : ∀ k c, c ≤ 6 → sp W k c = sp Y k c := fun k c hc => (spz k c hc).trans (g1.spc hc)
  have hm : ∀ i, im W i = im Z i := fun i => by unfold im; rw [w11]
  have ha : ∀ i, ia W i = ia Z i := fun i => by unfold ia; rw [w11]
  have he : ∀ i, ie W i = ie Z i := fun i => by unfold ie; rw [w11]
  have n1 : ∀ k, np W k = np Y k := fun k => by unfold np; rw [spy _ _ (by decide), spy _ _ (by decide)]
  have n2 : ∀ k, nv W k = nv Y k := fun k => by unfold nv; rw [spy _ _ (by decide), spy _ _ (by decide)]
  have n3 : ∀ k, ndU W k = ndU Y k := fun k => by unfold ndU; rw [spy _ _ (by decide), spy _ _ (by decide)]
  have w11' : (W 1).1 = (Y 1).1 := by rw [w1]; exact g1.2.1
  have rgw : ∀ k kd a b, rg Y k kd a b → rg W k kd a b := fun k kd a b h => rg_to w0 (fun k => spy k 6 (by decide)) h
  refine ⟨fun i hi => ?_, fun i hi v h1 h2 => ?_, fun e hx => ?_, ⟨fun r hr => ?_, fun r hr => ?_⟩, fun i hi r h1 h2 => ?_, ⟨?_, fun p hp => ?_⟩, hb⟩
  · rw [w11] at hi
    rw [hm i, ha i, he i, n1, n2, n3, w11', w11, w12, w13]
    obtain ⟨q1, q2, q3, q4, q5⟩ := g2 i hi
    exact ⟨q1, q2, q3, q4, fun i' a1 a2 => by rw [ha]; exact q5 i' a1 a2⟩
  · rw [w11] at hi
    rw [hm, spy _ _ (by decide)] at h1 h2
    rw [ha, hm, spy _ _ (by decide), w12]
    rcases g3 i hi v h1 h2 with z | ⟨r, z1, -⟩
    · refine ⟨fun y => ?_, fun y => ?_⟩
      · rw [w3] at y
        obtain ⟨q, a1, a2, a3⟩ := z.1 y
        exact ⟨q, by rw [w11]; exact a1, a2, by rw [hm, w3]; exact a3⟩
      · rw [w3] at y
        rw [w15]
        exact z.2 y
    · omega
  · rw [w13] at hx ⊢
    obtain ⟨⟨a, b, q, y1, y2, y3, y4, y5⟩, y6⟩ := g4 e hx
    exact ⟨⟨a, b, q, y1, y2, y3, by rw [w11]; exact y4, by rw [hm]; exact rgw _ _ _ _ y5⟩, y6⟩
  · rw [w16] at hr ⊢
    obtain ⟨a, b, q, y1, y2, y3, y4, y5⟩ := g5 r hr
    exact ⟨a, b, q, y1, y2, y3, by rw [w11]; exact y4, by rw [hm]; exact rgw _ _ _ _ y5⟩
  · rw [w17] at hr ⊢
    obtain ⟨a, b, q, y1, y2, y3, y4, y5⟩ := g5' r hr
    exact ⟨a, b, q, y1, y2, y3, by rw [w11]; exact y4, by rw [hm]; exact rgw _ _ _ _ y5⟩
  · rw [w11] at hi
    rw [hm, spz _ _ (by decide)] at h1 h2
    rw [hm]
    have hkm := (g2 i hi).2.1
    obtain ⟨a, l, q, k1, k2, k3, k4, k5, k6⟩ := hK (im Z i) (by rw [g1.2.1]; exact hkm) (gu.1 i hi) r h1 h2
    refine ⟨a, l, q, by rw [hk.2.2.1 r 0 (by decide)]; exact k1, by rw [hk.2.2.1 r 1 (by decide)]; exact k2, by rw [hk.2.2.2]; exact k3, by rw [w1]; exact k4, wk_to (q := q) (by rw [w1]) w3z (fun k => spz k 2 (by decide)) k5, ?_⟩
    unfold kn at k6 ⊢
    rw [spz _ _ (by decide), spz _ _ (by decide), spz _ _ (by decide), spz _ _ (by decide), spz _ _ (by decide), spz _ _ (by decide), w3z]
    exact k6
  · intro k hk2 c h1 h6
    have ht := tabc_lt h6
    have hn1 : tabc c ≠ 1 := (show ∀ c, c ≤ 6 → tabc c ≠ 1 by decide) c h6
    have hz := g1.cm hF.1.1 k (by rw [w1] at hk2; exact hk2) c h1 h6
    have e1 : (W (tabc c)).1 = (Z (tabc c)).1 := by
      by_cases h9 : c = 6
      · subst h9; exact hk.2.1
      · have hx : tabc c ≠ 9 ∧ tabc c ≠ 10 := (show ∀ c, c ≤ 5 → tabc c ≠ 9 ∧ tabc c ≠ 10 by decide) c (by omega)
        rw [wz _ hx.1 hx.2]
    rw [spz _ _ h6, spz _ _ h6, w1, e1]
    exact hz
  · rw [w0] at hp ⊢
    exact hF.1.2.1 p hp
theorem VO.init (hW : Ge W W) (z14 : (W 14).1 = 0) : VO W (ac 20 W 0) := by
  have ta : ∀ j, j ≠ 20 → ac 20 W 0 j = W j := fun j hj => fu_ne _ _ hj
  have n20 : (ac 20 W 0 20).1 = 0 := by unfold ac; rw [fu_at]; rfl
  refine ⟨⟨fun j _ _ h3 => ta j h3, by rw [ta 13 (by decide)], fun i c _ => by rw [ta 13 (by decide)]⟩, fun e he => Or.inl ?_, fun r hr => ?_, fun r hr => ?_, ?_, ?_⟩
  · unfold sn
    rw [ta 13 (by decide)]
    exact (hW e he).2
  · rw [ta 14 (by decide)] at hr; omega
  · omega
  · rw [ta 14 (by decide), z14]; exact Nat.zero_le _
  · rw [n20]; exact Nat.zero_le _
theorem CU.row (h : CU s) (hm : 1 ≤ (s 1).1) {c i : Nat} (h1 : 1 ≤ c) (h6 : c ≤ 6) (hi : i < (s (tabc c)).1) : ∃ k, k < (s 1).1 ∧ sp s k c ≤ i ∧ i < sp s (k + 1) c := by
  have h0 : sp s 0 c = 0 := by
    unfold sp
    rw [if_pos (by omega), h.2.2.1.2.2.2 hm c h1 h6]
    rfl
  exact cover h0 (s 1).1 (by unfold sp; rw [if_neg (Nat.lt_irrefl _)]; exact hi)
theorem CU.cr8 (h : CU s) (hm : 1 ≤ (s 1).1) {i : Nat} (hi : i < (s 8).1) : ∃ a b, (s 8).2 i 1 = nI a ∧ (s 8).2 i 2 = nI b ∧ a ≤ (s 0).1 ∧ b ≤ (s 0).1 := by
  obtain ⟨k, hk, h3, h4⟩ := h.row hm (c := 5) (i := i) (by decide) (by decide) hi
  obtain ⟨a, b, f1, f2, f3⟩ := h.2.2.1.1 k hk i h3 h4
  have g1 := f3.1
  have g2 := f3.2.1
  exact ⟨a, b, f1, f2, by omega, g2⟩
theorem CU.cr7 (h : CU s) (hm : 1 ≤ (s 1).1) {i : Nat} (hi : i < (s 7).1) : ∃ a b, (s 7).2 i 2 = nI a ∧ (s 7).2 i 3 = nI b ∧ a ≤ (s 0).1 ∧ b ≤ (s 0).1 := by
  obtain ⟨k, hk, h3, h4⟩ := h.row hm (c := 4) (i := i) (by decide) (by decide) hi
  obtain ⟨a, b, f1, f2, f3⟩ := h.2.2.1.2.2.1 k hk i h3 h4
  have g1 := f3.1
  have g2 := f3.2.1
  exact ⟨a, b, f1, f2, by omega, g2⟩
/-- a column that holds places in the code, as Judge's methods want it -/
theorem cr_ak {j c : Nat} (hj : j < 19) (hc : c < ps_W j) (h : ∀ i, i < (ak m H j).1 → ∃ f, f ≤ (ak m H 0).1 ∧ (ak m H j).2 i c = nI f) : cr m H (m + 1 + 2 * j) (ps_W j) c := fun i hi => by
  have e : ra m j = m + 1 + 2 * j := by unfold ra; rw [if_pos hj]
  have ew : wa j = ps_W j := (show ∀ j, j < 19 → wa j = ps_W j by decide) j hj
  have n0 : (ak m H 0).1 = gi_sz H (m + 1) := ak_n (j := 0) (by decide)
  obtain ⟨f, h1, h2⟩ := h i (by rw [ak_n (by omega), e]; exact hi)
  refine ⟨f, by omega, ?_⟩
  have z := gT_c (H := H) (R := ra m) (W := wa) (N := 28) (j := j) (i := i) (c := c) (by omega) (by rw [e]; exact hi) (by rw [ew]; exact hc)
  rw [e, ew] at z
  rw [← z]
  exact h2
theorem ck_ak (h : Cc (ak m H)) : ck m H := by
  intro i hi
  have n0 : (ak m H 0).1 = gi_sz H (m + 1) := ak_n (j := 0) (by decide)
  have e0 : (ak m H 0).2 i 0 = cel H (m + 1) (i * 2 + 0) := gT_c (R := ra m) (W := wa) (N := 28) (j := 0) (by decide) hi (by decide)
  have e1 : (ak m H 0).2 i 1 = cel H (m + 1) (i * 2 + 1) := gT_c (R := ra m) (W := wa) (N := 28) (j := 0) (by decide) hi (by decide)
  obtain ⟨k, k1, k2, k3, k4⟩ := h i (by rw [n0]; exact hi)
  rw [e0] at k2
  rw [e1] at k3 k4
  have k2' : cel H (m + 1) (i * 2) = nI k := k2
  have ec : (nI k).toNatClampNeg = k := nI_clamp (by omega)
  refine ⟨⟨k, by omega, k2'⟩, fun z => k4 ?_⟩
  rw [k2'] at z
  rcases z with z | z | z | z
  · rw [z] at ec
    have : k = 30 := ec.symm
    omega
  · rw [z] at ec
    have : k = 33 := ec.symm
    omega
  · rw [z] at ec
    have : k = 31 := ec.symm
    omega
  · rw [z] at ec
    have : k = 34 := ec.symm
    omega
end Made
