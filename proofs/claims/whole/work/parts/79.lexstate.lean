/-! THE LEXER'S STATE: words and letters; steps on it -/
section LexState
variable {H H1 H2 : mu_H} {S : Nat → Bool}
/-- ints of one cell that is no Rows have changed -/
theorem gi.onl2 {q : Nat} (h : gi H) (ho : mu_onl H H1 q) (hr0 : ∀ r W, gi_w r = some W → r ≠ q) (hb : mu_k H q = 101 → ∀ i, i < mu_n H q → fits .byte (.int (mu_i H1 q i)) = true) : gi H1 := by
  obtain ⟨o1, o2, o3, o4⟩ := ho
  have ek : ∀ p, mu_k H1 p = mu_k H p := fun p => congrFun o1 p
  have en : ∀ p, mu_n H1 p = mu_n H p := fun p => congrFun o2 p
  have er : ∀ p i, mu_r H1 p i = mu_r H p i := fun p i => by unfold mu_r; rw [o4]
  have ez : mu_z H1 = mu_z H := by unfold mu_z; rw [o4]
  have elen : ∀ t, gi_len H1 t = gi_len H t := fun t => by unfold gi_len; rw [er, en]
  have eSL : gi_SL H1 = gi_SL H := by unfold gi_SL; simp only [elen]
  obtain ⟨a, b, c, e, f, g, i, ⟨x1, x2, x3⟩, x4, x5⟩ := h
  have his : ∀ o k, mu_is H o k → mu_is H1 o k := fun o k z => ⟨z.1, by rw [ez]; exact z.2.1, by rw [ek]; exact z.2.2⟩
  refine ⟨by rw [ez, eSL]; exact a, fun p k hp => by rw [ek]; exact b p k hp, fun p j q hp => by rw [er]; exact c p j q hp, fun r W hr => ?_, fun p j hp => by rw [er]; exact his _ _ (f p j hp), fun p j p' j' h1 h2 h3 => g p j p' j' h1 h2 (by rw [er, er] at h3; exact h3), fun p x hp => by rw [ek, en]; exact i p x hp, ⟨by rw [er]; exact his _ _ x1, by rw [er]; exact his _ _ x2, by rw [er, er]; exact x3⟩, fun t ht => by rw [elen]; exact x4 t ht, fun p j hp hk2 hj => ?_⟩
  · obtain ⟨⟨e1, e2, e3, e4, e5, e6⟩, e7⟩ := e r W hr
    have hrq := hr0 r W hr
    have hs : gi_sz H1 r = gi_sz H r := congrArg Int32.toNatClampNeg (o3 r 2 hrq)
    have hc : gi_cap H1 r = gi_cap H r := by unfold gi_cap; rw [er, en]
    rw [hs, hc]
    exact ⟨⟨his _ _ e1, by rw [er]; exact his _ _ e2, by rw [o3 r 0 hrq]; exact e3, by rw [o3 r 2 hrq]; exact e4, by rw [er, en]; exact e5, e6⟩, e7⟩
  · rw [ez] at hp
    rw [ek] at hk2
    rw [en] at hj
    by_cases hpq : p = q
    · rw [hpq] at hj hk2 ⊢
      exact hb hk2 j hj
    · rw [o3 p j hpq]; exact x5 p j hp hk2 hj
theorem gk.onlo {p k : Nat} (h : gi H) (ho : mu_onl H H1 p) (hp : gi_k p = some k) (hS : S p = true) : gk S H H1 := by
  have er : ∀ p i, mu_r H1 p i = mu_r H p i := fun p i => by unfold mu_r; rw [ho.2.2.2]
  have en : ∀ p, mu_n H1 p = mu_n H p := fun p => congrFun ho.2.1 p
  have elen : ∀ t, gi_len H1 t = gi_len H t := fun t => by unfold gi_len; rw [er, en]
  have eSL : gi_SL H1 = gi_SL H := by unfold gi_SL; simp only [elen]
  have eSC : gi_SC H1 = gi_SC H := gi_sum_eq gi_al (fun t _ => elen t)
  have ez : mu_z H1 = mu_z H := by unfold mu_z; rw [ho.2.2.2]
  have ec : mu_c H1 = mu_c H := by unfold mu_c; rw [ho.2.2.2]
  have es : mu_s H1 = mu_s H := by unfold mu_s; rw [ho.2.2.2]
  have hk : mu_k H p = k := h.2.1 p k hp
  have hk2 := gi_k_ok hp
  refine ⟨⟨Nat.le_of_eq ez.symm, Nat.le_of_eq ec.symm, Nat.le_of_eq es.symm⟩, fun p _ => ⟨congrFun ho.1 p, congrFun ho.2.1 p⟩, fun q k' hq hs => ho.same (fun e => by rw [e, hS] at hs; cases hs), fun q i hq hs => ho.same (fun e => ?_), fun q hq hkq => ho.same (fun e => by rw [e] at hkq; omega), fun q hq hn => ho.same (fun e => hn (Or.inl (by omega))), fun q hq => Or.inl ?_, ?_⟩
  · have h1 := (h.o hq).2.2
    rw [e] at h1
    omega
  · rcases hq with z | ⟨a, i, z1, z2⟩
    · exact Or.inl z
    · exact Or.inr ⟨a, i, z1, by rw [er] at z2; exact z2⟩
  · rw [ez, ec, es, eSL, eSC]
    exact ⟨Nat.le_refl _, Nat.le_refl _, Nat.le_refl _⟩
def ls_S (p : Nat) : Bool := decide (p = 81 ∨ p = 82 ∨ p = 86)
/-- the words lie among the letters -/
def lw (H : mu_H) : Prop := gi H ∧ mu_i H 81 8 = nI (lu H) ∧ lu H ≤ mu_n H (lt7 H) ∧ (∀ w, w < gi_sz H 86 → ∃ s l, cel H 86 (w * 4) = nI s ∧ cel H 86 (w * 4 + 1) = nI l ∧ s + l ≤ mu_n H (lt7 H))
/-- what one step of the Lexer leaves: its fields but for how many letters are used, its TOKENS; what grows -/
def lf (H H1 : mu_H) : Prop := lk ls_S H H1 ∧ (∀ j, j ≠ 7 → mu_r H1 81 j = mu_r H 81 j) ∧ (∀ j, j ≠ 8 → mu_i H1 81 j = mu_i H 81 j) ∧ (mu_same H H1 82 ∧ mu_same H H1 (mu_p (mu_r H 82 1))) ∧
  lu H ≤ lu H1 ∧ gi_sz H 86 ≤ gi_sz H1 86 ∧ mu_n H1 (lt7 H1) ≤ max (mu_n H (lt7 H)) (3 * lu H1) ∧ gi_cap H1 86 ≤ max (gi_cap H 86) (2 * (gi_sz H1 86 * 4) + 4)
theorem lf.refl (H : mu_H) : lf H H := ⟨lk.refl _ H, fun _ _ => rfl, fun _ _ => rfl, ⟨mu_same.refl H _, mu_same.refl H _⟩, Nat.le_refl _, Nat.le_refl _, Nat.le_max_left _ _, Nat.le_max_left _ _⟩
theorem lf.trans (h : lf H H1) (h' : lf H1 H2) : lf H H2 := by
  obtain ⟨a, b, c, ⟨e1, e2⟩, f, g, i, j⟩ := h
  obtain ⟨a', b', c', ⟨e1', e2'⟩, f', g', i', j'⟩ := h'
  refine ⟨a.trans a', fun j hj => (b' j hj).trans (b j hj), fun j hj => (c' j hj).trans (c j hj), ⟨e1.trans e1', ?_⟩, by omega, by omega, by omega, by omega⟩
  rw [e1.r] at e2'
  exact e2.trans e2'
theorem lw.g7 (h : gi H) : mu_is H (mu_r H 81 7) 101 := h.2.2.2.2.2.2.2.1.2.1
theorem lw.len (h : gi H) : 1 ≤ mu_n H (lt7 H) ∧ mu_n H (lt7 H) ≤ 16777216 := h.2.2.2.2.2.2.2.2.1 (81, 7) (List.mem_cons_of_mem _ List.mem_cons_self)
theorem lw.row (h : lw H) {w : Int32} {k : Nat} (hk : 0 < k) (h1 : rw_get H 86 4 (gi_sz H 86) w 1 = nI k) (hk2 : k < 2 ^ 31) : rw_get H 86 4 (gi_sz H 86) w 0 = nI (rw_get H 86 4 (gi_sz H 86) w 0).toNatClampNeg ∧ (rw_get H 86 4 (gi_sz H 86) w 0).toNatClampNeg + k ≤ mu_n H (lt7 H) := by
  have hn := rw_n (h.1.w (r := 86) (W := 4) rfl)
  have hlen := (lw.len h.1).2
  by_cases h0 : w < 0
  · have : rw_get H 86 4 (gi_sz H 86) w 1 = 0 := if_pos h0
    rw [this] at h1
    have := congrArg Int32.toNatClampNeg h1
    rw [nI_clamp hk2] at this
    have e : (0 : Int32).toNatClampNeg = 0 := rfl
    omega
  · obtain ⟨i, hi, rfl⟩ := nI_of h0
    by_cases hin : i < gi_sz H 86
    · obtain ⟨s, l, e1, e2, e3⟩ := h.2.2.2 i hin
      rw [rw_get_at hn hin (by decide), e2] at h1
      rw [rw_get_at hn hin (by decide), show cel H 86 (i * 4 + 0) = nI s from e1, nI_clamp (by omega)]
      have := congrArg Int32.toNatClampNeg h1
      rw [nI_clamp hk2, nI_clamp (by omega)] at this
      exact ⟨rfl, by omega⟩
    · have : rw_get H 86 4 (gi_sz H 86) (nI i) 1 = 0 := by
        unfold rw_get
        rw [if_neg h0, nI_clamp hi, if_neg (fun z => hin z.1)]
      rw [this] at h1
      have := congrArg Int32.toNatClampNeg h1
      rw [nI_clamp hk2] at this
      have e : (0 : Int32).toNatClampNeg = 0 := rfl
      omega
/-- other things have changed -/
theorem lw.of (h : lw H) (hg : gi H1) (hi : mu_i H1 81 8 = mu_i H 81 8) (h7 : mu_r H1 81 7 = mu_r H 81 7) (hn : mu_n H1 (lt7 H) = mu_n H (lt7 H)) (hs : gi_sz H1 86 = gi_sz H 86) (hc : ∀ i, cel H1 86 i = cel H 86 i) : lw H1 := by
  have e7 : lt7 H1 = lt7 H := by unfold lt7; rw [h7]
  have eu : lu H1 = lu H := by unfold lu; rw [hi]
  refine ⟨hg, by rw [hi, eu]; exact h.2.1, by rw [eu, e7, hn]; exact h.2.2.1, fun w hw => ?_⟩
  rw [hc, hc, e7, hn]
  exact h.2.2.2 w (by rw [← hs]; exact hw)
/-- a row of heads is written -/
theorem lw.heads (h : lw H) {i : Nat} {x : Int32} : lw (mu_si H 88 i x) ∧ lf H (mu_si H 88 i x) := by
  have hg := h.1
  have e88 : mu_r H 81 10 = some 88 := hg.r rfl
  have k88 : mu_k H 88 = 100 := (hg.a (p := 88) (x := (100, 256)) rfl).1.2.2
  have ho : mu_onl H (mu_si H 88 i x) 88 := (mu_onl.refl H 88).si i x
  have hgi : gi (mu_si H 88 i x) := hg.onl ho (Or.inl k88)
  have hlk : lk ls_S H (mu_si H 88 i x) := lk.onl (p := 81) (j := 10) hg (by rw [e88]; exact ho) rfl (Or.inl rfl)
  have hc : ∀ r W j, gi_w r = some W → cel (mu_si H 88 i x) r j = cel H r j := fun r W j hr => by
    show mu_i (mu_si H 88 i x) (mu_p (mu_r H r 1)) j = _
    have hne : mu_p (mu_r H r 1) ≠ 88 := fun e => by
      have h1 : mu_r H r 1 = mu_r H 81 10 := by rw [e88, ← e]; exact (hg.w hr).2.1.1
      have h2 := (hg.2.2.2.2.2.1 r 1 81 10 (gi_w_ok hr).2.2.2.2 rfl h1).1
      rw [h2] at hr
      cases hr
    rw [mu_i_si, if_neg (fun z => hne z.1)]
    rfl
  refine ⟨h.of hgi rfl rfl rfl rfl (fun j => hc 86 4 j rfl), hlk, fun _ _ => rfl, fun _ _ => rfl, ⟨mu_same_si (by decide), ?_⟩, Nat.le_refl _, Nat.le_refl _, Nat.le_max_left _ _, Nat.le_max_left _ _⟩
  refine mu_same_si (fun e => ?_)
  have h1 : mu_r H 82 1 = mu_r H 81 10 := by rw [e88, ← e]; exact (hg.w (r := 82) (W := 3) rfl).2.1.1
  have h2 := (hg.2.2.2.2.2.1 82 1 81 10 rfl rfl h1).1
  omega
/-- letters are laid down -/
theorem lw.lay (h : lw H) {o s k : Nat} (ho : mu_is H (some o) 101) (hs : s + k ≤ mu_n H o) : lw (mu_cpi H o s (lt7 H) (lu H) k) ∧ lf H (mu_cpi H o s (lt7 H) (lu H) k) := by
  have hg := h.1
  have h7 := lw.g7 hg
  have hon : mu_onl H (mu_cpi H o s (lt7 H) (lu H) k) (lt7 H) := ⟨rfl, rfl, fun p j hp => by rw [mu_i_cpi, if_neg (fun z => hp z.1)], rfl⟩
  have hgi : gi (mu_cpi H o s (lt7 H) (lu H) k) := hg.onl hon (Or.inr ⟨h7.2.2, fun i hi => by
    rw [mu_i_cpi]
    split
    · rename_i hx
      exact hg.2.2.2.2.2.2.2.2.2 o _ ho.2.1 ho.2.2 (by have := hx.2; omega)
    · exact hg.2.2.2.2.2.2.2.2.2 (lt7 H) i h7.2.1 h7.2.2 hi⟩)
  have hlk : lk ls_S H (mu_cpi H o s (lt7 H) (lu H) k) := lk.onl (p := 81) (j := 7) hg hon rfl (Or.inr ⟨rfl, rfl⟩)
  have hne : ∀ p, mu_k H p ≠ 101 → p ≠ lt7 H := fun p hp e => hp (by rw [e]; exact h7.2.2)
  have hkc : ∀ r W, gi_w r = some W → mu_k H (mu_p (mu_r H r 1)) ≠ 101 := fun r W hr => by have := (hg.w hr).2.1.2.2; omega
  have k81 : mu_k H 81 = 4 := hg.2.1 81 4 rfl
  have k82 : mu_k H 82 = 10 := hg.2.1 82 10 rfl
  have k86 : mu_k H 86 = 10 := hg.2.1 86 10 rfl
  have s81 := hon.same (hne 81 (by omega))
  have s86 := hon.same (hne 86 (by omega))
  refine ⟨h.of hgi (s81.i 8) rfl rfl (congrArg Int32.toNatClampNeg (s86.i 2)) (fun j => ?_), hlk, fun _ _ => rfl, fun j _ => s81.i j, ⟨hon.same (hne 82 (by omega)), hon.same (hne _ (hkc 82 3 rfl))⟩, ?_, ?_, ?_, ?_⟩
  · exact (hon.same (hne _ (hkc 86 4 rfl))).i j
  · exact Nat.le_of_eq (congrArg Int32.toNatClampNeg (s81.i 8)).symm
  · exact Nat.le_of_eq (congrArg Int32.toNatClampNeg (s86.i 2)).symm
  · exact Nat.le_max_left _ _
  · exact Nat.le_max_left _ _
/-- how many letters are used is written -/
theorem lw.used (h : lw H) {u : Nat} (hu : u ≤ mu_n H (lt7 H)) (hu2 : lu H ≤ u) : lw (mu_si H 81 8 (nI u)) ∧ lf H (mu_si H 81 8 (nI u)) ∧ lu (mu_si H 81 8 (nI u)) = u := by
  have hg := h.1
  have hlen := lw.len hg
  have eu : lu (mu_si H 81 8 (nI u)) = u := by unfold lu; rw [mu_i_si, if_pos ⟨rfl, rfl⟩, nI_clamp (by omega)]
  have hgi : gi (mu_si H 81 8 (nI u)) := hg.si (k := 4) rfl rfl
  have hc : ∀ r W j, gi_w r = some W → cel (mu_si H 81 8 (nI u)) r j = cel H r j := fun r W j hr => by
    show mu_i (mu_si H 81 8 (nI u)) (mu_p (mu_r H r 1)) j = _
    rw [mu_i_si, if_neg (fun z => ((hg.cell hr).1 81 4 rfl).symm z.1)]
    rfl
  refine ⟨⟨hgi, by rw [eu, mu_i_si, if_pos ⟨rfl, rfl⟩], by rw [eu]; exact hu, fun w hw => ?_⟩, ⟨lk.of (gk.si hg (k := 4) rfl rfl) rfl, fun _ _ => rfl, fun j hj => ?_, ⟨mu_same_si (by decide), mu_same_si (((hg.cell (r := 82) (W := 3) rfl).1 81 4 rfl).symm)⟩, by rw [eu]; exact hu2, Nat.le_refl _, Nat.le_max_left _ _, Nat.le_max_left _ _⟩, eu⟩
  · rw [hc 86 4 _ rfl, hc 86 4 _ rfl]
    exact h.2.2.2 w hw
  · rw [mu_i_si, if_neg (fun z => hj z.2)]
/-- a word more -/
theorem lw.word (h : lw H) {s l : Nat} {a3 a4 : Int32} (hl : s + l ≤ mu_n H (lt7 H)) (hg1 : gi H1) (hq : gq H H1 86 4 (rw_col (nI s) (nI l) a3 a4)) : lw H1 ∧ lf H H1 ∧ lu H1 = lu H := by
  obtain ⟨q1, q2, q3, q4, q5, q6⟩ := hq
  have s81 := q1.obj (p := 81) (k := 4) rfl rfl
  have s82 := q1.obj (p := 82) (k := 10) rfl rfl
  have hz7 : lt7 H < mu_z H := (lw.g7 h.1).2.1
  have e7 : lt7 H1 = lt7 H := by unfold lt7; rw [s81.r]
  have eu : lu H1 = lu H := by unfold lu; rw [s81.i]
  have en := (q1.2.1 _ hz7).2
  refine ⟨⟨hg1, by rw [s81.i, eu]; exact h.2.1, by rw [eu, e7, en]; exact h.2.2.1, fun w hw => ?_⟩, ⟨lk.of (q1.mono (fun p hp => decide_eq_true (Or.inr (Or.inr (Nat.eq_of_beq_eq_true hp))))) (s81.r 7), fun j _ => s81.r j, fun j _ => s81.i j, ⟨s82, q1.2.2.2.1 82 1 rfl rfl⟩, by omega, by omega, by rw [e7, en]; exact Nat.le_max_left _ _, q4.1⟩, eu⟩
  by_cases hw2 : w < gi_sz H 86
  · obtain ⟨s', l', f1, f2, f3⟩ := h.2.2.2 w hw2
    refine ⟨s', l', (q5 (w * 4) (by omega)).trans f1, (q5 (w * 4 + 1) (by omega)).trans f2, by rw [e7, en]; exact f3⟩
  · have hwe : w = gi_sz H 86 := by omega
    subst hwe
    exact ⟨s, l, q6 0 (by decide), q6 1 (by decide), by rw [e7, en]; exact hl⟩
/-- longer letters -/
theorem lw.more {N : Nat} (h : lw H) (hN : 2 * mu_n H (lt7 H) ≤ N) (hN2 : N ≤ 16777216) (he : H1 = mu_sr (mu_cpi (mu_nw H 101 N N) (lt7 H) 0 (mu_z H) 0 (mu_n H (lt7 H))) 81 7 (some (mu_z H))) : lw H1 ∧ lk ls_S H H1 ∧ (∀ j, j ≠ 7 → mu_r H1 81 j = mu_r H 81 j) ∧ (∀ j, mu_i H1 81 j = mu_i H 81 j) ∧ (mu_same H H1 82 ∧ mu_same H H1 (mu_p (mu_r H 82 1))) ∧ lu H1 = lu H ∧ gi_sz H1 86 = gi_sz H 86 ∧ lt7 H1 = mu_z H ∧ mu_n H1 (lt7 H1) = N ∧ gi_cap H1 86 = gi_cap H 86 := by
  have hg := h.1
  obtain ⟨g1, g2, g3, g4, g5, g6, g7⟩ := hg.grow7 (S := ls_S) hN hN2 he rfl
  have hlen := lw.len hg
  have z199 := hg.1.1
  have c86 := (hg.w (r := 86) (W := 4) rfl).2.1
  have c82 := (hg.w (r := 82) (W := 3) rfl).2.1
  have r86 : mu_r H1 86 1 = mu_r H 86 1 := g7 86 1 (by omega) (fun z => by have := z.1; omega)
  have hs86 : gi_sz H1 86 = gi_sz H 86 := congrArg Int32.toNatClampNeg (g6 86 (by omega) 2)
  have eu : lu H1 = lu H := congrArg Int32.toNatClampNeg (g6 81 (by omega) 8)
  refine ⟨⟨g1, by rw [g6 81 (by omega), eu]; exact h.2.1, by rw [eu, g3, g4]; have := h.2.2.1; omega, fun w hw => ?_⟩, g2, fun j hj => g7 81 j (by omega) (fun z => hj z.2), g6 81 (by omega), ⟨?_, ?_⟩, eu, hs86, g3, by rw [g3, g4], ?_⟩
  · rw [hs86] at hw
    obtain ⟨s, l, f1, f2, f3⟩ := h.2.2.2 w hw
    refine ⟨s, l, ?_, ?_, by rw [g3, g4]; omega⟩
    · unfold cel; rw [r86, g6 _ c86.2.1]; exact f1
    · unfold cel; rw [r86, g6 _ c86.2.1]; exact f2
  · have hl : ∀ p, p < mu_z H → ∀ j, mu_l H1 p j = mu_l H p j := fun p hp j => by
      rw [he]; show mu_l (mu_nw H 101 N N) p j = _; rw [mu_l_nw, if_neg (by omega)]
    exact mu_same.of (g2.2.1 82 (by omega)).1 (g2.2.1 82 (by omega)).2 (g6 82 (by omega)) (hl 82 (by omega)) (fun j => g7 82 j (by omega) (fun z => by have := z.1; omega))
  · have hl : ∀ p, p < mu_z H → ∀ j, mu_l H1 p j = mu_l H p j := fun p hp j => by
      rw [he]; show mu_l (mu_nw H 101 N N) p j = _; rw [mu_l_nw, if_neg (by omega)]
    have hz := c82.2.1
    exact mu_same.of (g2.2.1 _ hz).1 (g2.2.1 _ hz).2 (g6 _ hz) (hl _ hz) (fun j => g7 _ j hz (fun z => by
      have h1 := c82.2.2
      rw [z.1] at h1
      have h2 : mu_k H 81 = 4 := hg.2.1 81 4 rfl
      omega))
  · unfold gi_cap
    rw [r86, (g2.2.1 _ c86.2.1).2]
end LexState
