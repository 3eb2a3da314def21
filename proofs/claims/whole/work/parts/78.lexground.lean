/-! THE LEXER'S STATE: words, letters, the tape; what its steps keep -/
/-- where the letters lie; how many are used; where the Lexer stands -/
def lt7 (H : mu_H) : Nat := mu_p (mu_r H 81 7)
def lu (H : mu_H) : Nat := (mu_i H 81 8).toNatClampNeg
def la (H : mu_H) : Nat := (mu_i H 81 2).toNatClampNeg
/-- what has been kept, but for the objects of S, their arrays of ints, and the letters -/
def lk (S : Nat → Bool) (H H1 : mu_H) : Prop :=
  (mu_z H ≤ mu_z H1 ∧ mu_c H ≤ mu_c H1 ∧ mu_s H ≤ mu_s H1) ∧
  (∀ p, p < mu_z H → mu_k H1 p = mu_k H p ∧ mu_n H1 p = mu_n H p) ∧
  (∀ p k, gi_k p = some k → S p = false → mu_same H H1 p) ∧
  (∀ p j, gi_o p j = true → S p = false → mu_same H H1 (mu_p (mu_r H p j))) ∧
  (∀ p, p < mu_z H → 101 ≤ mu_k H p → p ≠ lt7 H → mu_same H H1 p) ∧
  (∀ p, p < mu_z H → ¬ gi_cd H p → mu_same H H1 p) ∧
  (∀ p, gi_cd H1 p → gi_cd H p ∨ mu_z H ≤ p) ∧
  (mu_s H1 + 2 * gi_SC H ≤ mu_s H + 2 * gi_SC H1 ∧ mu_z H1 + gi_SL H ≤ mu_z H + gi_SL H1 ∧ mu_c H1 + gi_SL H ≤ mu_c H + gi_SL H1) ∧
  (lt7 H1 = lt7 H ∨ mu_z H ≤ lt7 H1)
section LexGround
variable {H H1 H2 : mu_H} {S : Nat → Bool}
theorem lk.of (h : gk S H H1) (h7 : mu_r H1 81 7 = mu_r H 81 7) : lk S H H1 := by
  obtain ⟨a, b, c, e, f, g, i, j⟩ := h
  exact ⟨a, b, c, e, fun p hp hk _ => f p hp hk, g, i, j, Or.inl (by unfold lt7; rw [h7])⟩
theorem lk.refl (S : Nat → Bool) (H : mu_H) : lk S H H := lk.of (gk.refl S H) rfl
theorem lk.trans (h : lk S H H1) (h' : lk S H1 H2) : lk S H H2 := by
  obtain ⟨⟨a1, a2, a3⟩, b, c, e, f, g, i, ⟨j1, j2, j3⟩, l⟩ := h
  obtain ⟨⟨a1', a2', a3'⟩, b', c', e', f', g', i', ⟨j1', j2', j3'⟩, l'⟩ := h'
  refine ⟨⟨by omega, by omega, by omega⟩, fun p hp => ⟨((b' p (by omega)).1).trans (b p hp).1, ((b' p (by omega)).2).trans (b p hp).2⟩, fun p k hp hs => (c p k hp hs).trans (c' p k hp hs), fun p j hp hs => ?_, fun p hp hk h7 => (f p hp hk h7).trans (f' p (by omega) (by rw [(b p hp).1]; exact hk) (by rcases l with z | z <;> omega)), fun p hp hn => ?_, fun p hp => ?_, ⟨by omega, by omega, by omega⟩, by rcases l with z | z <;> rcases l' with z' | z' <;> omega⟩
  · obtain ⟨-, ⟨k, hk⟩, -⟩ := gi_o_ok hp
    have := e' p j hp hs
    rw [(c p k hk hs).r j] at this
    exact (e p j hp hs).trans this
  · refine (g p hp hn).trans (g' p (by omega) (fun hc => ?_))
    rcases i p hc with z | z
    · exact hn z
    · omega
  · rcases i' p hp with z | z
    · exact i p z
    · exact Or.inr (by omega)
theorem lk.mono {S' : Nat → Bool} (h : lk S H H1) (hS : ∀ p, S p = true → S' p = true) : lk S' H H1 := by
  have hS' : ∀ p, S' p = false → S p = false := fun p hp => by
    cases hs : S p with
    | false => rfl
    | true => rw [hS p hs] at hp; cases hp
  exact ⟨h.1, h.2.1, fun p k hk hs => h.2.2.1 p k hk (hS' p hs), fun p j hp hs => h.2.2.2.1 p j hp (hS' p hs), h.2.2.2.2⟩
theorem lk.is (h : lk S H H1) {o : Option Nat} {k : Nat} (ho : mu_is H o k) : mu_is H1 o k := ⟨ho.1, by have := ho.2.1; have := h.1.1; omega, by rw [(h.2.1 _ ho.2.1).1]; exact ho.2.2⟩
/-- ints of one array have changed -/
theorem gi.onl {q : Nat} (h : gi H) (ho : mu_onl H H1 q) (hk : mu_k H q = 100 ∨ (mu_k H q = 101 ∧ ∀ i, i < mu_n H q → fits .byte (.int (mu_i H1 q i)) = true)) : gi H1 := by
  obtain ⟨o1, o2, o3, o4⟩ := ho
  have ek : ∀ p, mu_k H1 p = mu_k H p := fun p => congrFun o1 p
  have en : ∀ p, mu_n H1 p = mu_n H p := fun p => congrFun o2 p
  have er : ∀ p i, mu_r H1 p i = mu_r H p i := fun p i => by unfold mu_r; rw [o4]
  have ez : mu_z H1 = mu_z H := by unfold mu_z; rw [o4]
  have hq : 100 ≤ mu_k H q := by rcases hk with z | z <;> omega
  have ei : ∀ p i, mu_k H p < 100 → mu_i H1 p i = mu_i H p i := fun p i hp => o3 p i (fun e => by rw [e] at hp; omega)
  have elen : ∀ t, gi_len H1 t = gi_len H t := fun t => by unfold gi_len; rw [er, en]
  have eSL : gi_SL H1 = gi_SL H := by unfold gi_SL; simp only [elen]
  obtain ⟨a, b, c, e, f, g, i, ⟨x1, x2, x3⟩, x4, x5⟩ := h
  have his : ∀ o k, mu_is H o k → mu_is H1 o k := fun o k z => ⟨z.1, by rw [ez]; exact z.2.1, by rw [ek]; exact z.2.2⟩
  refine ⟨by rw [ez, eSL]; exact a, fun p k hp => by rw [ek]; exact b p k hp, fun p j q hp => by rw [er]; exact c p j q hp, fun r W hr => ?_, fun p j hp => by rw [er]; exact his _ _ (f p j hp), fun p j p' j' h1 h2 h3 => g p j p' j' h1 h2 (by rw [er, er] at h3; exact h3), fun p x hp => by rw [ek, en]; exact i p x hp, ⟨by rw [er]; exact his _ _ x1, by rw [er]; exact his _ _ x2, by rw [er, er]; exact x3⟩, fun t ht => by rw [elen]; exact x4 t ht, fun p j hp hk2 hj => ?_⟩
  · obtain ⟨⟨e1, e2, e3, e4, e5, e6⟩, e7⟩ := e r W hr
    have hrk : mu_k H r < 100 := by have : mu_k H r = 10 := e1.2.2; omega
    have hs : gi_sz H1 r = gi_sz H r := congrArg Int32.toNatClampNeg (ei r 2 hrk)
    have hc : gi_cap H1 r = gi_cap H r := by unfold gi_cap; rw [er, en]
    rw [hs, hc]
    exact ⟨⟨his _ _ e1, by rw [er]; exact his _ _ e2, by rw [ei r 0 hrk]; exact e3, by rw [ei r 2 hrk]; exact e4, by rw [er, en]; exact e5, e6⟩, e7⟩
  · rw [ez] at hp
    rw [ek] at hk2
    rw [en] at hj
    by_cases hpq : p = q
    · rcases hk with z | z
      · rw [hpq] at hk2; omega
      · rw [hpq] at hj ⊢; exact z.2 j hj
    · rw [o3 p j hpq]; exact x5 p j hp hk2 hj
theorem mu_onl.same {q p : Nat} (h : mu_onl H H1 q) (hp : p ≠ q) : mu_same H H1 p := mu_same.of (congrFun h.1 p) (congrFun h.2.1 p) (fun j => h.2.2.1 p j hp) (fun j => by unfold mu_l; rw [h.2.2.2]) (fun j => by unfold mu_r; rw [h.2.2.2])
/-- ints of one array of an owner in S have changed -/
theorem lk.onl {p j : Nat} (h : gi H) (ho : mu_onl H H1 (mu_p (mu_r H p j))) (hS : S p = true) (hp : (gi_o p j = true) ∨ (p = 81 ∧ j = 7)) : lk S H H1 := by
  have er : ∀ p i, mu_r H1 p i = mu_r H p i := fun p i => by unfold mu_r; rw [ho.2.2.2]
  have en : ∀ p, mu_n H1 p = mu_n H p := fun p => congrFun ho.2.1 p
  have elen : ∀ t, gi_len H1 t = gi_len H t := fun t => by unfold gi_len; rw [er, en]
  have eSL : gi_SL H1 = gi_SL H := by unfold gi_SL; simp only [elen]
  have eSC : gi_SC H1 = gi_SC H := gi_sum_eq gi_al (fun t _ => elen t)
  have ez : mu_z H1 = mu_z H := by unfold mu_z; rw [ho.2.2.2]
  have ec : mu_c H1 = mu_c H := by unfold mu_c; rw [ho.2.2.2]
  have es : mu_s H1 = mu_s H := by unfold mu_s; rw [ho.2.2.2]
  have hg7 : mu_is H (mu_r H 81 7) 101 := h.2.2.2.2.2.2.2.1.2.1
  have hkq : 100 ≤ mu_k H (mu_p (mu_r H p j)) ∧ (mu_k H (mu_p (mu_r H p j)) = 101 → mu_p (mu_r H p j) = lt7 H) ∧ gi_cd H (mu_p (mu_r H p j)) := by
    rcases hp with hp | ⟨e1, e2⟩
    · have := (h.o hp).2.2
      exact ⟨by omega, fun z => by omega, Or.inr ⟨p, j, (gi_o_ok hp).1, (h.o hp).1⟩⟩
    · rw [e1, e2]
      have := hg7.2.2
      exact ⟨by omega, fun _ => rfl, Or.inr ⟨81, 7, rfl, hg7.1⟩⟩
  refine ⟨⟨Nat.le_of_eq ez.symm, Nat.le_of_eq ec.symm, Nat.le_of_eq es.symm⟩, fun p _ => ⟨congrFun ho.1 p, congrFun ho.2.1 p⟩, fun q k hq hs => ho.same (fun e => ?_), fun q i hq hs => ho.same (fun e => ?_), fun q hq hk h7 => ?_, fun q hq hn => ho.same (fun e => hn (by rw [e]; exact hkq.2.2)), fun q hq => Or.inl ?_, ?_, Or.inl (by unfold lt7; rw [er])⟩
  · have h1 : mu_k H q = k := (h.is hq).2.2
    rw [e] at h1
    have := (gi_k_ok hq).2
    omega
  · rcases hp with hp | ⟨e1, e2⟩
    · have h2 : mu_r H q i = mu_r H p j := by rw [(h.o hq).1, e]; exact (h.o hp).1.symm
      have := (h.2.2.2.2.2.1 q i p j hq hp h2).1
      rw [this, hS] at hs
      cases hs
    · have h1 := (h.o hq).2.2
      rw [e, e1, e2] at h1
      have := hg7.2.2
      omega
  · by_cases e : q = mu_p (mu_r H p j)
    · rcases hp with hp | ⟨e1, e2⟩
      · have := (h.o hp).2.2
        rw [e] at hk
        omega
      · rw [e1, e2] at e
        exact absurd e h7
    · exact ho.same e
  · rcases hq with z | ⟨a, i, z1, z2⟩
    · exact Or.inl z
    · exact Or.inr ⟨a, i, z1, by rw [er] at z2; exact z2⟩
  · rw [ez, ec, es, eSL, eSC]
    exact ⟨Nat.le_refl _, Nat.le_refl _, Nat.le_refl _⟩
/-- the letters are laid into a longer array -/
theorem gi.grow7 {N : Nat} (h : gi H) (hN : 2 * mu_n H (lt7 H) ≤ N) (hN2 : N ≤ 16777216) (he : H1 = mu_sr (mu_cpi (mu_nw H 101 N N) (lt7 H) 0 (mu_z H) 0 (mu_n H (lt7 H))) 81 7 (some (mu_z H))) (hS : S 81 = true) : gi H1 ∧ lk S H H1 ∧ lt7 H1 = mu_z H ∧ mu_n H1 (mu_z H) = N ∧ mu_z H1 = mu_z H + 1 ∧ (∀ p, p < mu_z H → ∀ i, mu_i H1 p i = mu_i H p i) ∧ (∀ p j, p < mu_z H → ¬ (p = 81 ∧ j = 7) → mu_r H1 p j = mu_r H p j) := by
  have h0 := h
  obtain ⟨⟨a1, a2⟩, b, c, e, f, g, i, ⟨x1, x2, x3, x6, x7⟩, x4, x5⟩ := h
  have h7z : lt7 H < mu_z H := x2.2.1
  have h7k : mu_k H (lt7 H) = 101 := x2.2.2
  have ek : ∀ p, p < mu_z H → mu_k H1 p = mu_k H p := fun p hp => by rw [he]; show mu_k (mu_nw H 101 N N) p = _; rw [mu_k_nw, if_neg (by omega)]
  have en : ∀ p, p < mu_z H → mu_n H1 p = mu_n H p := fun p hp => by rw [he]; show mu_n (mu_nw H 101 N N) p = _; rw [mu_n_nw, if_neg (by omega)]
  have ei : ∀ p, p < mu_z H → ∀ j, mu_i H1 p j = mu_i H p j := fun p hp j => by
    rw [he, mu_i_sr, mu_i_cpi, if_neg (fun z => by have := z.1; omega), mu_i_nw, if_neg (by omega)]
  have el : ∀ p, p < mu_z H → ∀ j, mu_l H1 p j = mu_l H p j := fun p hp j => by
    rw [he]; show mu_l (mu_nw H 101 N N) p j = _; rw [mu_l_nw, if_neg (by omega)]
  have er : ∀ p j, p < mu_z H → ¬ (p = 81 ∧ j = 7) → mu_r H1 p j = mu_r H p j := fun p j hp hn => by
    rw [he, mu_r_sr, if_neg hn]; show mu_r (mu_nw H 101 N N) p j = _; rw [mu_r_nw, if_neg (by omega)]
  have er7 : mu_r H1 81 7 = some (mu_z H) := by rw [he, mu_r_sr, if_pos ⟨rfl, rfl⟩]
  have ekz : mu_k H1 (mu_z H) = 101 := by rw [he]; show mu_k (mu_nw H 101 N N) (mu_z H) = _; rw [mu_k_nw, if_pos rfl]
  have enz : mu_n H1 (mu_z H) = N := by rw [he]; show mu_n (mu_nw H 101 N N) (mu_z H) = _; rw [mu_n_nw, if_pos rfl]
  have ez : mu_z H1 = mu_z H + 1 := by rw [he]; rfl
  have ec : mu_c H1 = mu_c H + 1 := by rw [he]; rfl
  have es : mu_s H1 = mu_s H + N := by rw [he]; rfl
  have hsame : ∀ p, p < mu_z H → p ≠ 81 → mu_same H H1 p := fun p hp hn => mu_same.of (ek p hp) (en p hp) (ei p hp) (el p hp) (fun j => er p j hp (fun z => hn z.1))
  have his : ∀ o k, mu_is H o k → mu_is H1 o k := fun o k z => ⟨z.1, by have := z.2.1; omega, by rw [ek _ z.2.1]; exact z.2.2⟩
  have oz : ∀ p j, gi_o p j = true → mu_p (mu_r H p j) < mu_z H ∧ p < mu_z H ∧ ¬ (p = 81 ∧ j = 7) := fun p j hp => by
    obtain ⟨-, ⟨k, hk⟩, -⟩ := gi_o_ok hp
    have := (gi_k_ok hk).1
    refine ⟨(f p j hp).2.1, by omega, fun z => ?_⟩
    have : gi_o 81 7 = false := rfl
    rw [z.1, z.2, this] at hp
    cases hp
  have hlen : ∀ t ∈ gi_al, t ≠ (81, 7) → gi_len H1 t = gi_len H t := fun t ht hn => by
    have key : mu_p (mu_r H t.1 t.2) < mu_z H ∧ t.1 < mu_z H ∧ ¬ (t.1 = 81 ∧ t.2 = 7) := by
      rcases List.mem_cons.mp ht with e1 | ht
      · subst e1
        exact ⟨x1.2.1, by show 0 < mu_z H; omega, fun z => by have := z.1; omega⟩
      · rcases List.mem_cons.mp ht with e1 | ht
        · exact absurd e1 hn
        · exact oz t.1 t.2 (List.any_eq_true.mpr ⟨t, ht, by rw [Nat.beq_refl, Nat.beq_refl]; rfl⟩)
    unfold gi_len
    rw [er _ _ key.2.1 key.2.2, en _ key.1]
  have h7m : ((81, 7) : Nat × Nat) ∈ gi_al := List.mem_cons_of_mem _ List.mem_cons_self
  have hl7 : gi_len H (81, 7) = mu_n H (lt7 H) := rfl
  have hl71 : gi_len H1 (81, 7) = N := by show mu_n H1 (mu_p (mu_r H1 81 7)) = N; rw [er7]; exact enz
  have hSC : gi_SC H1 + gi_len H (81, 7) = gi_SC H + gi_len H1 (81, 7) := gi_sum_one (f := gi_len H) (g := gi_len H1) gi_al gi_al_nodup h7m hlen
  have hSL : gi_SL H1 + Nat.log2 (gi_len H (81, 7)) = gi_SL H + Nat.log2 (gi_len H1 (81, 7)) := gi_sum_one (f := fun x => Nat.log2 (gi_len H x)) (g := fun x => Nat.log2 (gi_len H1 x)) gi_al gi_al_nodup h7m (fun t ht htr => by rw [hlen t ht htr])
  have h7l := x4 _ h7m
  have hlg : Nat.log2 (gi_len H (81, 7)) + 1 ≤ Nat.log2 (gi_len H1 (81, 7)) := by
    refine (Nat.le_log2 (by omega)).mpr ?_
    have h2 : 2 ^ Nat.log2 (gi_len H (81, 7)) ≤ gi_len H (81, 7) := Nat.log2_self_le (by omega)
    rw [Nat.pow_succ]
    omega
  have h81 : (81 : Nat) < mu_z H := by omega
  refine ⟨⟨⟨by omega, by omega⟩, fun p k hk => ?_, fun p j q hq => ?_, fun r W hr => ?_, fun p j hp => ?_, fun p j p' j' h1 h2 h3 => ?_, fun p x hx => ?_, ⟨?_, ?_, ?_, ?_, ?_⟩, fun t ht => ?_, fun p j hp hk hj => ?_⟩, ⟨⟨by omega, by omega, by omega⟩, fun p hp => ⟨ek p hp, en p hp⟩, fun p k hk hs => ?_, fun p j hp hs => ?_, fun p hp hk h7 => ?_, fun p hp hn => ?_, fun p hp => ?_, ⟨by omega, by omega, by omega⟩, Or.inr (by unfold lt7; rw [er7]; exact Nat.le_refl _)⟩, by unfold lt7; rw [er7]; rfl, enz, ez, ei, er⟩
  · have := (gi_k_ok hk).1
    rw [ek p (by omega)]
    exact b p k hk
  · obtain ⟨⟨k, hk⟩, -⟩ := gi_r_ok hq
    have := (gi_k_ok hk).1
    rw [er p j (by omega) (fun z => by
      have h1 : gi_r 81 7 = none := rfl
      rw [z.1, z.2, h1] at hq
      cases hq)]
    exact c p j q hq
  · obtain ⟨⟨e1, e2, e3, e4, e5, e6⟩, e7⟩ := e r W hr
    obtain ⟨hr1, -, -, -, hro⟩ := gi_w_ok hr
    obtain ⟨o1, o2, o3⟩ := oz r 1 hro
    have hs : gi_sz H1 r = gi_sz H r := congrArg Int32.toNatClampNeg (ei r o2 2)
    have hc : gi_cap H1 r = gi_cap H r := by unfold gi_cap; rw [er r 1 o2 o3, en _ o1]
    rw [hs, hc]
    exact ⟨⟨his _ _ e1, by rw [er r 1 o2 o3]; exact his _ _ e2, by rw [ei r o2 0]; exact e3, by rw [ei r o2 2]; exact e4, by rw [er r 1 o2 o3, en _ o1]; exact e5, e6⟩, e7⟩
  · obtain ⟨o1, o2, o3⟩ := oz p j hp
    rw [er p j o2 o3]
    exact his _ _ (f p j hp)
  · obtain ⟨o1, o2, o3⟩ := oz p j h1
    obtain ⟨o1', o2', o3'⟩ := oz p' j' h2
    rw [er p j o2 o3, er p' j' o2' o3'] at h3
    exact g p j p' j' h1 h2 h3
  · have := (gi_a_ok hx).1
    rw [ek p (by omega), en p (by omega)]
    exact i p x hx
  · rw [er 0 0 (by omega) (fun z => by have := z.1; omega)]
    exact his _ _ x1
  · rw [er7]
    exact ⟨rfl, by show mu_z H < mu_z H1; omega, ekz⟩
  · rw [er 0 0 (by omega) (fun z => by have := z.1; omega), er7]
    intro z
    have := x1.2.1
    rw [z] at this
    exact Nat.lt_irrefl _ this
  · rw [er7]
    intro z
    have := Option.some.inj z
    omega
  · rw [er 0 0 (by omega) (fun z => by have := z.1; omega)]
    exact x7
  · by_cases e1 : t = (81, 7)
    · subst e1
      rw [hl71]
      omega
    · rw [hlen t ht e1]
      exact x4 t ht
  · by_cases hpz : p < mu_z H
    · rw [ek p hpz] at hk
      rw [en p hpz] at hj
      rw [ei p hpz]
      exact x5 p j hpz hk hj
    · have hpe : p = mu_z H := by omega
      subst hpe
      rw [he, mu_i_sr, mu_i_cpi]
      split
      · rw [mu_i_nw, if_neg (by omega)]
        rename_i hx
        exact x5 _ _ h7z h7k (by have := hx.2.2; omega)
      · rw [mu_i_nw, if_pos rfl]
        rfl
  · have := (gi_k_ok hk).1
    exact hsame p (by omega) (fun e1 => by rw [e1, hS] at hs; cases hs)
  · obtain ⟨o1, o2, o3⟩ := oz p j hp
    refine hsame _ o1 (fun e1 => ?_)
    have h1 := (f p j hp).2.2
    rw [e1] at h1
    have h2 : mu_k H 81 = 4 := b 81 4 rfl
    omega
  · refine hsame p hp (fun e1 => ?_)
    have h2 : mu_k H 81 = 4 := b 81 4 rfl
    rw [e1] at hk
    omega
  · exact hsame p hp (fun e1 => hn (Or.inl (by omega)))
  · rcases hp with z | ⟨a, j, z1, z2⟩
    · exact Or.inl (Or.inl z)
    · by_cases e7 : a = 81 ∧ j = 7
      · rw [e7.1, e7.2, er7] at z2
        exact Or.inr (Nat.le_of_eq (Option.some.inj z2))
      · have haz : a < mu_z H := by
          unfold gi_f at z1
          rw [Bool.or_eq_true, Bool.or_eq_true, Bool.or_eq_true] at z1
          rcases z1 with y | y | y | y
          · have := Nat.eq_of_beq_eq_true y; omega
          · have := Nat.eq_of_beq_eq_true y; omega
          · have := Nat.eq_of_beq_eq_true y; omega
          · have := (show ∀ t ∈ gi_fs, t.1 < 169 by decide +kernel) _ (gi_two y)
            have : a < 169 := this
            omega
        rw [er a j haz e7] at z2
        exact Or.inl (Or.inr ⟨a, j, z1, z2⟩)
end LexGround
