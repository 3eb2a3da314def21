/-! THE TAPE: what steps on it keep; a longer tape -/
/-- where the tape lies -/
def tp0 (H : mu_H) : Nat := mu_p (mu_r H 0 0)
/-- what has been kept, but for the objects of S, their arrays of ints, and the tape -/
def tk (S : Nat → Bool) (H H1 : mu_H) : Prop :=
  (mu_z H ≤ mu_z H1 ∧ mu_c H ≤ mu_c H1 ∧ mu_s H ≤ mu_s H1) ∧
  (∀ p, p < mu_z H → mu_k H1 p = mu_k H p ∧ mu_n H1 p = mu_n H p) ∧
  (∀ p k, gi_k p = some k → S p = false → mu_same H H1 p) ∧
  (∀ p j, gi_o p j = true → S p = false → mu_same H H1 (mu_p (mu_r H p j))) ∧
  (∀ p, p < mu_z H → 101 ≤ mu_k H p → p ≠ tp0 H → mu_same H H1 p) ∧
  (∀ p, p < mu_z H → ¬ gi_cd H p → mu_same H H1 p) ∧
  (∀ p, gi_cd H1 p → gi_cd H p ∨ mu_z H ≤ p) ∧
  (mu_s H1 + 2 * gi_SC H ≤ mu_s H + 2 * gi_SC H1 ∧ mu_z H1 + gi_SL H ≤ mu_z H + gi_SL H1 ∧ mu_c H1 + gi_SL H ≤ mu_c H + gi_SL H1) ∧
  (tp0 H1 = tp0 H ∨ mu_z H ≤ tp0 H1)
section TapeGround
variable {H H1 H2 : mu_H} {S : Nat → Bool}
theorem tk.of (h : gk S H H1) (h7 : mu_r H1 0 0 = mu_r H 0 0) : tk S H H1 := by
  obtain ⟨a, b, c, e, f, g, i, j⟩ := h
  exact ⟨a, b, c, e, fun p hp hk _ => f p hp hk, g, i, j, Or.inl (by unfold tp0; rw [h7])⟩
theorem tk.refl (S : Nat → Bool) (H : mu_H) : tk S H H := tk.of (gk.refl S H) rfl
theorem tk.trans (h : tk S H H1) (h' : tk S H1 H2) : tk S H H2 := by
  obtain ⟨⟨a1, a2, a3⟩, b, c, e, f, g, i, ⟨j1, j2, j3⟩, l⟩ := h
  obtain ⟨⟨a1', a2', a3'⟩, b', c', e', f', g', i', ⟨j1', j2', j3'⟩, l'⟩ := h'
  refine ⟨⟨by omega, by omega, by omega⟩, fun p hp => ⟨((b' p (by omega)).1).trans (b p hp).1, ((b' p (by omega)).2).trans (b p hp).2⟩, fun p k hp hs => (c p k hp hs).trans (c' p k hp hs), fun p j hp hs => ?_, fun p hp hk h7 => (f p hp hk h7).trans (f' p (by omega) (by rw [(b p hp).1]; exact hk) (by rcases l with z | z <;> omega)), fun p hp hn => ?_, fun p hp => ?_, ⟨by omega, by omega, by omega⟩, by rcases l with z | z <;> rcases l' with z' | z' <;> omega⟩
  · obtain ⟨-, ⟨k, hk⟩, -⟩ := gi_o_ok hp
    have := e' p j hp hs
    rw [(c p k hk hs).r j] at this
    exact (e p j hp hs).trans this
  · refine (g p hp hn).trans (g' p (by omega) (fun hc => ?_))
    rcases i p hc with z | z
    · exact hn z
    · omega
  · rcases i' p hp with z | z
    · exact i p z
    · exact Or.inr (by omega)
theorem tk.mono {S' : Nat → Bool} (h : tk S H H1) (hS : ∀ p, S p = true → S' p = true) : tk S' H H1 := by
  have hS' : ∀ p, S' p = false → S p = false := fun p hp => by
    cases hs : S p with
    | false => rfl
    | true => rw [hS p hs] at hp; cases hp
  exact ⟨h.1, h.2.1, fun p k hk hs => h.2.2.1 p k hk (hS' p hs), fun p j hp hs => h.2.2.2.1 p j hp (hS' p hs), h.2.2.2.2⟩
theorem tk.is (h : tk S H H1) {o : Option Nat} {k : Nat} (ho : mu_is H o k) : mu_is H1 o k := ⟨ho.1, by have := ho.2.1; have := h.1.1; omega, by rw [(h.2.1 _ ho.2.1).1]; exact ho.2.2⟩
/-- ints of one array of an owner in S have changed -/
theorem tk.onl {p j : Nat} (h : gi H) (ho : mu_onl H H1 (mu_p (mu_r H p j))) (hS : S p = true) (hp : (gi_o p j = true) ∨ (p = 0 ∧ j = 0)) : tk S H H1 := by
  have er : ∀ p i, mu_r H1 p i = mu_r H p i := fun p i => by unfold mu_r; rw [ho.2.2.2]
  have en : ∀ p, mu_n H1 p = mu_n H p := fun p => congrFun ho.2.1 p
  have elen : ∀ t, gi_len H1 t = gi_len H t := fun t => by unfold gi_len; rw [er, en]
  have eSL : gi_SL H1 = gi_SL H := by unfold gi_SL; simp only [elen]
  have eSC : gi_SC H1 = gi_SC H := gi_sum_eq gi_al (fun t _ => elen t)
  have ez : mu_z H1 = mu_z H := by unfold mu_z; rw [ho.2.2.2]
  have ec : mu_c H1 = mu_c H := by unfold mu_c; rw [ho.2.2.2]
  have es : mu_s H1 = mu_s H := by unfold mu_s; rw [ho.2.2.2]
  have hg7 : mu_is H (mu_r H 0 0) 101 := h.2.2.2.2.2.2.2.1.1
  have hkq : 100 ≤ mu_k H (mu_p (mu_r H p j)) ∧ (mu_k H (mu_p (mu_r H p j)) = 101 → mu_p (mu_r H p j) = tp0 H) ∧ gi_cd H (mu_p (mu_r H p j)) := by
    rcases hp with hp | ⟨e1, e2⟩
    · have := (h.o hp).2.2
      exact ⟨by omega, fun z => by omega, Or.inr ⟨p, j, (gi_o_ok hp).1, (h.o hp).1⟩⟩
    · rw [e1, e2]
      have := hg7.2.2
      exact ⟨by omega, fun _ => rfl, Or.inr ⟨0, 0, rfl, hg7.1⟩⟩
  refine ⟨⟨Nat.le_of_eq ez.symm, Nat.le_of_eq ec.symm, Nat.le_of_eq es.symm⟩, fun p _ => ⟨congrFun ho.1 p, congrFun ho.2.1 p⟩, fun q k hq hs => ho.same (fun e => ?_), fun q i hq hs => ho.same (fun e => ?_), fun q hq hk h7 => ?_, fun q hq hn => ho.same (fun e => hn (by rw [e]; exact hkq.2.2)), fun q hq => Or.inl ?_, ?_, Or.inl (by unfold tp0; rw [er])⟩
  · have h1 : mu_k H q = k := (h.is hq).2.2
    rw [e] at h1
    have := (gi_k_ok hq).2
    omega
  · rcases hp with hp | ⟨e1, e2⟩
    · have h2 : mu_r H q i = mu_r H p j := by rw [(h.o hq).1, e]; exact (h.o hp).1.symm
      have := (h.2.2.2.2.2.1 q i p j hq hp h2).1
      rw [this, hS] at hs
      cases hs
    · have h1 := (h.o hq).2.2
      rw [e, e1, e2] at h1
      have := hg7.2.2
      omega
  · by_cases e : q = mu_p (mu_r H p j)
    · rcases hp with hp | ⟨e1, e2⟩
      · have := (h.o hp).2.2
        rw [e] at hk
        omega
      · rw [e1, e2] at e
        exact absurd e h7
    · exact ho.same e
  · rcases hq with z | ⟨a, i, z1, z2⟩
    · exact Or.inl z
    · exact Or.inr ⟨a, i, z1, by rw [er] at z2; exact z2⟩
  · rw [ez, ec, es, eSL, eSC]
    exact ⟨Nat.le_refl _, Nat.le_refl _, Nat.le_refl _⟩
/-- the tape is laid into a longer array -/
theorem gi.grow0 {N : Nat} (h : gi H) (hN : 2 * mu_n H (tp0 H) ≤ N) (hN2 : N ≤ 16777216) (he : H1 = mu_sr (mu_cpi (mu_nw H 101 N N) (tp0 H) 0 (mu_z H) 0 (mu_n H (tp0 H))) 0 0 (some (mu_z H))) (hS : S 0 = true) : gi H1 ∧ tk S H H1 ∧ tp0 H1 = mu_z H ∧ mu_n H1 (mu_z H) = N ∧ mu_z H1 = mu_z H + 1 ∧ (∀ p, p < mu_z H → ∀ i, mu_i H1 p i = mu_i H p i) ∧ (∀ p j, p < mu_z H → ¬ (p = 0 ∧ j = 0) → mu_r H1 p j = mu_r H p j) := by
  have h0 := h
  obtain ⟨⟨a1, a2⟩, b, c, e, f, g, i, ⟨x1, x2, x3, x6, x7⟩, x4, x5⟩ := h
  have h7z : tp0 H < mu_z H := x1.2.1
  have h7k : mu_k H (tp0 H) = 101 := x1.2.2
  have ek : ∀ p, p < mu_z H → mu_k H1 p = mu_k H p := fun p hp => by rw [he]; show mu_k (mu_nw H 101 N N) p = _; rw [mu_k_nw, if_neg (by omega)]
  have en : ∀ p, p < mu_z H → mu_n H1 p = mu_n H p := fun p hp => by rw [he]; show mu_n (mu_nw H 101 N N) p = _; rw [mu_n_nw, if_neg (by omega)]
  have ei : ∀ p, p < mu_z H → ∀ j, mu_i H1 p j = mu_i H p j := fun p hp j => by
    rw [he, mu_i_sr, mu_i_cpi, if_neg (fun z => by have := z.1; omega), mu_i_nw, if_neg (by omega)]
  have el : ∀ p, p < mu_z H → ∀ j, mu_l H1 p j = mu_l H p j := fun p hp j => by
    rw [he]; show mu_l (mu_nw H 101 N N) p j = _; rw [mu_l_nw, if_neg (by omega)]
  have er : ∀ p j, p < mu_z H → ¬ (p = 0 ∧ j = 0) → mu_r H1 p j = mu_r H p j := fun p j hp hn => by
    rw [he, mu_r_sr, if_neg hn]; show mu_r (mu_nw H 101 N N) p j = _; rw [mu_r_nw, if_neg (by omega)]
  have er7 : mu_r H1 0 0 = some (mu_z H) := by rw [he, mu_r_sr, if_pos ⟨rfl, rfl⟩]
  have ekz : mu_k H1 (mu_z H) = 101 := by rw [he]; show mu_k (mu_nw H 101 N N) (mu_z H) = _; rw [mu_k_nw, if_pos rfl]
  have enz : mu_n H1 (mu_z H) = N := by rw [he]; show mu_n (mu_nw H 101 N N) (mu_z H) = _; rw [mu_n_nw, if_pos rfl]
  have ez : mu_z H1 = mu_z H + 1 := by rw [he]; rfl
  have ec : mu_c H1 = mu_c H + 1 := by rw [he]; rfl
  have es : mu_s H1 = mu_s H + N := by rw [he]; rfl
  have hsame : ∀ p, p < mu_z H → p ≠ 0 → mu_same H H1 p := fun p hp hn => mu_same.of (ek p hp) (en p hp) (ei p hp) (el p hp) (fun j => er p j hp (fun z => hn z.1))
  have his : ∀ o k, mu_is H o k → mu_is H1 o k := fun o k z => ⟨z.1, by have := z.2.1; omega, by rw [ek _ z.2.1]; exact z.2.2⟩
  have oz : ∀ p j, gi_o p j = true → mu_p (mu_r H p j) < mu_z H ∧ p < mu_z H ∧ ¬ (p = 0 ∧ j = 0) := fun p j hp => by
    obtain ⟨-, ⟨k, hk⟩, -⟩ := gi_o_ok hp
    have := (gi_k_ok hk).1
    refine ⟨(f p j hp).2.1, by omega, fun z => ?_⟩
    have : gi_o 0 0 = false := rfl
    rw [z.1, z.2, this] at hp
    cases hp
  have hlen : ∀ t ∈ gi_al, t ≠ (0, 0) → gi_len H1 t = gi_len H t := fun t ht hn => by
    have key : mu_p (mu_r H t.1 t.2) < mu_z H ∧ t.1 < mu_z H ∧ ¬ (t.1 = 0 ∧ t.2 = 0) := by
      rcases List.mem_cons.mp ht with e1 | ht
      · exact absurd e1 hn
      · rcases List.mem_cons.mp ht with e1 | ht
        · subst e1
          exact ⟨x2.2.1, by show 81 < mu_z H; omega, fun z => by have := z.1; omega⟩
        · exact oz t.1 t.2 (List.any_eq_true.mpr ⟨t, ht, by rw [Nat.beq_refl, Nat.beq_refl]; rfl⟩)
    unfold gi_len
    rw [er _ _ key.2.1 key.2.2, en _ key.1]
  have h7m : ((0, 0) : Nat × Nat) ∈ gi_al := List.mem_cons_self
  have hl7 : gi_len H (0, 0) = mu_n H (tp0 H) := rfl
  have hl71 : gi_len H1 (0, 0) = N := by show mu_n H1 (mu_p (mu_r H1 0 0)) = N; rw [er7]; exact enz
  have hSC : gi_SC H1 + gi_len H (0, 0) = gi_SC H + gi_len H1 (0, 0) := gi_sum_one (f := gi_len H) (g := gi_len H1) gi_al gi_al_nodup h7m hlen
  have hSL : gi_SL H1 + Nat.log2 (gi_len H (0, 0)) = gi_SL H + Nat.log2 (gi_len H1 (0, 0)) := gi_sum_one (f := fun x => Nat.log2 (gi_len H x)) (g := fun x => Nat.log2 (gi_len H1 x)) gi_al gi_al_nodup h7m (fun t ht htr => by rw [hlen t ht htr])
  have h7l := x4 _ h7m
  have hlg : Nat.log2 (gi_len H (0, 0)) + 1 ≤ Nat.log2 (gi_len H1 (0, 0)) := by
    refine (Nat.le_log2 (by omega)).mpr ?_
    have h2 : 2 ^ Nat.log2 (gi_len H (0, 0)) ≤ gi_len H (0, 0) := Nat.log2_self_le (by omega)
    rw [Nat.pow_succ]
    omega
  have h81 : (0 : Nat) < mu_z H := by omega
  refine ⟨⟨⟨by omega, by omega⟩, fun p k hk => ?_, fun p j q hq => ?_, fun r W hr => ?_, fun p j hp => ?_, fun p j p' j' h1 h2 h3 => ?_, fun p x hx => ?_, ⟨?_, ?_, ?_, ?_, ?_⟩, fun t ht => ?_, fun p j hp hk hj => ?_⟩, ⟨⟨by omega, by omega, by omega⟩, fun p hp => ⟨ek p hp, en p hp⟩, fun p k hk hs => ?_, fun p j hp hs => ?_, fun p hp hk h7 => ?_, fun p hp hn => ?_, fun p hp => ?_, ⟨by omega, by omega, by omega⟩, Or.inr (by unfold tp0; rw [er7]; exact Nat.le_refl _)⟩, by unfold tp0; rw [er7]; rfl, enz, ez, ei, er⟩
  · have := (gi_k_ok hk).1
    rw [ek p (by omega)]
    exact b p k hk
  · obtain ⟨⟨k, hk⟩, -⟩ := gi_r_ok hq
    have := (gi_k_ok hk).1
    rw [er p j (by omega) (fun z => by
      have h1 : gi_r 0 0 = none := rfl
      rw [z.1, z.2, h1] at hq
      cases hq)]
    exact c p j q hq
  · obtain ⟨⟨e1, e2, e3, e4, e5, e6⟩, e7⟩ := e r W hr
    obtain ⟨hr1, -, -, -, hro⟩ := gi_w_ok hr
    obtain ⟨o1, o2, o3⟩ := oz r 1 hro
    have hs : gi_sz H1 r = gi_sz H r := congrArg Int32.toNatClampNeg (ei r o2 2)
    have hc : gi_cap H1 r = gi_cap H r := by unfold gi_cap; rw [er r 1 o2 o3, en _ o1]
    rw [hs, hc]
    exact ⟨⟨his _ _ e1, by rw [er r 1 o2 o3]; exact his _ _ e2, by rw [ei r o2 0]; exact e3, by rw [ei r o2 2]; exact e4, by rw [er r 1 o2 o3, en _ o1]; exact e5, e6⟩, e7⟩
  · obtain ⟨o1, o2, o3⟩ := oz p j hp
    rw [er p j o2 o3]
    exact his _ _ (f p j hp)
  · obtain ⟨o1, o2, o3⟩ := oz p j h1
    obtain ⟨o1', o2', o3'⟩ := oz p' j' h2
    rw [er p j o2 o3, er p' j' o2' o3'] at h3
    exact g p j p' j' h1 h2 h3
  · have := (gi_a_ok hx).1
    rw [ek p (by omega), en p (by omega)]
    exact i p x hx
  · rw [er7]
    exact ⟨rfl, by show mu_z H < mu_z H1; omega, ekz⟩
  · rw [er 81 7 (by omega) (fun z => by have := z.1; omega)]
    exact his _ _ x2
  · rw [er7, er 81 7 (by omega) (fun z => by have := z.1; omega)]
    intro z
    have := x2.2.1
    rw [← z] at this
    exact Nat.lt_irrefl _ this
  · rw [er 81 7 (by omega) (fun z => by have := z.1; omega)]
    exact x6
  · rw [er7]
    intro z
    have := Option.some.inj z
    omega
  · by_cases e1 : t = (0, 0)
    · subst e1
      rw [hl71]
      omega
    · rw [hlen t ht e1]
      exact x4 t ht
  · by_cases hpz : p < mu_z H
    · rw [ek p hpz] at hk
      rw [en p hpz] at hj
      rw [ei p hpz]
      exact x5 p j hpz hk hj
    · have hpe : p = mu_z H := by omega
      subst hpe
      rw [he, mu_i_sr, mu_i_cpi]
      split
      · rw [mu_i_nw, if_neg (by omega)]
        rename_i hx
        exact x5 _ _ h7z h7k (by have := hx.2.2; omega)
      · rw [mu_i_nw, if_pos rfl]
        rfl
  · have := (gi_k_ok hk).1
    exact hsame p (by omega) (fun e1 => by rw [e1, hS] at hs; cases hs)
  · obtain ⟨o1, o2, o3⟩ := oz p j hp
    refine hsame _ o1 (fun e1 => ?_)
    have h1 := (f p j hp).2.2
    rw [e1] at h1
    have h2 : mu_k H 0 = 0 := b 0 0 rfl
    omega
  · refine hsame p hp (fun e1 => ?_)
    have h2 : mu_k H 0 = 0 := b 0 0 rfl
    rw [e1] at hk
    omega
  · exact hsame p hp (fun e1 => hn (Or.inl (by omega)))
  · rcases hp with z | ⟨a, j, z1, z2⟩
    · exact Or.inl (Or.inl z)
    · by_cases e7 : a = 0 ∧ j = 0
      · rw [e7.1, e7.2, er7] at z2
        exact Or.inr (Nat.le_of_eq (Option.some.inj z2))
      · have haz : a < mu_z H := by
          unfold gi_f at z1
          rw [Bool.or_eq_true, Bool.or_eq_true, Bool.or_eq_true] at z1
          rcases z1 with y | y | y | y
          · have := Nat.eq_of_beq_eq_true y; omega
          · have := Nat.eq_of_beq_eq_true y; omega
          · have := Nat.eq_of_beq_eq_true y; omega
          · have := (show ∀ t ∈ gi_fs, t.1 < 169 by decide +kernel) _ (gi_two y)
            have : a < 169 := this
            omega
        rw [er a j haz e7] at z2
        exact Or.inl (Or.inr ⟨a, j, z1, z2⟩)
end TapeGround
