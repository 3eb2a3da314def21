/-! A FIELD OF INTS IS GIVEN A NEW ARRAY; fit -/
section NewOwner
variable {H H1 : mu_H}
theorem gi.newo {S : Nat → Bool} {P J N : Nat} (h : gi H) (ho : gi_o P J = true) (hr : gi_r P J = none) (hw : gi_w P = none) (hN : 2 * gi_len H (P, J) ≤ N) (hN2 : N ≤ 16777216) (he : H1 = mu_sr (mu_nw H 100 N N) P J (some (mu_z H))) (hS : S P = true) : gi H1 ∧ gk S H H1 ∧ mu_r H1 P J = some (mu_z H) ∧ mu_n H1 (mu_z H) = N ∧ mu_z H1 = mu_z H + 1 ∧ (∀ p, p < mu_z H → ∀ i, mu_i H1 p i = mu_i H p i) ∧ (∀ p j, p < mu_z H → ¬ (p = P ∧ j = J) → mu_r H1 p j = mu_r H p j) ∧ ∀ i, mu_i H1 (mu_z H) i = 0 := by
  obtain ⟨⟨a1, a2⟩, b, c, e, f, g, i, ⟨x1, x2, x3, x6, x7⟩, x4, x5⟩ := h
  obtain ⟨hPf, ⟨kP, hkP⟩, -⟩ := gi_o_ok ho
  have hP := (gi_k_ok hkP).1
  have n00 : ¬ (0 = P ∧ 0 = J) := fun z => by
    have : gi_o 0 0 = false := rfl
    rw [← z.1, ← z.2, this] at ho
    cases ho
  have n81 : ¬ (81 = P ∧ 7 = J) := fun z => by
    have : gi_o 81 7 = false := rfl
    rw [← z.1, ← z.2, this] at ho
    cases ho
  have ek : ∀ p, p < mu_z H → mu_k H1 p = mu_k H p := fun p hp => by rw [he]; show mu_k (mu_nw H 100 N N) p = _; rw [mu_k_nw, if_neg (by omega)]
  have en : ∀ p, p < mu_z H → mu_n H1 p = mu_n H p := fun p hp => by rw [he]; show mu_n (mu_nw H 100 N N) p = _; rw [mu_n_nw, if_neg (by omega)]
  have ei : ∀ p, p < mu_z H → ∀ j, mu_i H1 p j = mu_i H p j := fun p hp j => by
    rw [he, mu_i_sr, mu_i_nw, if_neg (by omega)]
  have ei0 : ∀ j, mu_i H1 (mu_z H) j = 0 := fun j => by
    rw [he, mu_i_sr, mu_i_nw, if_pos rfl]
  have el : ∀ p, p < mu_z H → ∀ j, mu_l H1 p j = mu_l H p j := fun p hp j => by
    rw [he]; show mu_l (mu_nw H 100 N N) p j = _; rw [mu_l_nw, if_neg (by omega)]
  have er : ∀ p j, p < mu_z H → ¬ (p = P ∧ j = J) → mu_r H1 p j = mu_r H p j := fun p j hp hn => by
    rw [he, mu_r_sr, if_neg hn]; show mu_r (mu_nw H 100 N N) p j = _; rw [mu_r_nw, if_neg (by omega)]
  have erP : mu_r H1 P J = some (mu_z H) := by rw [he, mu_r_sr, if_pos ⟨rfl, rfl⟩]
  have ekz : mu_k H1 (mu_z H) = 100 := by rw [he]; show mu_k (mu_nw H 100 N N) (mu_z H) = _; rw [mu_k_nw, if_pos rfl]
  have enz : mu_n H1 (mu_z H) = N := by rw [he]; show mu_n (mu_nw H 100 N N) (mu_z H) = _; rw [mu_n_nw, if_pos rfl]
  have ez : mu_z H1 = mu_z H + 1 := by rw [he]; rfl
  have ec : mu_c H1 = mu_c H + 1 := by rw [he]; rfl
  have es : mu_s H1 = mu_s H + N := by rw [he]; rfl
  have hsame : ∀ p, p < mu_z H → p ≠ P → mu_same H H1 p := fun p hp hn => mu_same.of (ek p hp) (en p hp) (ei p hp) (el p hp) (fun j => er p j hp (fun z => hn z.1))
  have his : ∀ o k, mu_is H o k → mu_is H1 o k := fun o k z => ⟨z.1, by have := z.2.1; omega, by rw [ek _ z.2.1]; exact z.2.2⟩
  have oz : ∀ p j, gi_o p j = true → mu_p (mu_r H p j) < mu_z H ∧ p < mu_z H := fun p j hp => by
    obtain ⟨-, ⟨k, hk⟩, -⟩ := gi_o_ok hp
    have := (gi_k_ok hk).1
    exact ⟨(f p j hp).2.1, by omega⟩
  have hlen : ∀ t ∈ gi_al, t ≠ (P, J) → gi_len H1 t = gi_len H t := fun t ht hn => by
    have key : mu_p (mu_r H t.1 t.2) < mu_z H ∧ t.1 < mu_z H := by
      rcases List.mem_cons.mp ht with e1 | ht
      · subst e1
        exact ⟨x1.2.1, by show 0 < mu_z H; omega⟩
      · rcases List.mem_cons.mp ht with e1 | ht
        · subst e1
          exact ⟨x2.2.1, by show 81 < mu_z H; omega⟩
        · exact oz t.1 t.2 (List.any_eq_true.mpr ⟨t, ht, by rw [Nat.beq_refl, Nat.beq_refl]; rfl⟩)
    unfold gi_len
    rw [er _ _ key.2 (fun z => hn (Prod.ext z.1 z.2)), en _ key.1]
  have hPm : ((P, J) : Nat × Nat) ∈ gi_al := List.mem_cons_of_mem _ (List.mem_cons_of_mem _ (gi_two ho))
  have hlP : gi_len H1 (P, J) = N := by show mu_n H1 (mu_p (mu_r H1 P J)) = N; rw [erP]; exact enz
  have hSC : gi_SC H1 + gi_len H (P, J) = gi_SC H + gi_len H1 (P, J) := gi_sum_one (f := gi_len H) (g := gi_len H1) gi_al gi_al_nodup hPm hlen
  have hSL : gi_SL H1 + Nat.log2 (gi_len H (P, J)) = gi_SL H + Nat.log2 (gi_len H1 (P, J)) := gi_sum_one (f := fun x => Nat.log2 (gi_len H x)) (g := fun x => Nat.log2 (gi_len H1 x)) gi_al gi_al_nodup hPm (fun t ht htr => by rw [hlen t ht htr])
  have hPl := x4 _ hPm
  have hlg : Nat.log2 (gi_len H (P, J)) + 1 ≤ Nat.log2 (gi_len H1 (P, J)) := by
    refine (Nat.le_log2 (by omega)).mpr ?_
    have h2 : 2 ^ Nat.log2 (gi_len H (P, J)) ≤ gi_len H (P, J) := Nat.log2_self_le (by omega)
    rw [Nat.pow_succ]
    omega
  have hPk : mu_k H P = kP := b P kP hkP
  have hPk2 := (gi_k_ok hkP).2
  refine ⟨⟨⟨by omega, by omega⟩, fun p k hk => ?_, fun p j q hq => ?_, fun r W hr => ?_, fun p j hp => ?_, fun p j p' j' h1 h2 h3 => ?_, fun p x hx => ?_, ⟨?_, ?_, ?_, ?_, ?_⟩, fun t ht => ?_, fun p j hp hk hj => ?_⟩, ⟨⟨by omega, by omega, by omega⟩, fun p hp => ⟨ek p hp, en p hp⟩, fun p k hk hs => ?_, fun p j hp hs => ?_, fun p hp hk => ?_, fun p hp hn => ?_, fun p hp => ?_, ⟨by omega, by omega, by omega⟩⟩, erP, enz, ez, ei, er, ei0⟩
  · have := (gi_k_ok hk).1
    rw [ek p (by omega)]
    exact b p k hk
  · obtain ⟨⟨k, hk⟩, -⟩ := gi_r_ok hq
    have := (gi_k_ok hk).1
    rw [er p j (by omega) (fun z => by
      rw [z.1, z.2, hr] at hq
      cases hq)]
    exact c p j q hq
  · obtain ⟨⟨e1, e2, e3, e4, e5, e6⟩, e7⟩ := e r W hr
    obtain ⟨hr1, -, -, -, hro⟩ := gi_w_ok hr
    obtain ⟨o1, o2⟩ := oz r 1 hro
    have o3 : ¬ (r = P ∧ 1 = J) := fun z => by
      rw [z.1, hw] at hr
      cases hr
    have hs : gi_sz H1 r = gi_sz H r := congrArg Int32.toNatClampNeg (ei r o2 2)
    have hc : gi_cap H1 r = gi_cap H r := by unfold gi_cap; rw [er r 1 o2 o3, en _ o1]
    rw [hs, hc]
    exact ⟨⟨his _ _ e1, by rw [er r 1 o2 o3]; exact his _ _ e2, by rw [ei r o2 0]; exact e3, by rw [ei r o2 2]; exact e4, by rw [er r 1 o2 o3, en _ o1]; exact e5, e6⟩, e7⟩
  · by_cases hx : p = P ∧ j = J
    · rw [hx.1, hx.2, erP]
      exact ⟨rfl, by show mu_z H < mu_z H1; omega, ekz⟩
    · obtain ⟨o1, o2⟩ := oz p j hp
      rw [er p j o2 hx]
      exact his _ _ (f p j hp)
  · obtain ⟨o1, o2⟩ := oz p j h1
    obtain ⟨o1', o2'⟩ := oz p' j' h2
    by_cases hx : p = P ∧ j = J
    · by_cases hy : p' = P ∧ j' = J
      · exact ⟨hx.1.trans hy.1.symm, hx.2.trans hy.2.symm⟩
      · rw [er p' j' o2' hy, hx.1, hx.2, erP] at h3
        rw [← h3] at o1'
        exact absurd o1' (Nat.lt_irrefl _)
    · by_cases hy : p' = P ∧ j' = J
      · rw [er p j o2 hx, hy.1, hy.2, erP] at h3
        rw [h3] at o1
        exact absurd o1 (Nat.lt_irrefl _)
      · rw [er p j o2 hx, er p' j' o2' hy] at h3
        exact g p j p' j' h1 h2 h3
  · have := (gi_a_ok hx).1
    rw [ek p (by omega), en p (by omega)]
    exact i p x hx
  · rw [er 0 0 (by omega) n00]
    exact his _ _ x1
  · rw [er 81 7 (by omega) n81]
    exact his _ _ x2
  · rw [er 0 0 (by omega) n00, er 81 7 (by omega) n81]
    exact x3
  · rw [er 81 7 (by omega) n81]
    exact x6
  · rw [er 0 0 (by omega) n00]
    exact x7
  · by_cases e1 : t = (P, J)
    · subst e1
      rw [hlP]
      omega
    · rw [hlen t ht e1]
      exact x4 t ht
  · by_cases hpz : p < mu_z H
    · rw [ek p hpz] at hk
      rw [en p hpz] at hj
      rw [ei p hpz]
      exact x5 p j hpz hk hj
    · have hpe : p = mu_z H := by omega
      subst hpe
      omega
  · exact hsame p (by have := (gi_k_ok hk).1; omega) (fun z => by rw [z, hS] at hs; cases hs)
  · refine hsame _ (oz p j hp).1 (fun z => ?_)
    have := (f p j hp).2.2
    rw [z] at this
    omega
  · refine hsame p hp (fun z => ?_)
    rw [z] at hk
    omega
  · exact hsame p hp (fun z => hn (Or.inl (by omega)))
  · rcases hp with z | ⟨q, j, z1, z2⟩
    · exact Or.inl (Or.inl z)
    · by_cases hx : q = P ∧ j = J
      · rw [hx.1, hx.2, erP] at z2
        exact Or.inr (Nat.le_of_eq (Option.some.inj z2))
      · by_cases hq : q < mu_z H
        · rw [er q j hq hx] at z2
          exact Or.inl (Or.inr ⟨q, j, z1, z2⟩)
        · rw [he, mu_r_sr, if_neg hx] at z2
          by_cases hqz : q = mu_z H
          · have : mu_r (mu_nw H 100 N N) q j = none := by rw [mu_r_nw, if_pos hqz]
            rw [this] at z2
            cases z2
          · have : mu_r (mu_nw H 100 N N) q j = mu_r H q j := by rw [mu_r_nw, if_neg hqz]
            rw [this] at z2
            exact Or.inl (Or.inr ⟨q, j, z1, z2⟩)
/-- a field is written with what it holds -/
theorem mu_sr_id (P J : Nat) : mu_sr H P J (mu_r H P J) = H := by
  obtain ⟨k, n, i, l, r, x⟩ := H
  show (k, n, i, l, (fun p j => if p = P ∧ j = J then r P J else r p j), x) = (k, n, i, l, r, x)
  have : (fun p j => if p = P ∧ j = J then r P J else r p j) = r := by
    funext p j
    by_cases hx : p = P ∧ j = J
    · rw [if_pos hx, hx.1, hx.2]
    · rw [if_neg hx]
  rw [this]
end NewOwner
/-- PathProver.fit([II)[I -/
abbrev mu_m381 : ev_M := (2, (some (.array .int)), [], ev_b381)
theorem mu_g381 : mu_good mu_m381 := mu_goodk ev_k381
theorem fit_ok {d N : Nat} {o : Option Nat} {H : mu_H} (hO : mu_is H o 100) (hN : N ≤ 134217728) (hL : mu_n H (mu_p o) ≤ 67108864) (hz : mu_z H + 1 ≤ 1000000) : mu_TA (mu_D (d + 2)) 381 [.inr (.inr o), .inl (nI N)] H (fun x H1 => (N ≤ mu_n H (mu_p o) ∧ x = o ∧ H1 = H) ∨ (mu_n H (mu_p o) < N ∧ x = some (mu_z H) ∧ H1 = mu_nw H 100 (max N (2 * mu_n H (mu_p o))) (max N (2 * mu_n H (mu_p o))))) := by
  have hi : mu_isr H o (mu_k H (mu_p o)) ∧ 100 ≤ mu_k H (mu_p o) := ⟨⟨hO.1, Or.inl hO.2.1, rfl⟩, by rw [hO.2.2]; exact Nat.le_refl _⟩
  refine mu_meth (M := mu_m381) rfl rfl ?_
  refine mu_go mu_g381 (k := 3) (f1 := (3, [(0, .inr (.inr o)), (1, .inl (nI N))], [.inl (Int32.ofNat (mu_n H (mu_p o))), .inl (nI N)], H)) (C := [mu_isr H o (mu_k H (mu_p o)), 100 ≤ mu_k H (mu_p o)]) rfl hi ?_
  refine mu_if (P := (Int32.ofNat (mu_n H (mu_p o))) < (nI N)) (a := 10) (b := 6) rfl trivial (fun h1 => ?_) (fun h1 => ?_)
  · have hlt : mu_n H (mu_p o) < N := (nI_ltI (by omega) (by omega)).mp h1
    refine mu_go mu_g381 (k := 5) (f1 := (15, [(0, .inr (.inr o)), (1, .inl (nI N))], [.inl ((2 : Int32) * Int32.ofNat (mu_n H (mu_p o))), .inl (nI N)], H)) (C := [mu_isr H o (mu_k H (mu_p o)), 100 ≤ mu_k H (mu_p o)]) rfl hi ?_
    refine mu_cIe rfl trivial (mu_max_ok (d := d) (nI N) ((2 : Int32) * Int32.ofNat (mu_n H (mu_p o)))) ?_
    rw [show mu_max (nI N) ((2 : Int32) * Int32.ofNat (mu_n H (mu_p o))) = nI (max N (2 * mu_n H (mu_p o))) from by
      rw [show (2 : Int32) * Int32.ofNat (mu_n H (mu_p o)) = nI (2 * mu_n H (mu_p o)) from pk_mul 2 _]
      unfold mu_max
      by_cases hx : N < 2 * mu_n H (mu_p o)
      · rw [if_pos ((nI_ltI (by omega) (by omega)).mpr hx), Nat.max_eq_right (by omega)]
      · rw [if_neg (fun z => hx ((nI_ltI (by omega) (by omega)).mp z)), Nat.max_eq_left (by omega)]]
    have hM : max N (2 * mu_n H (mu_p o)) ≤ 134217728 := by omega
    refine mu_go mu_g381 (k := 1) (f1 := (20, [(0, .inr (.inr o)), (1, .inl (nI N))], [.inr (.inr (some (mu_z H)))], (mu_nw H 100 (nI (max N (2 * mu_n H (mu_p o)))).toNatClampNeg (nI (max N (2 * mu_n H (mu_p o)))).toNatClampNeg))) (C := [¬ (nI (max N (2 * mu_n H (mu_p o)))) < 0, (nI (max N (2 * mu_n H (mu_p o)))).toNatClampNeg * ev_bytes 0 ≤ 536870912, mu_z H + 1 ≤ 1000000]) rfl (show (¬ (nI (max N (2 * mu_n H (mu_p o)))) < 0) ∧ ((nI (max N (2 * mu_n H (mu_p o)))).toNatClampNeg * ev_bytes 0 ≤ 536870912) ∧ (mu_z H + 1 ≤ 1000000) from ⟨nI_pos (by omega), by rw [nI_clamp (by omega)]; show (max N (2 * mu_n H (mu_p o))) * 4 ≤ 536870912; omega, hz⟩) ?_
    refine mu_ret rfl trivial ⟨_, _, rfl, Or.inr ⟨hlt, rfl, ?_⟩⟩
    rw [nI_clamp (by omega)]
  · have hge : N ≤ mu_n H (mu_p o) := Nat.le_of_not_lt (fun z => h1 ((nI_ltI (by omega) (by omega)).mpr z))
    refine mu_go mu_g381 (k := 2) (f1 := (20, [(0, .inr (.inr o)), (1, .inl (nI N))], [.inr (.inr o)], H)) (C := []) rfl trivial ?_
    exact mu_ret rfl trivial ⟨_, _, rfl, Or.inl ⟨hge, rfl, rfl⟩⟩
/-- what a field holds is fitted: the field as before, or a new array -/
theorem gi.fitted {S : Nat → Bool} {P J N : Nat} {x : Option Nat} {H H1 : mu_H} (h : gi H) (ho : gi_o P J = true) (hr : gi_r P J = none) (hw : gi_w P = none) (hS : S P = true) (hN : N ≤ 8388608) (hL : gi_len H (P, J) ≤ 8388608) (q : (N ≤ mu_n H (mu_p (mu_r H P J)) ∧ x = mu_r H P J ∧ H1 = H) ∨ (mu_n H (mu_p (mu_r H P J)) < N ∧ x = some (mu_z H) ∧ H1 = mu_nw H 100 (max N (2 * mu_n H (mu_p (mu_r H P J)))) (max N (2 * mu_n H (mu_p (mu_r H P J)))))) : gi (mu_sr H1 P J x) ∧ gk S H (mu_sr H1 P J x) ∧ (∀ p, p < mu_z H → ∀ i, mu_i (mu_sr H1 P J x) p i = mu_i H p i) ∧ (∀ p j, p < mu_z H → ¬ (p = P ∧ j = J) → mu_r (mu_sr H1 P J x) p j = mu_r H p j) ∧ N ≤ gi_len (mu_sr H1 P J x) (P, J) ∧ gi_len H (P, J) ≤ gi_len (mu_sr H1 P J x) (P, J) ∧ gi_len (mu_sr H1 P J x) (P, J) ≤ max (gi_len H (P, J)) (2 * N) := by
  have hl : gi_len H (P, J) = mu_n H (mu_p (mu_r H P J)) := rfl
  rcases q with ⟨q1, q2, q3⟩ | ⟨q1, q2, q3⟩
  · rw [q2, q3, mu_sr_id]
    exact ⟨h, gk.refl _ _, fun _ _ _ => rfl, fun _ _ _ _ => rfl, by omega, Nat.le_refl _, Nat.le_max_left _ _⟩
  · rw [← hl] at q1 q3
    obtain ⟨z1, z2, z3, z4, z5, z6, z7, z8⟩ := h.newo (S := S) (P := P) (J := J) (N := max N (2 * gi_len H (P, J))) (H1 := mu_sr H1 P J x) ho hr hw (by omega) (by omega) (by rw [q2, q3]) hS
    have z9 : gi_len (mu_sr H1 P J x) (P, J) = max N (2 * gi_len H (P, J)) := by
      show mu_n (mu_sr H1 P J x) (mu_p (mu_r (mu_sr H1 P J x) P J)) = _
      rw [z3]
      exact z4
    refine ⟨z1, z2, z6, z7, ?_, ?_, ?_⟩ <;> rw [z9] <;> omega
