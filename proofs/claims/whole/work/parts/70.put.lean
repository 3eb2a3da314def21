/-! Rows of the ground: rows put, written, cut, read -/
section Ground2
variable {H H1 : mu_H}
theorem rw_set_same {r W n j p : Nat} {row v : Int32} (hp : p ≠ mu_p (mu_r H r 1)) : mu_same H (rw_set H r W n row j v) p := by
  unfold rw_set
  split
  · exact mu_same.refl H p
  · split
    · exact mu_same_si hp
    · exact mu_same.refl H p
/-- the array of a Rows is no object, no other's array, no array of another kind, and the class comes to it -/
theorem gi.cell (h : gi H) {r W : Nat} (hr : gi_w r = some W) : (∀ p k, gi_k p = some k → p ≠ mu_p (mu_r H r 1)) ∧ (∀ p j, gi_o p j = true → p ≠ r → mu_p (mu_r H p j) ≠ mu_p (mu_r H r 1)) ∧ (∀ p, 101 ≤ mu_k H p → p ≠ mu_p (mu_r H r 1)) ∧ gi_cd H (mu_p (mu_r H r 1)) := by
  have hc := (h.w hr).2.1
  obtain ⟨-, -, -, -, ho⟩ := gi_w_ok hr
  refine ⟨fun p k hp e => ?_, fun p j hp hpr e => ?_, fun p hp e => ?_, Or.inr ⟨r, 1, (gi_o_ok ho).1, hc.1⟩⟩
  · have h1 : mu_k H p = k := (h.is hp).2.2
    rw [e, hc.2.2] at h1
    have := (gi_k_ok hp).2
    omega
  · have h1 := (h.o hp).1
    have h2 : mu_r H p j = mu_r H r 1 := by rw [h1, e]; exact hc.1.symm
    exact hpr (h.2.2.2.2.2.1 p j r 1 hp ho h2).1
  · rw [e, hc.2.2] at hp
    omega
theorem gk.set {S : Nat → Bool} (h : gi H) {r W j : Nat} {row v : Int32} (hr : gi_w r = some W) (hS : S r = true) : gk S H (rw_set H r W (gi_sz H r) row j v) := by
  obtain ⟨c1, c2, c3, c4⟩ := h.cell hr
  have he := rw_set_eq H r W (gi_sz H r) row j v
  have ek : ∀ p, mu_k (rw_set H r W (gi_sz H r) row j v) p = mu_k H p := fun p => by unfold mu_k; rw [he.1]
  have en : ∀ p, mu_n (rw_set H r W (gi_sz H r) row j v) p = mu_n H p := fun p => by unfold mu_n; rw [he.2.1]
  have er : ∀ p i, mu_r (rw_set H r W (gi_sz H r) row j v) p i = mu_r H p i := fun p i => by unfold mu_r; rw [he.2.2]
  have ez : mu_z (rw_set H r W (gi_sz H r) row j v) = mu_z H := by unfold mu_z; rw [he.2.2]
  have ec : mu_c (rw_set H r W (gi_sz H r) row j v) = mu_c H := by unfold mu_c; rw [he.2.2]
  have es : mu_s (rw_set H r W (gi_sz H r) row j v) = mu_s H := by unfold mu_s; rw [he.2.2]
  have ecap : ∀ r', gi_cap (rw_set H r W (gi_sz H r) row j v) r' = gi_cap H r' := fun r' => by unfold gi_cap; rw [er, en]
  have elen : ∀ t, gi_len (rw_set H r W (gi_sz H r) row j v) t = gi_len H t := fun t => by unfold gi_len; rw [er, en]
  have eSL : gi_SL (rw_set H r W (gi_sz H r) row j v) = gi_SL H := by unfold gi_SL; simp only [elen]
  have eSC : gi_SC (rw_set H r W (gi_sz H r) row j v) = gi_SC H := by
    unfold gi_SC
    exact gi_sum_eq gi_al (fun t _ => elen t)
  refine ⟨⟨Nat.le_of_eq ez.symm, Nat.le_of_eq ec.symm, Nat.le_of_eq es.symm⟩, fun p _ => ⟨ek p, en p⟩, fun p k hp _ => rw_set_same (c1 p k hp), fun p i hp hs => rw_set_same (c2 p i hp (fun e => by rw [e, hS] at hs; cases hs)), fun p _ hp => rw_set_same (c3 p hp), fun p _ hn => rw_set_same (fun e => hn (by rw [e]; exact c4)), fun p hp => Or.inl ?_, ?_⟩
  · rcases hp with z | ⟨a, i, z1, z2⟩
    · exact Or.inl z
    · exact Or.inr ⟨a, i, z1, by rw [er] at z2; exact z2⟩
  · rw [ez, ec, es, eSL, eSC]
    exact ⟨Nat.le_refl _, Nat.le_refl _, Nat.le_refl _⟩
/-- what Rows.put leaves, and what it costs -/
def gp (H H1 : mu_H) (r W n c : Nat) (g : Nat → Int32) : Prop :=
  (∀ p, p < mu_z H → p ≠ r → p ≠ mu_p (mu_r H r 1) → mu_same H H1 p) ∧
  (∀ p, p < mu_z H → mu_k H1 p = mu_k H p ∧ mu_n H1 p = mu_n H p) ∧
  rw_ok H1 r W (n + 1) (gi_cap H1 r) ∧
  (∀ i, i < n * W → mu_i H1 (mu_p (mu_r H1 r 1)) i = mu_i H (mu_p (mu_r H r 1)) i) ∧
  (∀ j, j < W → mu_i H1 (mu_p (mu_r H1 r 1)) (n * W + j) = g j) ∧
  ((mu_r H1 r 1 = mu_r H r 1 ∧ mu_z H1 = mu_z H ∧ mu_c H1 = mu_c H ∧ mu_s H1 = mu_s H) ∨
   (c < (n + 1) * W ∧ mu_r H1 r 1 = some (mu_z H) ∧ mu_n H1 (mu_z H) = 2 * c + W ∧ mu_z H1 = mu_z H + 1 ∧ mu_c H1 = mu_c H + 1 ∧ mu_s H1 = mu_s H + (2 * c + W)))
theorem gp_of {H0 : mu_H} {r W n c : Nat} {g : Nat → Int32} (hR : rw_ok H r W n c) (hc3 : 2 * c + W ≤ 67108864) (h2 : (H0 = H ∧ (n + 1) * W ≤ c) ∨ (c < (n + 1) * W ∧ H0 = mu_sr (mu_cpi (mu_nw H 100 (2 * c + W) (2 * c + W)) (mu_p (mu_r H r 1)) 0 (mu_z H) 0 c) r 1 (some (mu_z H)))) (h3 : H1 = mu_si (rw_fill H0 (mu_p (mu_r H0 r 1)) (n * W) g W) r 2 (nI (n + 1))) : gp H H1 r W n c g := by
  have hqz : mu_p (mu_r H r 1) < mu_z H := hR.2.1.2.1
  have cap : ∀ c', rw_ok H1 r W (n + 1) c' → rw_ok H1 r W (n + 1) (gi_cap H1 r) := fun c' hc' => by
    have e : gi_cap H1 r = c' := hc'.2.2.2.2.1
    rw [e]; exact hc'
  rcases h2 with ⟨h2, h4⟩ | ⟨h4, h2⟩
  · subst h2
    have hN := rw_new_stay hR h4 g
    rw [← h3] at hN
    obtain ⟨⟨c', -, hc'⟩, n2, n3, n4, -, -, -, -⟩ := hN
    refine ⟨n2, fun p _ => ?_, cap c' hc', n3, n4, Or.inl ?_⟩
    · rw [h3]; exact ⟨rfl, rfl⟩
    · rw [h3]; exact ⟨rfl, rfl, rfl, rfl⟩
  · have hN := rw_new_grow hR hc3 g h2
    rw [← h3] at hN
    obtain ⟨⟨c', -, hc'⟩, n2, n3, n4, -, -, -, -⟩ := hN
    have ek : ∀ p, mu_k H1 p = mu_k (mu_nw H 100 (2 * c + W) (2 * c + W)) p := fun p => by rw [h3, h2]; rfl
    have en : ∀ p, mu_n H1 p = mu_n (mu_nw H 100 (2 * c + W) (2 * c + W)) p := fun p => by rw [h3, h2]; rfl
    refine ⟨n2, fun p hp => ⟨?_, ?_⟩, cap c' hc', n3, n4, Or.inr ⟨h4, ?_, ?_, ?_, ?_, ?_⟩⟩
    · rw [ek, mu_k_nw, if_neg (by omega)]
    · rw [en, mu_n_nw, if_neg (by omega)]
    · rw [h3, h2]
      show mu_r (mu_sr _ r 1 (some (mu_z H))) r 1 = _
      rw [mu_r_sr, if_pos ⟨rfl, rfl⟩]
    · rw [en, mu_n_nw, if_pos rfl]
    · rw [h3, h2]; rfl
    · rw [h3, h2]; rfl
    · rw [h3, h2]; rfl
/-- what stays of the other Rows, what grows of this one -/
def gq (H H1 : mu_H) (r W : Nat) (g : Nat → Int32) : Prop :=
  gk (fun p => Nat.beq p r) H H1 ∧ gi_sz H1 r = gi_sz H r + 1 ∧ (∀ r', r' ≠ r → ∀ W', gi_w r' = some W' → gi_sz H1 r' = gi_sz H r' ∧ gi_cap H1 r' = gi_cap H r') ∧
  (gi_cap H1 r ≤ max (gi_cap H r) (2 * (gi_sz H1 r * W) + W) ∧ gi_cap H r ≤ gi_cap H1 r) ∧
  (∀ i, i < gi_sz H r * W → mu_i H1 (mu_p (mu_r H1 r 1)) i = mu_i H (mu_p (mu_r H r 1)) i) ∧
  (∀ j, j < W → mu_i H1 (mu_p (mu_r H1 r 1)) (gi_sz H r * W + j) = g j)
theorem gi.put (h : gi H) {r W : Nat} {g : Nat → Int32} (hr : gi_w r = some W) (hn : (gi_sz H r + 1) * W ≤ 4194304) (hp : gp H H1 r W (gi_sz H r) (gi_cap H r) g) : gi H1 ∧ gq H H1 r W g := by
  obtain ⟨c1, c2, c3, c4⟩ := h.cell hr
  obtain ⟨hr167, hW0, hW11, hrk, hro⟩ := gi_w_ok hr
  have hR := h.w hr
  have hrz : r < mu_z H := hR.1.2.1
  have hqz : mu_p (mu_r H r 1) < mu_z H := hR.2.1.2.1
  have h0 := h
  obtain ⟨⟨a1, a2⟩, b, c, e, f, g', i⟩ := h
  obtain ⟨p1, p2, p3, p4, p5, p6⟩ := hp
  have hcap := (e r W hr).2
  have hz : mu_z H ≤ mu_z H1 := by rcases p6 with z | z <;> omega
  have hobj : ∀ p k, gi_k p = some k → p ≠ r → mu_same H H1 p := fun p k hk hpr => p1 p (by have := (gi_k_ok hk).1; omega) hpr (c1 p k hk)
  have hrow : ∀ r', r' ≠ r → ∀ W', gi_w r' = some W' → gi_sz H1 r' = gi_sz H r' ∧ gi_cap H1 r' = gi_cap H r' := fun r' hr' W' hw' => by
    obtain ⟨-, -, -, hk', ho'⟩ := gi_w_ok hw'
    have hs := hobj r' 10 hk' hr'
    refine ⟨?_, ?_⟩
    · unfold gi_sz; rw [hs.i]
    · unfold gi_cap; rw [hs.r, (p2 _ (f r' 1 ho').2.1).2]
  have hsz : gi_sz H1 r = gi_sz H r + 1 := by
    have hh := rw_n p3
    show (mu_i H1 r 2).toNatClampNeg = _
    rw [p3.2.2.2.1]
    exact nI_clamp (by omega)
  have hcap1 : (gi_cap H1 r = gi_cap H r ∧ mu_z H1 = mu_z H ∧ mu_c H1 = mu_c H ∧ mu_s H1 = mu_s H) ∨ (gi_cap H r < (gi_sz H r + 1) * W ∧ gi_cap H1 r = 2 * gi_cap H r + W ∧ mu_z H1 = mu_z H + 1 ∧ mu_c H1 = mu_c H + 1 ∧ mu_s H1 = mu_s H + (2 * gi_cap H r + W)) := by
    rcases p6 with ⟨z1, z2, z3, z4⟩ | ⟨z1, z2, z3, z4⟩
    · refine Or.inl ⟨?_, z2, z3, z4⟩
      show mu_n H1 (mu_p (mu_r H1 r 1)) = mu_n H (mu_p (mu_r H r 1))
      rw [z1, (p2 _ hqz).2]
    · refine Or.inr ⟨z1, ?_, z4⟩
      show mu_n H1 (mu_p (mu_r H1 r 1)) = _
      rw [z2]
      exact z3
  have hrm : (r, 1) ∈ gi_al := List.mem_cons_of_mem _ (List.mem_cons_of_mem _ (gi_two hro))
  have half : ∀ t ∈ gi_al, (∃ k, gi_k t.1 = some k) ∧ (t.1 = r → t.2 = 1) := fun t ht => by
    rcases List.mem_cons.mp ht with e1 | ht
    · subst e1
      exact ⟨⟨0, rfl⟩, fun e2 => by rw [← e2] at hr; cases hr⟩
    · rcases List.mem_cons.mp ht with e1 | ht
      · subst e1
        exact ⟨⟨4, rfl⟩, fun e2 => by rw [← e2] at hr; cases hr⟩
      · have ho : gi_o t.1 t.2 = true := List.any_eq_true.mpr ⟨t, ht, by rw [Nat.beq_refl, Nat.beq_refl]; rfl⟩
        exact ⟨(gi_o_ok ho).2.1, fun e2 => (gi_o_ok ho).2.2 W (by rw [e2]; exact hr)⟩
  have hlz : ∀ t ∈ gi_al, mu_p (mu_r H t.1 t.2) < mu_z H := fun t ht => by
    rcases List.mem_cons.mp ht with e1 | ht
    · subst e1; exact i.2.1.1.2.1
    · rcases List.mem_cons.mp ht with e1 | ht
      · subst e1; exact i.2.1.2.1.2.1
      · have ho : gi_o t.1 t.2 = true := List.any_eq_true.mpr ⟨t, ht, by rw [Nat.beq_refl, Nat.beq_refl]; rfl⟩
        exact (f t.1 t.2 ho).2.1
  have hlen : ∀ t ∈ gi_al, t ≠ (r, 1) → gi_len H1 t = gi_len H t := fun t ht htr => by
    obtain ⟨⟨k, hk⟩, h1⟩ := half t ht
    have hne : t.1 ≠ r := fun e => htr (by rw [← h1 e, ← e])
    unfold gi_len
    rw [(hobj t.1 k hk hne).r, (p2 _ (hlz t ht)).2]
  have hSC : gi_SC H1 + gi_cap H r = gi_SC H + gi_cap H1 r := gi_sum_one (f := gi_len H) (g := gi_len H1) gi_al gi_al_nodup hrm hlen
  have hSL : gi_SL H1 + Nat.log2 (gi_cap H r) = gi_SL H + Nat.log2 (gi_cap H1 r) := gi_sum_one (f := fun x => Nat.log2 (gi_len H x)) (g := fun x => Nat.log2 (gi_len H1 x)) gi_al gi_al_nodup hrm (fun t ht htr => by rw [hlen t ht htr])
  have hlg : gi_cap H1 r = 2 * gi_cap H r + W → Nat.log2 (gi_cap H r) + 1 ≤ Nat.log2 (gi_cap H1 r) := fun hx => by
    refine (Nat.le_log2 (by omega)).mpr ?_
    have h2 : 2 ^ Nat.log2 (gi_cap H r) ≤ gi_cap H r := Nat.log2_self_le (by omega)
    rw [Nat.pow_succ]
    omega
  have hcred : mu_s H1 + 2 * gi_SC H ≤ mu_s H + 2 * gi_SC H1 ∧ mu_z H1 + gi_SL H ≤ mu_z H + gi_SL H1 ∧ mu_c H1 + gi_SL H ≤ mu_c H + gi_SL H1 := by
    rcases hcap1 with ⟨z1, z2, z3, z4⟩ | ⟨z1, z2, z3, z4, z5⟩
    · rw [z1] at hSL hSC
      refine ⟨by omega, by omega, by omega⟩
    · have := hlg z2
      refine ⟨by omega, by omega, by omega⟩
  have hcs : mu_c H ≤ mu_c H1 ∧ mu_s H ≤ mu_s H1 := by rcases p6 with z | z <;> omega
  have hgi : gi H1 := by
    refine ⟨⟨by omega, by omega⟩, fun p k hk => ?_, fun p j q hq => ?_, fun r' W' hw' => ?_, fun p j hpj => ?_, fun p j p' j' h1 h2 h3 => ?_, fun p x hx => ?_, ?_⟩
    · rw [(p2 p (by have := (gi_k_ok hk).1; omega)).1]
      exact b p k hk
    · obtain ⟨⟨k, hk⟩, hw⟩ := gi_r_ok hq
      rw [(hobj p k hk (fun e => by rw [e, hr] at hw; cases hw)).r]
      exact c p j q hq
    · by_cases er : r' = r
      · subst er
        cases hr.symm.trans hw'
        rw [hsz]
        refine ⟨p3, ?_⟩
        rcases hcap1 with ⟨z1, -⟩ | ⟨z1, z2, -⟩ <;> omega
      · obtain ⟨s1, s2⟩ := hrow r' er W' hw'
        obtain ⟨-, -, -, hk', ho'⟩ := gi_w_ok hw'
        have hs := hobj r' 10 hk' er
        obtain ⟨⟨e1, e2, e3, e4, e5, e6, e7⟩, e8⟩ := e r' W' hw'
        rw [s1, s2]
        refine ⟨⟨⟨rfl, by show r' < mu_z H1; have : r' < mu_z H := e1.2.1; omega, by show mu_k H1 r' = 10; rw [hs.1]; exact e1.2.2⟩, ?_, by rw [hs.i]; exact e3, by rw [hs.i]; exact e4, ?_, e6, e7⟩, e8⟩
        · rw [hs.r]
          exact ⟨e2.1, by have := e2.2.1; omega, by rw [(p2 _ e2.2.1).1]; exact e2.2.2⟩
        · rw [hs.r, (p2 _ e2.2.1).2]
          exact e5
    · by_cases er : p = r
      · subst er
        have hj := (gi_o_ok hpj).2.2 W hr
        subst hj
        exact p3.2.1
      · obtain ⟨-, ⟨k, hk⟩, -⟩ := gi_o_ok hpj
        rw [(hobj p k hk er).r]
        have hf := f p j hpj
        exact ⟨hf.1, by have := hf.2.1; omega, by rw [(p2 _ hf.2.1).1]; exact hf.2.2⟩
    · have other : ∀ p j, gi_o p j = true → p ≠ r → mu_r H1 p j = mu_r H p j := fun p j hpj er => by
        obtain ⟨-, ⟨k, hk⟩, -⟩ := gi_o_ok hpj
        exact (hobj p k hk er).r j
      have fresh : ∀ p j, gi_o p j = true → p ≠ r → mu_r H1 p j = mu_r H1 r 1 → False := fun p j hpj er hx => by
        rw [other p j hpj er] at hx
        rcases p6 with ⟨z1, -⟩ | ⟨-, z2, -⟩
        · rw [z1] at hx
          exact er (g' p j r 1 hpj hro hx).1
        · rw [z2] at hx
          have h4 := (f p j hpj).2.1
          rw [hx] at h4
          exact Nat.lt_irrefl _ h4
      by_cases er : p = r
      · by_cases er' : p' = r
        · subst er
          subst er'
          exact ⟨rfl, ((gi_o_ok h1).2.2 W hr).trans ((gi_o_ok h2).2.2 W hr).symm⟩
        · have hj := (gi_o_ok h1).2.2 W (by rw [er]; exact hr)
          rw [er, hj] at h3
          exact (fresh p' j' h2 er' h3.symm).elim
      · by_cases er' : p' = r
        · have hj := (gi_o_ok h2).2.2 W (by rw [er']; exact hr)
          rw [er', hj] at h3
          exact (fresh p j h1 er h3).elim
        · rw [other p j h1 er, other p' j' h2 er'] at h3
          exact g' p j p' j' h1 h2 h3
    · have := (gi_a_ok hx).1
      rw [(p2 p (by omega)).1, (p2 p (by omega)).2]
      exact i.1 p x hx
    · obtain ⟨⟨x1, x2, x3⟩, x4, x5⟩ := i.2
      have s0 := hobj 0 0 rfl (fun e => by rw [← e] at hr; cases hr)
      have s81 := hobj 81 4 rfl (fun e => by rw [← e] at hr; cases hr)
      have hcapb : 1 ≤ gi_cap H1 r ∧ gi_cap H1 r ≤ 16777216 := by rcases hcap1 with ⟨z1, -⟩ | ⟨z1, z2, -⟩ <;> omega
      refine ⟨⟨?_, ?_, ?_⟩, fun t ht => ?_, fun p i' hpz hk hi' => ?_⟩
      · rw [s0.r]
        exact ⟨x1.1, by have := x1.2.1; omega, by rw [(p2 _ x1.2.1).1]; exact x1.2.2⟩
      · rw [s81.r]
        exact ⟨x2.1, by have := x2.2.1; omega, by rw [(p2 _ x2.2.1).1]; exact x2.2.2⟩
      · rw [s0.r, s81.r]; exact x3
      · by_cases e1 : t = (r, 1)
        · subst e1
          exact hcapb
        · rw [hlen t ht e1]
          exact x4 t ht
      · by_cases hpn : p < mu_z H
        · rw [(p2 p hpn).1] at hk
          rw [(p2 p hpn).2] at hi'
          rw [(p1 p hpn (fun e => by rw [e] at hk; have h2 : mu_k H r = 10 := hR.1.2.2; omega) (c3 p (by omega))).i]
          exact x5 p i' hpn hk hi'
        · exfalso
          rcases p6 with ⟨-, y2, -⟩ | ⟨-, y2, -, y4, -⟩
          · omega
          · have hpe : p = mu_z H := by omega
            have h3 := p3.2.1.2.2
            rw [y2] at h3
            have h4 : mu_k H1 (mu_z H) = 100 := h3
            rw [hpe] at hk
            omega
  refine ⟨hgi, ⟨⟨hz, hcs.1, hcs.2⟩, p2, fun p k hk hs => hobj p k hk (fun e => ?_), fun p j hpj hs => ?_, fun p hpz hk => p1 p hpz (fun e => ?_) (c3 p hk), fun p hpz hcd => p1 p hpz (fun e => hcd (Or.inl (by omega))) (fun e => hcd (by rw [e]; exact c4)), fun p hp => ?_, hcred⟩, hsz, hrow, ?_, p4, p5⟩
  · have hs : Nat.beq p r = false := hs
    rw [e, Nat.beq_refl] at hs
    cases hs
  · have hs : Nat.beq p r = false := hs
    have hne : p ≠ r := fun e => by rw [e, Nat.beq_refl] at hs; cases hs
    have hf := f p j hpj
    refine p1 _ hf.2.1 (fun e => ?_) (c2 p j hpj hne)
    have h1 := hf.2.2
    rw [e] at h1
    have h2 : mu_k H r = 10 := hR.1.2.2
    omega
  · rw [e] at hk
    have h2 : mu_k H r = 10 := hR.1.2.2
    omega
  · rcases hp with z | ⟨a, j, z1, z2⟩
    · exact Or.inl (Or.inl z)
    · by_cases ear : a = r
      · have hj : j = 1 := gi_f_rows hr (by rw [← ear]; exact z1)
        rw [ear, hj] at z2
        rcases p6 with ⟨y1, -⟩ | ⟨-, y2, -⟩
        · rw [y1] at z2
          exact Or.inl (Or.inr ⟨r, 1, (gi_o_ok hro).1, z2⟩)
        · rw [y2] at z2
          exact Or.inr (Nat.le_of_eq (Option.some.inj z2))
      · have hsame : mu_same H H1 a := by
          unfold gi_f at z1
          rw [Bool.or_eq_true, Bool.or_eq_true, Bool.or_eq_true] at z1
          have lit : ∀ q, gi_a q = some (104, (gi_a q).get!.2) → a = q → mu_same H H1 a := fun q hq ea => by
            have hka := (i.1 q _ hq).1
            have hq199 := (gi_a_ok hq).1
            rw [ea]
            refine p1 q (by omega) (fun e => by omega) (c3 q (by rw [hka]; exact (show 101 ≤ 104 by decide)))
          rcases z1 with y | y | y | y
          · exact lit 114 rfl (Nat.eq_of_beq_eq_true y)
          · exact lit 161 rfl (Nat.eq_of_beq_eq_true y)
          · exact lit 163 rfl (Nat.eq_of_beq_eq_true y)
          · have hk := (show ∀ t ∈ gi_fs, (gi_k t.1).isSome = true by decide +kernel) _ (gi_two y)
            obtain ⟨k, hk⟩ := Option.isSome_iff_exists.mp hk
            exact hobj a k hk ear
        rw [hsame.r] at z2
        exact Or.inl (Or.inr ⟨a, j, z1, z2⟩)
  · rcases hcap1 with ⟨z1, -⟩ | ⟨z1, z2, -⟩
    · exact ⟨by rw [z1]; exact Nat.le_max_left _ _, by omega⟩
    · exact ⟨by rw [z2, hsz]; refine Nat.le_trans ?_ (Nat.le_max_right _ _); omega, by omega⟩
theorem gi_put_ok {d r W : Nat} (h : gi H) (hr : gi_w r = some W) (hn : (gi_sz H r + 1) * W ≤ 4194304) (a1 a2 a3 a4 : Int32) : mu_TI (mu_D (d + 3)) 17 [.inr (.inr (some r)), .inl a1, .inl a2, .inl a3, .inl a4] H (fun x H1 => x = nI (gi_sz H r) ∧ gi H1 ∧ gq H H1 r W (rw_col a1 a2 a3 a4)) := by
  have hcap := (h.2.2.2.1 r W hr).2
  have hW := (gi_w_ok hr).2.2.1
  refine (rw_put_ok (h.w hr) (by omega) h.z a1 a2 a3 a4).imp (fun x H1 q => ?_)
  obtain ⟨q1, H0, q2, q3⟩ := q
  exact ⟨q1, h.put hr hn (gp_of (h.w hr) (by omega) q2 q3)⟩
theorem gi_get_ok {d r W : Nat} (h : gi H) (hr : gi_w r = some W) (row : Int32) {j : Nat} (hj : j < 2 ^ 31) : mu_TI (mu_D (d + 1)) 46 [.inr (.inr (some r)), .inl row, .inl (nI j)] H (fun x H1 => x = rw_get H r W (gi_sz H r) row j ∧ H1 = H) := rw_get_ok (h.w hr) row hj
theorem gi_set_ok {d r W : Nat} (h : gi H) (hr : gi_w r = some W) (row v : Int32) {j : Nat} (hj : j < 2 ^ 31) : mu_TV (mu_D (d + 1)) 116 [.inr (.inr (some r)), .inl row, .inl (nI j), .inl v] H (fun H1 => H1 = rw_set H r W (gi_sz H r) row j v) := rw_set_ok (h.w hr) row v hj
/-- what cut leaves -/
theorem gi.cutn (h : gi H) {r W : Nat} (hr : gi_w r = some W) (k : Int32) : ∃ m, m ≤ gi_sz H r ∧ mu_max 0 (mu_min (mu_i H r 2) k) = nI m ∧ (∀ i, k = nI i → i ≤ gi_sz H r → m = i) := by
  have hR := h.w hr
  have hn := rw_n hR
  have e2 : mu_i H r 2 = nI (gi_sz H r) := hR.2.2.2.1
  rw [e2]
  generalize gi_sz H r = n at hn ⊢
  by_cases hk : k < 0
  · refine ⟨0, Nat.zero_le _, ?_, fun i hi hin => ?_⟩
    · have h1 : k < nI n := Int32.lt_iff_toInt_lt.mpr (by
        have := Int32.lt_iff_toInt_lt.mp hk
        rw [nI_toInt (by omega)]
        have h3 : (0 : Int32).toInt = 0 := rfl
        omega)
      unfold mu_min mu_max
      rw [if_pos h1, if_neg (fun h2 => by
        have h3 := Int32.lt_iff_toInt_lt.mp h2
        have h4 := Int32.lt_iff_toInt_lt.mp hk
        omega)]
      rfl
    · exfalso
      rw [hi] at hk
      have := Int32.lt_iff_toInt_lt.mp hk
      rw [nI_toInt (by omega)] at this
      have h3 : (0 : Int32).toInt = 0 := rfl
      omega
  · obtain ⟨i, hi, rfl⟩ := nI_of hk
    by_cases hin : i < n
    · refine ⟨i, by omega, ?_, fun i' hi' hin' => ?_⟩
      · unfold mu_min mu_max
        rw [if_pos ((nI_ltI hi (by omega)).mpr hin)]
        by_cases h0 : (0 : Int32) < nI i
        · rw [if_pos h0]
        · rw [if_neg h0]
          have : ¬ 0 < i := fun z => h0 ((nI_ltI (a := 0) (by omega) hi).mpr z)
          rw [show i = 0 by omega]
          rfl
      · have := congrArg Int32.toNatClampNeg hi'
        rw [nI_clamp hi, nI_clamp (by omega)] at this
        exact this
    · refine ⟨n, Nat.le_refl _, ?_, fun i' hi' hin' => ?_⟩
      · unfold mu_min mu_max
        rw [if_neg (fun z => hin ((nI_ltI hi (by omega)).mp z))]
        by_cases h0 : (0 : Int32) < nI n
        · rw [if_pos h0]
        · rw [if_neg h0]
          have : ¬ 0 < n := fun z => h0 ((nI_ltI (a := 0) (by omega) (by omega)).mpr z)
          rw [show n = 0 by omega]
          rfl
      · have := congrArg Int32.toNatClampNeg hi'
        rw [nI_clamp hi, nI_clamp (by omega)] at this
        omega
end Ground2
