/-! What a row put behind the others leaves -/
def rw_new (H H1 : mu_H) (r W n c : Nat) (g : Nat → Int32) : Prop :=
  (∃ c', (c' = c ∨ c' = 2 * c + W) ∧ rw_ok H1 r W (n + 1) c') ∧
  (∀ p, p < mu_z H → p ≠ r → p ≠ mu_p (mu_r H r 1) → mu_same H H1 p) ∧
  (∀ i, i < n * W → mu_i H1 (mu_p (mu_r H1 r 1)) i = mu_i H (mu_p (mu_r H r 1)) i) ∧
  (∀ j, j < W → mu_i H1 (mu_p (mu_r H1 r 1)) (n * W + j) = g j) ∧
  (mu_r H1 r 1 = mu_r H r 1 ∨ mu_r H1 r 1 = some (mu_z H)) ∧
  (mu_z H ≤ mu_z H1 ∧ mu_z H1 ≤ mu_z H + 1) ∧ (mu_c H ≤ mu_c H1 ∧ mu_c H1 ≤ mu_c H + 1) ∧ (mu_s H ≤ mu_s H1 ∧ mu_s H1 ≤ mu_s H + (2 * c + W))
theorem rw_new_stay {H : mu_H} {r W n c : Nat} (hR : rw_ok H r W n c) (hc3 : (n + 1) * W ≤ c) (g : Nat → Int32) : rw_new H (mu_si (rw_fill H (mu_p (mu_r H r 1)) (n * W) g W) r 2 (nI (n + 1))) r W n c g := by
  have hne : r ≠ mu_p (mu_r H r 1) := mu_ne_k (show mu_k H r = 10 from hR.1.2.2) hR.2.1.2.2 (by decide)
  obtain ⟨a1, a2, e0, e2, en, hc, hW0, hW, hc2⟩ := hR
  refine ⟨⟨c, Or.inl rfl, a1, a2, ?_, ?_, en, hc3, hW0, hW, hc2⟩, fun p hp h1 h2 => ⟨rfl, rfl, fun j tc => ?_⟩, fun i hi => ?_, fun j hj => ?_, Or.inl rfl, ⟨Nat.le_refl _, Nat.le_succ _⟩, ⟨Nat.le_refl _, Nat.le_succ _⟩, ⟨Nat.le_refl _, Nat.le_add_right _ _⟩⟩
  · rw [mu_i_si, if_neg (fun z => by have := z.2; omega), mu_i_fill, if_neg (fun z => hne z.1)]
    exact e0
  · rw [mu_i_si, if_pos ⟨rfl, rfl⟩]
  · unfold mu_f
    split
    · rfl
    · rfl
    · rw [mu_i_si, if_neg (fun z => h1 z.1), mu_i_fill, if_neg (fun z => h2 z.1)]
  · show mu_i (mu_si (rw_fill H (mu_p (mu_r H r 1)) (n * W) g W) r 2 (nI (n + 1))) (mu_p (mu_r H r 1)) i = _
    rw [mu_i_si, if_neg (fun z => hne z.1.symm), mu_i_fill, if_neg (fun z => by have := z.2.1; omega)]
  · show mu_i (mu_si (rw_fill H (mu_p (mu_r H r 1)) (n * W) g W) r 2 (nI (n + 1))) (mu_p (mu_r H r 1)) (n * W + j) = _
    rw [mu_i_si, if_neg (fun z => hne z.1.symm), mu_i_fill, if_pos ⟨rfl, Nat.le_add_right _ _, by omega⟩, Nat.add_sub_cancel_left]
theorem rw_new_grow {H H0 : mu_H} {r W n c : Nat} (hR : rw_ok H r W n c) (hc3 : 2 * c + W ≤ 67108864) (g : Nat → Int32) (h0 : H0 = mu_sr (mu_cpi (mu_nw H 100 (2 * c + W) (2 * c + W)) (mu_p (mu_r H r 1)) 0 (mu_z H) 0 c) r 1 (some (mu_z H))) : rw_new H (mu_si (rw_fill H0 (mu_p (mu_r H0 r 1)) (n * W) g W) r 2 (nI (n + 1))) r W n c g := by
  have hqz : mu_p (mu_r H r 1) < mu_z H := hR.2.1.2.1
  have hrz : r < mu_z H := hR.1.2.1
  obtain ⟨a1, a2, e0, e2, en, hc, hW0, hW, hc2⟩ := hR
  have hmul : (n + 1) * W = n * W + W := Nat.succ_mul n W
  have er : mu_r H0 r 1 = some (mu_z H) := by rw [h0, mu_r_sr, if_pos ⟨rfl, rfl⟩]
  have ek : ∀ p, p < mu_z H → mu_k H0 p = mu_k H p := fun p hp => by rw [h0]; show mu_k (mu_nw H 100 (2 * c + W) (2 * c + W)) p = mu_k H p; rw [mu_k_nw, if_neg (by omega)]
  have enn : ∀ p, p < mu_z H → mu_n H0 p = mu_n H p := fun p hp => by rw [h0]; show mu_n (mu_nw H 100 (2 * c + W) (2 * c + W)) p = mu_n H p; rw [mu_n_nw, if_neg (by omega)]
  have ei : ∀ p j, p < mu_z H → mu_i H0 p j = mu_i H p j := fun p j hp => by
    rw [h0, mu_i_sr, mu_i_cpi, if_neg (fun z => by have := z.1; omega), mu_i_nw, if_neg (by omega)]
  have el : ∀ p j, p < mu_z H → mu_l H0 p j = mu_l H p j := fun p j hp => by
    rw [h0]; show mu_l (mu_nw H 100 (2 * c + W) (2 * c + W)) p j = mu_l H p j; rw [mu_l_nw, if_neg (by omega)]
  have err : ∀ p j, p < mu_z H → p ≠ r → mu_r H0 p j = mu_r H p j := fun p j hp hpr => by
    rw [h0, mu_r_sr, if_neg (fun z => hpr z.1)]; show mu_r (mu_nw H 100 (2 * c + W) (2 * c + W)) p j = mu_r H p j; rw [mu_r_nw, if_neg (by omega)]
  have ez : mu_z H0 = mu_z H + 1 := by rw [h0]; rfl
  have ecp : ∀ i, i < c → mu_i H0 (mu_z H) i = mu_i H (mu_p (mu_r H r 1)) i := fun i hi => by
    rw [h0, mu_i_sr, mu_i_cpi, if_pos ⟨rfl, Nat.zero_le _, by omega⟩, mu_i_nw, if_neg (by omega), Nat.zero_add, Nat.sub_zero]
  have ekz : mu_k H0 (mu_z H) = 100 := by rw [h0]; show mu_k (mu_nw H 100 (2 * c + W) (2 * c + W)) (mu_z H) = 100; rw [mu_k_nw, if_pos rfl]
  have enz : mu_n H0 (mu_z H) = 2 * c + W := by rw [h0]; show mu_n (mu_nw H 100 (2 * c + W) (2 * c + W)) (mu_z H) = 2 * c + W; rw [mu_n_nw, if_pos rfl]
  have ec : mu_c H0 = mu_c H + 1 := by rw [h0]; rfl
  have es : mu_s H0 = mu_s H + (2 * c + W) := by rw [h0]; rfl
  rw [er]
  have er1 : mu_r (mu_si (rw_fill H0 (mu_p (some (mu_z H))) (n * W) g W) r 2 (nI (n + 1))) r 1 = some (mu_z H) := er
  refine ⟨⟨2 * c + W, Or.inr rfl, ⟨rfl, ?_, ?_⟩, ?_, ?_, ?_, ?_, by omega, hW0, hW, hc3⟩, fun p hp h1 h2 => ⟨ek p hp, enn p hp, fun j tc => ?_⟩, fun i hi => ?_, fun j hj => ?_, Or.inr er1, ?_, ?_, ?_⟩
  · show r < mu_z H0; omega
  · show mu_k H0 r = 10; rw [ek r hrz]; exact a1.2.2
  · rw [er1]
    exact ⟨rfl, show mu_z H < mu_z H0 by omega, ekz⟩
  · rw [mu_i_si, if_neg (fun z => by have := z.2; omega), mu_i_fill, if_neg (fun z => by have : r = mu_z H := z.1; omega), ei r 0 hrz]
    exact e0
  · rw [mu_i_si, if_pos ⟨rfl, rfl⟩]
  · rw [er1]; exact enz
  · unfold mu_f
    split
    · exact congrArg (fun x => Sum.inr (Sum.inr x)) (err p j hp h1)
    · exact congrArg (fun x => Sum.inr (Sum.inl x)) (el p j hp)
    · rw [mu_i_si, if_neg (fun z => h1 z.1), mu_i_fill, if_neg (fun z => by have : p = mu_z H := z.1; omega), ei p j hp]
  · rw [er1]
    show mu_i (mu_si (rw_fill H0 (mu_z H) (n * W) g W) r 2 (nI (n + 1))) (mu_z H) i = _
    rw [mu_i_si, if_neg (fun z => by have := z.1; omega), mu_i_fill, if_neg (fun z => by have := z.2.1; omega)]
    exact ecp i (by omega)
  · rw [er1]
    show mu_i (mu_si (rw_fill H0 (mu_z H) (n * W) g W) r 2 (nI (n + 1))) (mu_z H) (n * W + j) = _
    rw [mu_i_si, if_neg (fun z => by have := z.1; omega), mu_i_fill, if_pos ⟨rfl, Nat.le_add_right _ _, by omega⟩, Nat.add_sub_cancel_left]
  · show mu_z H ≤ mu_z H0 ∧ mu_z H0 ≤ mu_z H + 1; omega
  · show mu_c H ≤ mu_c H0 ∧ mu_c H0 ≤ mu_c H + 1; omega
  · show mu_s H ≤ mu_s H0 ∧ mu_s H0 ≤ mu_s H + (2 * c + W); omega
/-- Rows.put, by what it leaves -/
theorem rw_put_new {d r W n c : Nat} {H : mu_H} (hR : rw_ok H r W n c) (hc3 : 2 * c + W ≤ 67108864) (hz : mu_z H + 1 ≤ 1000000) (a1 a2 a3 a4 : Int32) : mu_TI (mu_D (d + 3)) 17 [.inr (.inr (some r)), .inl a1, .inl a2, .inl a3, .inl a4] H (fun x H1 => x = nI n ∧ rw_new H H1 r W n c (rw_col a1 a2 a3 a4)) :=
  (rw_put_ok hR hc3 hz a1 a2 a3 a4).imp (fun x H1 h => by
    obtain ⟨h1, H0, h2, h3⟩ := h
    refine ⟨h1, ?_⟩
    rcases h2 with ⟨h2, h4⟩ | ⟨-, h2⟩
    · subst h2
      rw [h3]
      exact rw_new_stay hR h4 _
    · rw [h3]
      exact rw_new_grow hR hc3 _ h2)
