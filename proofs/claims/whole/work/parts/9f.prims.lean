/-! THE PARSER ONCE MORE: what its steps write -/
def mdk (x : Int32) (k : List Bool) (ch : Bool) : Prop := ((x = 5 ∨ x = 6) ∧ k = [] ∧ ch = false) ∨ (x = 7 ∧ k = [] ∧ ch = true) ∨ (x = 8 ∧ k = [false] ∧ ch = false) ∨ (x = 9 ∧ k = [true] ∧ ch = true)
/-- the content, by what the Parser is to do next -/
def PC (m : Nat) (H : mu_H) : Prop := (CT (ab m H) ∧ (ab m H 0).1 ≤ 16000000 ∧ (ab m H 11).1 = 0 ∧ ((mu_i H 80 6 = 0 ∧ CE (ab m H)) ∨ ((mu_i H 80 6 = 1 ∨ mu_i H 80 6 = 2 ∨ mu_i H 80 6 = 3 ∨ mu_i H 80 6 = 4 ∨ mu_i H 80 6 = 10) ∧ 1 ≤ (ab m H 1).1))) ∨
  (∃ f k ch, mu_i H 80 9 = nI f ∧ mdk (mu_i H 80 6) k ch ∧ cy (ab m H) f k ch)
section Prims
variable {H H1 : mu_H} {m B : Nat} {X : Ts}
theorem PC_c {x : Int32} {f : Nat} {k : List Bool} {ch : Bool} (e6 : mu_i H 80 6 = x) (e9 : mu_i H 80 9 = nI f) (ea : ab m H = X) (hy : cy X f k ch) (hk : mdk x k ch) : PC m H := Or.inr ⟨f, k, ch, e9, by rw [e6]; exact hk, by rw [ea]; exact hy⟩
theorem PC_0 {x : Int32} (e6 : mu_i H 80 6 = x) (ea : ab m H = X) (hc : CT X) (hb : (X 0).1 ≤ 16000000) (h0 : (X 11).1 = 0) (h1 : (x = 0 ∧ CE X) ∨ ((x = 1 ∨ x = 2 ∨ x = 3 ∨ x = 4 ∨ x = 10) ∧ 1 ≤ (X 1).1)) : PC m H := Or.inl ⟨by rw [ea]; exact hc, by rw [ea]; exact hb, by rw [ea]; exact h0, by rw [e6, ea]; exact h1⟩
theorem pot_0 (h : ps_pot m H ≤ 2000000) : (ab m H 0).1 + 1 ≤ 16000000 := by
  have : (ab m H 0).1 = gi_sz H (m + 1) := rfl
  unfold ps_pot at h
  omega
theorem pot_b (e : ab m H = X) (h : ps_pot m H ≤ 2000000) : (X 0).1 + 1 ≤ 16000000 := by
  rw [← e]
  exact pot_0 h
theorem tq_top (h : ps m H) (e : ab m H = X) {k : Nat} (ht : ps_top H = nI k) (hk : k < 54) : tq X = k := by
  rw [← e]
  exact tq_of ((ps_top_tt h).symm.trans ht) hk
theorem top_tt (h : ps m H) (e : ab m H = X) : ps_top H = tt X := by
  rw [← e]
  exact ps_top_tt h
theorem sz_n (h : ps m H) (e : ab m H = X) {j : Nat} (hj : j < 11) : mu_i H (m + 1 + 2 * j) 2 = nI (X j).1 := by
  rw [← e]
  have hw := ps_wm h.2.1 (show j < 19 by omega)
  have e1 : (ab m H j).1 = gi_sz H (m + 1 + 2 * j) := by
    show (if j < 13 then tb H (rr m j) (wd j) else (0, fun _ _ => 0)).1 = _
    rw [if_pos (by omega)]
    unfold rr
    rw [if_neg (by omega), if_neg (by omega)]
    rfl
  rw [e1]
  exact (h.1.w hw).2.2.2.1
theorem ab_lt (h : ps m H) (e : ab m H = X) {j : Nat} (hj : j < 13) : (X j).1 < 2147483648 := by
  rw [← e]
  have hw := rr_w h.2.1 hj
  have e1 : (ab m H j).1 = gi_sz H (rr m j) := by
    show (if j < 13 then tb H (rr m j) (wd j) else (0, fun _ _ => 0)).1 = _
    rw [if_pos hj]
    rfl
  rw [e1]
  have := rw_n (h.1.w hw)
  omega
theorem ab_cut2 (h : ps m H) : ab m (mu_si H 89 2 (mu_max 0 (mu_min (mu_i H 89 2) (mu_i H 89 2 - 1)))) = td (ab m H) := by
  obtain ⟨a, b, -⟩ := h
  have hR := a.w (r := 89) (W := 2) rfl
  have hn := rw_n hR
  have e2 : mu_i H 89 2 = nI (gi_sz H 89) := hR.2.2.2.1
  obtain ⟨k, hk, ek, hk2⟩ := a.cutn (r := 89) (W := 2) rfl (mu_i H 89 2 - 1)
  have hk3 : k = gi_sz H 89 - 1 := by
    by_cases hs : gi_sz H 89 = 0
    · omega
    · exact hk2 (gi_sz H 89 - 1) (by rw [e2]; exact pk_sub (b := 1) (by omega)) (by omega)
  rw [ek, hk3]
  exact ab_cut a b
/-- the note, by the tables -/
theorem pb_note {d : Nat} (h : ps m H) (e : ab m H = X) : mu_TI (mu_D (d + 2)) 156 [.inr (.inr (some 80))] H (fun x H1 => x = tn X ∧ H1 = H) := by
  rw [← e, ← ps_note_tn h]
  exact pa_note h
theorem tu_set (h : ps m H) {row c v : Int32} (hr : row = mu_i H 89 2 - 1) : fu (ab m H) 11 (tset 2 (tset 2 (ab m H 11) row 0 c) row 1 v) = tu (ab m H) c v := by
  have hR := h.1.w (r := 89) (W := 2) rfl
  have hn := rw_n hR
  have e2 : mu_i H 89 2 = nI (gi_sz H 89) := hR.2.2.2.1
  have e3 : (ab m H 11).1 = gi_sz H 89 := rfl
  unfold tu
  refine congrArg (fu (ab m H) 11) ?_
  by_cases h0 : gi_sz H 89 = 0
  · rw [hr, e2, h0]
    have hneg : nI 0 - 1 < 0 := by decide
    unfold tset
    rw [if_pos hneg, if_pos hneg]
    refine Prod.ext rfl (funext fun i => funext fun k => ?_)
    exact (if_neg (by omega)).symm
  · exact tset_turn (by omega) (by omega) (by rw [hr, e2, e3]; exact pk_sub (b := 1) (by omega))
theorem pb_put0 {d : Nat} (h : ps m H) (hb : ps_pot m H ≤ 2097152) (a1 a2 a3 a4 : Int32) : mu_TI (mu_D (d + 3)) 17 [.inr (.inr (some (m + 1))), .inl a1, .inl a2, .inl a3, .inl a4] H (fun x H1 => ps m H1 ∧ pt m B H H1 ∧ x = nI (gi_sz H (m + 1)) ∧ (∀ i, mu_i H1 80 i = mu_i H 80 i) ∧ gi_sz H1 89 = gi_sz H 89 ∧ ps_pot m H1 = ps_pot m H + 2 ∧ ab m H1 = tp 0 (ab m H) a1 a2 a3 a4) := by
  have hm := h.2.1
  have hb2 : (gi_sz H (m + 1) + 1) * 2 ≤ 4194304 := by unfold ps_pot at hb; omega
  refine (gi_put_ok h.1 h.w0 hb2 a1 a2 a3 a4).imp (fun x H1 q => ?_)
  obtain ⟨q1, q2, q3, q4, q5, q6, q7, q8⟩ := q
  have hf : ∀ p, p ≠ m + 1 → Nat.beq p (m + 1) = false := fun p hp => by
    cases hx : Nat.beq p (m + 1) with
    | false => rfl
    | true => exact absurd (Nat.eq_of_beq_eq_true hx) hp
  obtain ⟨k1, k2, k3, k4⟩ := h.keep q2 q3 (hf 80 (by omega)) (hf 82 (by omega)) (hf 89 (by omega))
  have hs := fun r' hr' W' hw' => (q5 r' hr' W' hw').1
  refine ⟨k1, ⟨q3.mono (fun p hp => ?_), fun i => (q3.obj (p := 81) (k := 4) rfl (hf 81 (by omega))).r i, fun i hi => ?_, ?_⟩, q1, k2, k3, ?_, ab_put hm (j := 0) (by decide) ⟨q3, q4, q5, q6, q7, q8⟩⟩
  · have e := Nat.eq_of_beq_eq_true hp
    exact decide_eq_true (Or.inr (Or.inr (Or.inr (Or.inr (by omega)))))
  · by_cases ei : i = 0
    · subst ei
      exact ⟨Nat.le_of_lt (by show gi_sz H (m + 1) < gi_sz H1 (m + 1); omega), q6.1⟩
    · obtain ⟨z1, z2⟩ := q5 (m + 1 + 2 * i) (by omega) _ (ps_wm hm hi)
      rw [z1, z2]
      exact ⟨Nat.le_refl _, Nat.le_max_left _ _⟩
  · refine ⟨?_, (q5 86 (by omega) 4 rfl).2⟩
    rw [(q5 89 (by omega) 2 rfl).2]
    exact Nat.le_max_left _ _
  · unfold ps_pot
    rw [hs (m + 3) (by omega) _ h.w1, hs (m + 5) (by omega) _ h.w2, hs (m + 7) (by omega) _ h.w3, hs (m + 9) (by omega) _ h.w4, hs (m + 11) (by omega) _ h.w5, hs (m + 13) (by omega) _ h.w6, hs (m + 15) (by omega) _ h.w7, hs (m + 17) (by omega) _ h.w8, hs (m + 19) (by omega) _ h.w9, hs (m + 21) (by omega) _ h.w10, q4, k3, k4, k2, k2]
    omega
theorem pb_put1 {d : Nat} (h : ps m H) (hb : ps_pot m H ≤ 2097152) (a1 a2 a3 a4 : Int32) : mu_TI (mu_D (d + 3)) 17 [.inr (.inr (some (m + 3))), .inl a1, .inl a2, .inl a3, .inl a4] H (fun x H1 => ps m H1 ∧ pt m B H H1 ∧ x = nI (gi_sz H (m + 3)) ∧ (∀ i, mu_i H1 80 i = mu_i H 80 i) ∧ gi_sz H1 89 = gi_sz H 89 ∧ ps_pot m H1 = ps_pot m H + 11 ∧ ab m H1 = tp 1 (ab m H) a1 a2 a3 a4) := by
  have hm := h.2.1
  have hb2 : (gi_sz H (m + 3) + 1) * 11 ≤ 4194304 := by unfold ps_pot at hb; omega
  refine (gi_put_ok h.1 h.w1 hb2 a1 a2 a3 a4).imp (fun x H1 q => ?_)
  obtain ⟨q1, q2, q3, q4, q5, q6, q7, q8⟩ := q
  have hf : ∀ p, p ≠ m + 3 → Nat.beq p (m + 3) = false := fun p hp => by
    cases hx : Nat.beq p (m + 3) with
    | false => rfl
    | true => exact absurd (Nat.eq_of_beq_eq_true hx) hp
  obtain ⟨k1, k2, k3, k4⟩ := h.keep q2 q3 (hf 80 (by omega)) (hf 82 (by omega)) (hf 89 (by omega))
  have hs := fun r' hr' W' hw' => (q5 r' hr' W' hw').1
  refine ⟨k1, ⟨q3.mono (fun p hp => ?_), fun i => (q3.obj (p := 81) (k := 4) rfl (hf 81 (by omega))).r i, fun i hi => ?_, ?_⟩, q1, k2, k3, ?_, ab_put hm (j := 1) (by decide) ⟨q3, q4, q5, q6, q7, q8⟩⟩
  · have e := Nat.eq_of_beq_eq_true hp
    exact decide_eq_true (Or.inr (Or.inr (Or.inr (Or.inr (by omega)))))
  · by_cases ei : i = 1
    · subst ei
      exact ⟨Nat.le_of_lt (by show gi_sz H (m + 3) < gi_sz H1 (m + 3); omega), q6.1⟩
    · obtain ⟨z1, z2⟩ := q5 (m + 1 + 2 * i) (by omega) _ (ps_wm hm hi)
      rw [z1, z2]
      exact ⟨Nat.le_refl _, Nat.le_max_left _ _⟩
  · refine ⟨?_, (q5 86 (by omega) 4 rfl).2⟩
    rw [(q5 89 (by omega) 2 rfl).2]
    exact Nat.le_max_left _ _
  · unfold ps_pot
    rw [hs (m + 1) (by omega) _ h.w0, hs (m + 5) (by omega) _ h.w2, hs (m + 7) (by omega) _ h.w3, hs (m + 9) (by omega) _ h.w4, hs (m + 11) (by omega) _ h.w5, hs (m + 13) (by omega) _ h.w6, hs (m + 15) (by omega) _ h.w7, hs (m + 17) (by omega) _ h.w8, hs (m + 19) (by omega) _ h.w9, hs (m + 21) (by omega) _ h.w10, q4, k3, k4, k2, k2]
    omega
theorem pb_put2 {d : Nat} (h : ps m H) (hb : ps_pot m H ≤ 2097152) (a1 a2 a3 a4 : Int32) : mu_TI (mu_D (d + 3)) 17 [.inr (.inr (some (m + 5))), .inl a1, .inl a2, .inl a3, .inl a4] H (fun x H1 => ps m H1 ∧ pt m B H H1 ∧ x = nI (gi_sz H (m + 5)) ∧ (∀ i, mu_i H1 80 i = mu_i H 80 i) ∧ gi_sz H1 89 = gi_sz H 89 ∧ ps_pot m H1 = ps_pot m H + 1 ∧ ab m H1 = tp 2 (ab m H) a1 a2 a3 a4) := by
  have hm := h.2.1
  have hb2 : (gi_sz H (m + 5) + 1) * 1 ≤ 4194304 := by unfold ps_pot at hb; omega
  refine (gi_put_ok h.1 h.w2 hb2 a1 a2 a3 a4).imp (fun x H1 q => ?_)
  obtain ⟨q1, q2, q3, q4, q5, q6, q7, q8⟩ := q
  have hf : ∀ p, p ≠ m + 5 → Nat.beq p (m + 5) = false := fun p hp => by
    cases hx : Nat.beq p (m + 5) with
    | false => rfl
    | true => exact absurd (Nat.eq_of_beq_eq_true hx) hp
  obtain ⟨k1, k2, k3, k4⟩ := h.keep q2 q3 (hf 80 (by omega)) (hf 82 (by omega)) (hf 89 (by omega))
  have hs := fun r' hr' W' hw' => (q5 r' hr' W' hw').1
  refine ⟨k1, ⟨q3.mono (fun p hp => ?_), fun i => (q3.obj (p := 81) (k := 4) rfl (hf 81 (by omega))).r i, fun i hi => ?_, ?_⟩, q1, k2, k3, ?_, ab_put hm (j := 2) (by decide) ⟨q3, q4, q5, q6, q7, q8⟩⟩
  · have e := Nat.eq_of_beq_eq_true hp
    exact decide_eq_true (Or.inr (Or.inr (Or.inr (Or.inr (by omega)))))
  · by_cases ei : i = 2
    · subst ei
      exact ⟨Nat.le_of_lt (by show gi_sz H (m + 5) < gi_sz H1 (m + 5); omega), q6.1⟩
    · obtain ⟨z1, z2⟩ := q5 (m + 1 + 2 * i) (by omega) _ (ps_wm hm hi)
      rw [z1, z2]
      exact ⟨Nat.le_refl _, Nat.le_max_left _ _⟩
  · refine ⟨?_, (q5 86 (by omega) 4 rfl).2⟩
    rw [(q5 89 (by omega) 2 rfl).2]
    exact Nat.le_max_left _ _
  · unfold ps_pot
    rw [hs (m + 1) (by omega) _ h.w0, hs (m + 3) (by omega) _ h.w1, hs (m + 7) (by omega) _ h.w3, hs (m + 9) (by omega) _ h.w4, hs (m + 11) (by omega) _ h.w5, hs (m + 13) (by omega) _ h.w6, hs (m + 15) (by omega) _ h.w7, hs (m + 17) (by omega) _ h.w8, hs (m + 19) (by omega) _ h.w9, hs (m + 21) (by omega) _ h.w10, q4, k3, k4, k2, k2]
    omega
theorem pb_put3 {d : Nat} (h : ps m H) (hb : ps_pot m H ≤ 2097152) (a1 a2 a3 a4 : Int32) : mu_TI (mu_D (d + 3)) 17 [.inr (.inr (some (m + 7))), .inl a1, .inl a2, .inl a3, .inl a4] H (fun x H1 => ps m H1 ∧ pt m B H H1 ∧ x = nI (gi_sz H (m + 7)) ∧ (∀ i, mu_i H1 80 i = mu_i H 80 i) ∧ gi_sz H1 89 = gi_sz H 89 ∧ ps_pot m H1 = ps_pot m H + 6 ∧ ab m H1 = tp 3 (ab m H) a1 a2 a3 a4) := by
  have hm := h.2.1
  have hb2 : (gi_sz H (m + 7) + 1) * 6 ≤ 4194304 := by unfold ps_pot at hb; omega
  refine (gi_put_ok h.1 h.w3 hb2 a1 a2 a3 a4).imp (fun x H1 q => ?_)
  obtain ⟨q1, q2, q3, q4, q5, q6, q7, q8⟩ := q
  have hf : ∀ p, p ≠ m + 7 → Nat.beq p (m + 7) = false := fun p hp => by
    cases hx : Nat.beq p (m + 7) with
    | false => rfl
    | true => exact absurd (Nat.eq_of_beq_eq_true hx) hp
  obtain ⟨k1, k2, k3, k4⟩ := h.keep q2 q3 (hf 80 (by omega)) (hf 82 (by omega)) (hf 89 (by omega))
  have hs := fun r' hr' W' hw' => (q5 r' hr' W' hw').1
  refine ⟨k1, ⟨q3.mono (fun p hp => ?_), fun i => (q3.obj (p := 81) (k := 4) rfl (hf 81 (by omega))).r i, fun i hi => ?_, ?_⟩, q1, k2, k3, ?_, ab_put hm (j := 3) (by decide) ⟨q3, q4, q5, q6, q7, q8⟩⟩
  · have e := Nat.eq_of_beq_eq_true hp
    exact decide_eq_true (Or.inr (Or.inr (Or.inr (Or.inr (by omega)))))
  · by_cases ei : i = 3
    · subst ei
      exact ⟨Nat.le_of_lt (by show gi_sz H (m + 7) < gi_sz H1 (m + 7); omega), q6.1⟩
    · obtain ⟨z1, z2⟩ := q5 (m + 1 + 2 * i) (by omega) _ (ps_wm hm hi)
      rw [z1, z2]
      exact ⟨Nat.le_refl _, Nat.le_max_left _ _⟩
  · refine ⟨?_, (q5 86 (by omega) 4 rfl).2⟩
    rw [(q5 89 (by omega) 2 rfl).2]
    exact Nat.le_max_left _ _
  · unfold ps_pot
    rw [hs (m + 1) (by omega) _ h.w0, hs (m + 3) (by omega) _ h.w1, hs (m + 5) (by omega) _ h.w2, hs (m + 9) (by omega) _ h.w4, hs (m + 11) (by omega) _ h.w5, hs (m + 13) (by omega) _ h.w6, hs (m + 15) (by omega) _ h.w7, hs (m + 17) (by omega) _ h.w8, hs (m + 19) (by omega) _ h.w9, hs (m + 21) (by omega) _ h.w10, q4, k3, k4, k2, k2]
    omega
theorem pb_put4 {d : Nat} (h : ps m H) (hb : ps_pot m H ≤ 2097152) (a1 a2 a3 a4 : Int32) : mu_TI (mu_D (d + 3)) 17 [.inr (.inr (some (m + 9))), .inl a1, .inl a2, .inl a3, .inl a4] H (fun x H1 => ps m H1 ∧ pt m B H H1 ∧ x = nI (gi_sz H (m + 9)) ∧ (∀ i, mu_i H1 80 i = mu_i H 80 i) ∧ gi_sz H1 89 = gi_sz H 89 ∧ ps_pot m H1 = ps_pot m H + 2 ∧ ab m H1 = tp 4 (ab m H) a1 a2 a3 a4) := by
  have hm := h.2.1
  have hb2 : (gi_sz H (m + 9) + 1) * 2 ≤ 4194304 := by unfold ps_pot at hb; omega
  refine (gi_put_ok h.1 h.w4 hb2 a1 a2 a3 a4).imp (fun x H1 q => ?_)
  obtain ⟨q1, q2, q3, q4, q5, q6, q7, q8⟩ := q
  have hf : ∀ p, p ≠ m + 9 → Nat.beq p (m + 9) = false := fun p hp => by
    cases hx : Nat.beq p (m + 9) with
    | false => rfl
    | true => exact absurd (Nat.eq_of_beq_eq_true hx) hp
  obtain ⟨k1, k2, k3, k4⟩ := h.keep q2 q3 (hf 80 (by omega)) (hf 82 (by omega)) (hf 89 (by omega))
  have hs := fun r' hr' W' hw' => (q5 r' hr' W' hw').1
  refine ⟨k1, ⟨q3.mono (fun p hp => ?_), fun i => (q3.obj (p := 81) (k := 4) rfl (hf 81 (by omega))).r i, fun i hi => ?_, ?_⟩, q1, k2, k3, ?_, ab_put hm (j := 4) (by decide) ⟨q3, q4, q5, q6, q7, q8⟩⟩
  · have e := Nat.eq_of_beq_eq_true hp
    exact decide_eq_true (Or.inr (Or.inr (Or.inr (Or.inr (by omega)))))
  · by_cases ei : i = 4
    · subst ei
      exact ⟨Nat.le_of_lt (by show gi_sz H (m + 9) < gi_sz H1 (m + 9); omega), q6.1⟩
    · obtain ⟨z1, z2⟩ := q5 (m + 1 + 2 * i) (by omega) _ (ps_wm hm hi)
      rw [z1, z2]
      exact ⟨Nat.le_refl _, Nat.le_max_left _ _⟩
  · refine ⟨?_, (q5 86 (by omega) 4 rfl).2⟩
    rw [(q5 89 (by omega) 2 rfl).2]
    exact Nat.le_max_left _ _
  · unfold ps_pot
    rw [hs (m + 1) (by omega) _ h.w0, hs (m + 3) (by omega) _ h.w1, hs (m + 5) (by omega) _ h.w2, hs (m + 7) (by omega) _ h.w3, hs (m + 11) (by omega) _ h.w5, hs (m + 13) (by omega) _ h.w6, hs (m + 15) (by omega) _ h.w7, hs (m + 17) (by omega) _ h.w8, hs (m + 19) (by omega) _ h.w9, hs (m + 21) (by omega) _ h.w10, q4, k3, k4, k2, k2]
    omega
theorem pb_put5 {d : Nat} (h : ps m H) (hb : ps_pot m H ≤ 2097152) (a1 a2 a3 a4 : Int32) : mu_TI (mu_D (d + 3)) 17 [.inr (.inr (some (m + 11))), .inl a1, .inl a2, .inl a3, .inl a4] H (fun x H1 => ps m H1 ∧ pt m B H H1 ∧ x = nI (gi_sz H (m + 11)) ∧ (∀ i, mu_i H1 80 i = mu_i H 80 i) ∧ gi_sz H1 89 = gi_sz H 89 ∧ ps_pot m H1 = ps_pot m H + 2 ∧ ab m H1 = tp 5 (ab m H) a1 a2 a3 a4) := by
  have hm := h.2.1
  have hb2 : (gi_sz H (m + 11) + 1) * 2 ≤ 4194304 := by unfold ps_pot at hb; omega
  refine (gi_put_ok h.1 h.w5 hb2 a1 a2 a3 a4).imp (fun x H1 q => ?_)
  obtain ⟨q1, q2, q3, q4, q5, q6, q7, q8⟩ := q
  have hf : ∀ p, p ≠ m + 11 → Nat.beq p (m + 11) = false := fun p hp => by
    cases hx : Nat.beq p (m + 11) with
    | false => rfl
    | true => exact absurd (Nat.eq_of_beq_eq_true hx) hp
  obtain ⟨k1, k2, k3, k4⟩ := h.keep q2 q3 (hf 80 (by omega)) (hf 82 (by omega)) (hf 89 (by omega))
  have hs := fun r' hr' W' hw' => (q5 r' hr' W' hw').1
  refine ⟨k1, ⟨q3.mono (fun p hp => ?_), fun i => (q3.obj (p := 81) (k := 4) rfl (hf 81 (by omega))).r i, fun i hi => ?_, ?_⟩, q1, k2, k3, ?_, ab_put hm (j := 5) (by decide) ⟨q3, q4, q5, q6, q7, q8⟩⟩
  · have e := Nat.eq_of_beq_eq_true hp
    exact decide_eq_true (Or.inr (Or.inr (Or.inr (Or.inr (by omega)))))
  · by_cases ei : i = 5
    · subst ei
      exact ⟨Nat.le_of_lt (by show gi_sz H (m + 11) < gi_sz H1 (m + 11); omega), q6.1⟩
    · obtain ⟨z1, z2⟩ := q5 (m + 1 + 2 * i) (by omega) _ (ps_wm hm hi)
      rw [z1, z2]
      exact ⟨Nat.le_refl _, Nat.le_max_left _ _⟩
  · refine ⟨?_, (q5 86 (by omega) 4 rfl).2⟩
    rw [(q5 89 (by omega) 2 rfl).2]
    exact Nat.le_max_left _ _
  · unfold ps_pot
    rw [hs (m + 1) (by omega) _ h.w0, hs (m + 3) (by omega) _ h.w1, hs (m + 5) (by omega) _ h.w2, hs (m + 7) (by omega) _ h.w3, hs (m + 9) (by omega) _ h.w4, hs (m + 13) (by omega) _ h.w6, hs (m + 15) (by omega) _ h.w7, hs (m + 17) (by omega) _ h.w8, hs (m + 19) (by omega) _ h.w9, hs (m + 21) (by omega) _ h.w10, q4, k3, k4, k2, k2]
    omega
theorem pb_put6 {d : Nat} (h : ps m H) (hb : ps_pot m H ≤ 2097152) (a1 a2 a3 a4 : Int32) : mu_TI (mu_D (d + 3)) 17 [.inr (.inr (some (m + 13))), .inl a1, .inl a2, .inl a3, .inl a4] H (fun x H1 => ps m H1 ∧ pt m B H H1 ∧ x = nI (gi_sz H (m + 13)) ∧ (∀ i, mu_i H1 80 i = mu_i H 80 i) ∧ gi_sz H1 89 = gi_sz H 89 ∧ ps_pot m H1 = ps_pot m H + 3 ∧ ab m H1 = tp 6 (ab m H) a1 a2 a3 a4) := by
  have hm := h.2.1
  have hb2 : (gi_sz H (m + 13) + 1) * 3 ≤ 4194304 := by unfold ps_pot at hb; omega
  refine (gi_put_ok h.1 h.w6 hb2 a1 a2 a3 a4).imp (fun x H1 q => ?_)
  obtain ⟨q1, q2, q3, q4, q5, q6, q7, q8⟩ := q
  have hf : ∀ p, p ≠ m + 13 → Nat.beq p (m + 13) = false := fun p hp => by
    cases hx : Nat.beq p (m + 13) with
    | false => rfl
    | true => exact absurd (Nat.eq_of_beq_eq_true hx) hp
  obtain ⟨k1, k2, k3, k4⟩ := h.keep q2 q3 (hf 80 (by omega)) (hf 82 (by omega)) (hf 89 (by omega))
  have hs := fun r' hr' W' hw' => (q5 r' hr' W' hw').1
  refine ⟨k1, ⟨q3.mono (fun p hp => ?_), fun i => (q3.obj (p := 81) (k := 4) rfl (hf 81 (by omega))).r i, fun i hi => ?_, ?_⟩, q1, k2, k3, ?_, ab_put hm (j := 6) (by decide) ⟨q3, q4, q5, q6, q7, q8⟩⟩
  · have e := Nat.eq_of_beq_eq_true hp
    exact decide_eq_true (Or.inr (Or.inr (Or.inr (Or.inr (by omega)))))
  · by_cases ei : i = 6
    · subst ei
      exact ⟨Nat.le_of_lt (by show gi_sz H (m + 13) < gi_sz H1 (m + 13); omega), q6.1⟩
    · obtain ⟨z1, z2⟩ := q5 (m + 1 + 2 * i) (by omega) _ (ps_wm hm hi)
      rw [z1, z2]
      exact ⟨Nat.le_refl _, Nat.le_max_left _ _⟩
  · refine ⟨?_, (q5 86 (by omega) 4 rfl).2⟩
    rw [(q5 89 (by omega) 2 rfl).2]
    exact Nat.le_max_left _ _
  · unfold ps_pot
    rw [hs (m + 1) (by omega) _ h.w0, hs (m + 3) (by omega) _ h.w1, hs (m + 5) (by omega) _ h.w2, hs (m + 7) (by omega) _ h.w3, hs (m + 9) (by omega) _ h.w4, hs (m + 11) (by omega) _ h.w5, hs (m + 15) (by omega) _ h.w7, hs (m + 17) (by omega) _ h.w8, hs (m + 19) (by omega) _ h.w9, hs (m + 21) (by omega) _ h.w10, q4, k3, k4, k2, k2]
    omega
theorem pb_put7 {d : Nat} (h : ps m H) (hb : ps_pot m H ≤ 2097152) (a1 a2 a3 a4 : Int32) : mu_TI (mu_D (d + 3)) 17 [.inr (.inr (some (m + 15))), .inl a1, .inl a2, .inl a3, .inl a4] H (fun x H1 => ps m H1 ∧ pt m B H H1 ∧ x = nI (gi_sz H (m + 15)) ∧ (∀ i, mu_i H1 80 i = mu_i H 80 i) ∧ gi_sz H1 89 = gi_sz H 89 ∧ ps_pot m H1 = ps_pot m H + 4 ∧ ab m H1 = tp 7 (ab m H) a1 a2 a3 a4) := by
  have hm := h.2.1
  have hb2 : (gi_sz H (m + 15) + 1) * 4 ≤ 4194304 := by unfold ps_pot at hb; omega
  refine (gi_put_ok h.1 h.w7 hb2 a1 a2 a3 a4).imp (fun x H1 q => ?_)
  obtain ⟨q1, q2, q3, q4, q5, q6, q7, q8⟩ := q
  have hf : ∀ p, p ≠ m + 15 → Nat.beq p (m + 15) = false := fun p hp => by
    cases hx : Nat.beq p (m + 15) with
    | false => rfl
    | true => exact absurd (Nat.eq_of_beq_eq_true hx) hp
  obtain ⟨k1, k2, k3, k4⟩ := h.keep q2 q3 (hf 80 (by omega)) (hf 82 (by omega)) (hf 89 (by omega))
  have hs := fun r' hr' W' hw' => (q5 r' hr' W' hw').1
  refine ⟨k1, ⟨q3.mono (fun p hp => ?_), fun i => (q3.obj (p := 81) (k := 4) rfl (hf 81 (by omega))).r i, fun i hi => ?_, ?_⟩, q1, k2, k3, ?_, ab_put hm (j := 7) (by decide) ⟨q3, q4, q5, q6, q7, q8⟩⟩
  · have e := Nat.eq_of_beq_eq_true hp
    exact decide_eq_true (Or.inr (Or.inr (Or.inr (Or.inr (by omega)))))
  · by_cases ei : i = 7
    · subst ei
      exact ⟨Nat.le_of_lt (by show gi_sz H (m + 15) < gi_sz H1 (m + 15); omega), q6.1⟩
    · obtain ⟨z1, z2⟩ := q5 (m + 1 + 2 * i) (by omega) _ (ps_wm hm hi)
      rw [z1, z2]
      exact ⟨Nat.le_refl _, Nat.le_max_left _ _⟩
  · refine ⟨?_, (q5 86 (by omega) 4 rfl).2⟩
    rw [(q5 89 (by omega) 2 rfl).2]
    exact Nat.le_max_left _ _
  · unfold ps_pot
    rw [hs (m + 1) (by omega) _ h.w0, hs (m + 3) (by omega) _ h.w1, hs (m + 5) (by omega) _ h.w2, hs (m + 7) (by omega) _ h.w3, hs (m + 9) (by omega) _ h.w4, hs (m + 11) (by omega) _ h.w5, hs (m + 13) (by omega) _ h.w6, hs (m + 17) (by omega) _ h.w8, hs (m + 19) (by omega) _ h.w9, hs (m + 21) (by omega) _ h.w10, q4, k3, k4, k2, k2]
    omega
theorem pb_put8 {d : Nat} (h : ps m H) (hb : ps_pot m H ≤ 2097152) (a1 a2 a3 a4 : Int32) : mu_TI (mu_D (d + 3)) 17 [.inr (.inr (some (m + 17))), .inl a1, .inl a2, .inl a3, .inl a4] H (fun x H1 => ps m H1 ∧ pt m B H H1 ∧ x = nI (gi_sz H (m + 17)) ∧ (∀ i, mu_i H1 80 i = mu_i H 80 i) ∧ gi_sz H1 89 = gi_sz H 89 ∧ ps_pot m H1 = ps_pot m H + 3 ∧ ab m H1 = tp 8 (ab m H) a1 a2 a3 a4) := by
  have hm := h.2.1
  have hb2 : (gi_sz H (m + 17) + 1) * 3 ≤ 4194304 := by unfold ps_pot at hb; omega
  refine (gi_put_ok h.1 h.w8 hb2 a1 a2 a3 a4).imp (fun x H1 q => ?_)
  obtain ⟨q1, q2, q3, q4, q5, q6, q7, q8⟩ := q
  have hf : ∀ p, p ≠ m + 17 → Nat.beq p (m + 17) = false := fun p hp => by
    cases hx : Nat.beq p (m + 17) with
    | false => rfl
    | true => exact absurd (Nat.eq_of_beq_eq_true hx) hp
  obtain ⟨k1, k2, k3, k4⟩ := h.keep q2 q3 (hf 80 (by omega)) (hf 82 (by omega)) (hf 89 (by omega))
  have hs := fun r' hr' W' hw' => (q5 r' hr' W' hw').1
  refine ⟨k1, ⟨q3.mono (fun p hp => ?_), fun i => (q3.obj (p := 81) (k := 4) rfl (hf 81 (by omega))).r i, fun i hi => ?_, ?_⟩, q1, k2, k3, ?_, ab_put hm (j := 8) (by decide) ⟨q3, q4, q5, q6, q7, q8⟩⟩
  · have e := Nat.eq_of_beq_eq_true hp
    exact decide_eq_true (Or.inr (Or.inr (Or.inr (Or.inr (by omega)))))
  · by_cases ei : i = 8
    · subst ei
      exact ⟨Nat.le_of_lt (by show gi_sz H (m + 17) < gi_sz H1 (m + 17); omega), q6.1⟩
    · obtain ⟨z1, z2⟩ := q5 (m + 1 + 2 * i) (by omega) _ (ps_wm hm hi)
      rw [z1, z2]
      exact ⟨Nat.le_refl _, Nat.le_max_left _ _⟩
  · refine ⟨?_, (q5 86 (by omega) 4 rfl).2⟩
    rw [(q5 89 (by omega) 2 rfl).2]
    exact Nat.le_max_left _ _
  · unfold ps_pot
    rw [hs (m + 1) (by omega) _ h.w0, hs (m + 3) (by omega) _ h.w1, hs (m + 5) (by omega) _ h.w2, hs (m + 7) (by omega) _ h.w3, hs (m + 9) (by omega) _ h.w4, hs (m + 11) (by omega) _ h.w5, hs (m + 13) (by omega) _ h.w6, hs (m + 15) (by omega) _ h.w7, hs (m + 19) (by omega) _ h.w9, hs (m + 21) (by omega) _ h.w10, q4, k3, k4, k2, k2]
    omega
theorem pb_put9 {d : Nat} (h : ps m H) (hb : ps_pot m H ≤ 2097152) (a1 a2 a3 a4 : Int32) : mu_TI (mu_D (d + 3)) 17 [.inr (.inr (some (m + 19))), .inl a1, .inl a2, .inl a3, .inl a4] H (fun x H1 => ps m H1 ∧ pt m B H H1 ∧ x = nI (gi_sz H (m + 19)) ∧ (∀ i, mu_i H1 80 i = mu_i H 80 i) ∧ gi_sz H1 89 = gi_sz H 89 ∧ ps_pot m H1 = ps_pot m H + 4 ∧ ab m H1 = tp 9 (ab m H) a1 a2 a3 a4) := by
  have hm := h.2.1
  have hb2 : (gi_sz H (m + 19) + 1) * 4 ≤ 4194304 := by unfold ps_pot at hb; omega
  refine (gi_put_ok h.1 h.w9 hb2 a1 a2 a3 a4).imp (fun x H1 q => ?_)
  obtain ⟨q1, q2, q3, q4, q5, q6, q7, q8⟩ := q
  have hf : ∀ p, p ≠ m + 19 → Nat.beq p (m + 19) = false := fun p hp => by
    cases hx : Nat.beq p (m + 19) with
    | false => rfl
    | true => exact absurd (Nat.eq_of_beq_eq_true hx) hp
  obtain ⟨k1, k2, k3, k4⟩ := h.keep q2 q3 (hf 80 (by omega)) (hf 82 (by omega)) (hf 89 (by omega))
  have hs := fun r' hr' W' hw' => (q5 r' hr' W' hw').1
  refine ⟨k1, ⟨q3.mono (fun p hp => ?_), fun i => (q3.obj (p := 81) (k := 4) rfl (hf 81 (by omega))).r i, fun i hi => ?_, ?_⟩, q1, k2, k3, ?_, ab_put hm (j := 9) (by decide) ⟨q3, q4, q5, q6, q7, q8⟩⟩
  · have e := Nat.eq_of_beq_eq_true hp
    exact decide_eq_true (Or.inr (Or.inr (Or.inr (Or.inr (by omega)))))
  · by_cases ei : i = 9
    · subst ei
      exact ⟨Nat.le_of_lt (by show gi_sz H (m + 19) < gi_sz H1 (m + 19); omega), q6.1⟩
    · obtain ⟨z1, z2⟩ := q5 (m + 1 + 2 * i) (by omega) _ (ps_wm hm hi)
      rw [z1, z2]
      exact ⟨Nat.le_refl _, Nat.le_max_left _ _⟩
  · refine ⟨?_, (q5 86 (by omega) 4 rfl).2⟩
    rw [(q5 89 (by omega) 2 rfl).2]
    exact Nat.le_max_left _ _
  · unfold ps_pot
    rw [hs (m + 1) (by omega) _ h.w0, hs (m + 3) (by omega) _ h.w1, hs (m + 5) (by omega) _ h.w2, hs (m + 7) (by omega) _ h.w3, hs (m + 9) (by omega) _ h.w4, hs (m + 11) (by omega) _ h.w5, hs (m + 13) (by omega) _ h.w6, hs (m + 15) (by omega) _ h.w7, hs (m + 17) (by omega) _ h.w8, hs (m + 21) (by omega) _ h.w10, q4, k3, k4, k2, k2]
    omega
theorem pb_put10 {d : Nat} (h : ps m H) (hb : ps_pot m H ≤ 2097152) (a1 a2 a3 a4 : Int32) : mu_TI (mu_D (d + 3)) 17 [.inr (.inr (some (m + 21))), .inl a1, .inl a2, .inl a3, .inl a4] H (fun x H1 => ps m H1 ∧ pt m B H H1 ∧ x = nI (gi_sz H (m + 21)) ∧ (∀ i, mu_i H1 80 i = mu_i H 80 i) ∧ gi_sz H1 89 = gi_sz H 89 ∧ ps_pot m H1 = ps_pot m H + 1 ∧ ab m H1 = tp 10 (ab m H) a1 a2 a3 a4) := by
  have hm := h.2.1
  have hb2 : (gi_sz H (m + 21) + 1) * 1 ≤ 4194304 := by unfold ps_pot at hb; omega
  refine (gi_put_ok h.1 h.w10 hb2 a1 a2 a3 a4).imp (fun x H1 q => ?_)
  obtain ⟨q1, q2, q3, q4, q5, q6, q7, q8⟩ := q
  have hf : ∀ p, p ≠ m + 21 → Nat.beq p (m + 21) = false := fun p hp => by
    cases hx : Nat.beq p (m + 21) with
    | false => rfl
    | true => exact absurd (Nat.eq_of_beq_eq_true hx) hp
  obtain ⟨k1, k2, k3, k4⟩ := h.keep q2 q3 (hf 80 (by omega)) (hf 82 (by omega)) (hf 89 (by omega))
  have hs := fun r' hr' W' hw' => (q5 r' hr' W' hw').1
  refine ⟨k1, ⟨q3.mono (fun p hp => ?_), fun i => (q3.obj (p := 81) (k := 4) rfl (hf 81 (by omega))).r i, fun i hi => ?_, ?_⟩, q1, k2, k3, ?_, ab_put hm (j := 10) (by decide) ⟨q3, q4, q5, q6, q7, q8⟩⟩
  · have e := Nat.eq_of_beq_eq_true hp
    exact decide_eq_true (Or.inr (Or.inr (Or.inr (Or.inr (by omega)))))
  · by_cases ei : i = 10
    · subst ei
      exact ⟨Nat.le_of_lt (by show gi_sz H (m + 21) < gi_sz H1 (m + 21); omega), q6.1⟩
    · obtain ⟨z1, z2⟩ := q5 (m + 1 + 2 * i) (by omega) _ (ps_wm hm hi)
      rw [z1, z2]
      exact ⟨Nat.le_refl _, Nat.le_max_left _ _⟩
  · refine ⟨?_, (q5 86 (by omega) 4 rfl).2⟩
    rw [(q5 89 (by omega) 2 rfl).2]
    exact Nat.le_max_left _ _
  · unfold ps_pot
    rw [hs (m + 1) (by omega) _ h.w0, hs (m + 3) (by omega) _ h.w1, hs (m + 5) (by omega) _ h.w2, hs (m + 7) (by omega) _ h.w3, hs (m + 9) (by omega) _ h.w4, hs (m + 11) (by omega) _ h.w5, hs (m + 13) (by omega) _ h.w6, hs (m + 15) (by omega) _ h.w7, hs (m + 17) (by omega) _ h.w8, hs (m + 19) (by omega) _ h.w9, q4, k3, k4, k2, k2]
    omega
theorem pb_put11 {d : Nat} (h : ps m H) (hb : ps_pot m H ≤ 2097152) (hB : ps_pot m H ≤ B + 100) {k : Nat} (hk : k < 54) (a2 a3 a4 : Int32) : mu_TI (mu_D (d + 3)) 17 [.inr (.inr (some 89)), .inl (nI k), .inl a2, .inl a3, .inl a4] H (fun x H1 => ps m H1 ∧ pt m B H H1 ∧ (∀ i, mu_i H1 80 i = mu_i H 80 i) ∧ gi_sz H1 89 = gi_sz H 89 + 1 ∧ ps_pot m H1 = ps_pot m H + 4 ∧ ab m H1 = tp 11 (ab m H) (nI k) a2 a3 a4) := by
  have hm := h.2.1
  have hb2 : (gi_sz H 89 + 1) * 2 ≤ 4194304 := by unfold ps_pot at hb; omega
  have hb3 : 4 * gi_sz H 89 ≤ ps_pot m H := by unfold ps_pot; omega
  refine (gi_put_ok h.1 (r := 89) (W := 2) rfl hb2 (nI k) a2 a3 a4).imp (fun x H1 q => ?_)
  obtain ⟨-, q2, q3, q4, q5, q6, q7, q8⟩ := q
  obtain ⟨a, b, c, e, f, g⟩ := h
  have s80 := q3.obj (p := 80) (k := 7) rfl rfl
  have s82 := q3.obj (p := 82) (k := 10) rfl rfl
  have e82 : ∀ i, cel H1 82 i = cel H 82 i := fun i => by unfold cel; rw [s82.r]; exact (q3.2.2.2.1 82 1 rfl rfl).i i
  have z82 : gi_sz H1 82 = gi_sz H 82 := by unfold gi_sz; rw [s82.i]
  have hs := fun r' hr' W' hw' => (q5 r' hr' W' hw').1
  have h0 : ps m H := ⟨a, b, c, e, f, g⟩
  refine ⟨⟨q2, b, by rw [s80.r]; exact c, fun i hi => ?_, by rw [z82, e82]; exact f, by rw [s80.i, s80.i, z82]; exact g⟩, ⟨q3.mono (fun p hp => ?_), fun i => (q3.obj (p := 81) (k := 4) rfl rfl).r i, fun i hi => ?_, ?_⟩, s80.i, q4, ?_, ab_put hm (j := 11) (by decide) ⟨q3, q4, q5, q6, q7, q8⟩⟩
  · by_cases hi2 : i < gi_sz H 89
    · obtain ⟨k', hk', ek'⟩ := e i hi2
      exact ⟨k', hk', (q7 (i * 2) (by omega)).trans ek'⟩
    · have hie : i = gi_sz H 89 := by omega
      subst hie
      exact ⟨k, hk, q8 0 (by decide)⟩
  · exact decide_eq_true (Or.inr (Or.inr (Or.inr (Or.inl (Nat.eq_of_beq_eq_true hp)))))
  · obtain ⟨z1, z2⟩ := q5 (m + 1 + 2 * i) (by omega) _ (ps_wm hm hi)
    rw [z1, z2]
    exact ⟨Nat.le_refl _, Nat.le_max_left _ _⟩
  · have := q6.1
    exact ⟨by omega, (q5 86 (by decide) 4 rfl).2⟩
  · unfold ps_pot
    rw [hs (m + 1) (by omega) _ h0.w0, hs (m + 3) (by omega) _ h0.w1, hs (m + 5) (by omega) _ h0.w2, hs (m + 7) (by omega) _ h0.w3, hs (m + 9) (by omega) _ h0.w4, hs (m + 11) (by omega) _ h0.w5, hs (m + 13) (by omega) _ h0.w6, hs (m + 15) (by omega) _ h0.w7, hs (m + 17) (by omega) _ h0.w8, hs (m + 19) (by omega) _ h0.w9, hs (m + 21) (by omega) _ h0.w10, q4, z82, s80.i, s80.i]
    omega
end Prims
