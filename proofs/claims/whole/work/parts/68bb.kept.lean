/-! What stays: heaps grow, and old cells are kept but for some places -/
/-- old cells but those of W are kept; at most a cells and b slots are made -/
def kep (W : Nat → Prop) (a b : Nat) (H H1 : mu_H) : Prop := mu_z H ≤ mu_z H1 ∧ (∀ p, p < mu_z H ∨ 1000000 ≤ p → ¬ W p → mu_same H H1 p) ∧ (mu_z H1 ≤ mu_z H + a ∧ mu_c H1 ≤ mu_c H + a ∧ mu_s H1 ≤ mu_s H + b) ∧ mu_c H ≤ mu_c H1 ∧ mu_s H ≤ mu_s H1
theorem mu_same.rf (H : mu_H) (p : Nat) : mu_same H H p := ⟨rfl, rfl, fun _ _ => rfl⟩
theorem mu_same.tr {H H1 H2 : mu_H} {p : Nat} (h : mu_same H H1 p) (h' : mu_same H1 H2 p) : mu_same H H2 p := ⟨h'.1.trans h.1, h'.2.1.trans h.2.1, fun j tc => (h'.2.2 j tc).trans (h.2.2 j tc)⟩
section Kep
variable {W W' W1 W2 : Nat → Prop} {a b a' b' a1 b1 a2 b2 : Nat} {H H1 H2 : mu_H}
theorem kep.rf : kep W 0 0 H H := ⟨Nat.le_refl _, fun p _ _ => mu_same.rf H p, ⟨Nat.le_refl _, Nat.le_refl _, Nat.le_refl _⟩, Nat.le_refl _, Nat.le_refl _⟩
theorem kep.tr (h1 : kep W1 a1 b1 H H1) (h2 : kep W2 a2 b2 H1 H2) (hW : ∀ p, p < mu_z H ∨ 1000000 ≤ p → W1 p ∨ W2 p → W p) : kep W (a1 + a2) (b1 + b2) H H2 := by
  obtain ⟨x1, x2, ⟨x3, x4, x5⟩, x6, x7⟩ := h1
  obtain ⟨y1, y2, ⟨y3, y4, y5⟩, y6, y7⟩ := h2
  refine ⟨by omega, fun p hp hw => ?_, ⟨by omega, by omega, by omega⟩, by omega, by omega⟩
  exact (x2 p hp (fun q => hw (hW p hp (Or.inl q)))).tr (y2 p (hp.imp (fun z => by omega) id) (fun q => hw (hW p hp (Or.inr q))))
theorem kep.wk (h : kep W a b H H1) (hW : ∀ p, p < mu_z H ∨ 1000000 ≤ p → W p → W' p) (ha : a ≤ a') (hb : b ≤ b') : kep W' a' b' H H1 := by
  obtain ⟨x1, x2, ⟨x3, x4, x5⟩, x6, x7⟩ := h
  exact ⟨x1, fun p hp hw => x2 p hp (fun q => hw (hW p hp q)), ⟨by omega, by omega, by omega⟩, x6, x7⟩
theorem kep.si {q j : Nat} {x : Int32} (h : kep W a b H H1) (hq : W q ∨ ¬ (q < mu_z H ∨ 1000000 ≤ q)) : kep W a b H (mu_si H1 q j x) := by
  obtain ⟨x1, x2, x3, x6, x7⟩ := h
  refine ⟨x1, fun p hp hw => (x2 p hp hw).tr (mu_same_si (fun e => ?_)), x3, x6, x7⟩
  subst e
  rcases hq with hq | hq
  · exact hw hq
  · exact hq hp
theorem kep.sr {q j : Nat} {x : Option Nat} (h : kep W a b H H1) (hq : W q ∨ ¬ (q < mu_z H ∨ 1000000 ≤ q)) : kep W a b H (mu_sr H1 q j x) := by
  obtain ⟨x1, x2, x3, x6, x7⟩ := h
  refine ⟨x1, fun p hp hw => (x2 p hp hw).tr (mu_same_sr (fun e => ?_)), x3, x6, x7⟩
  subst e
  rcases hq with hq | hq
  · exact hw hq
  · exact hq hp
theorem kep.sl {q j : Nat} {x : Int64} (h : kep W a b H H1) (hq : W q ∨ ¬ (q < mu_z H ∨ 1000000 ≤ q)) : kep W a b H (mu_sl H1 q j x) := by
  obtain ⟨x1, x2, x3, x6, x7⟩ := h
  refine ⟨x1, fun p hp hw => (x2 p hp hw).tr (mu_same_sl (fun e => ?_)), x3, x6, x7⟩
  subst e
  rcases hq with hq | hq
  · exact hw hq
  · exact hq hp
theorem kep.cpi {q0 sp q dp n : Nat} (h : kep W a b H H1) (hq : W q ∨ ¬ (q < mu_z H ∨ 1000000 ≤ q)) : kep W a b H (mu_cpi H1 q0 sp q dp n) := by
  obtain ⟨x1, x2, x3, x6, x7⟩ := h
  refine ⟨x1, fun p hp hw => (x2 p hp hw).tr (mu_same_cpi (fun e => ?_)), x3, x6, x7⟩
  subst e
  rcases hq with hq | hq
  · exact hw hq
  · exact hq hp
theorem kep.nw {kd len sl : Nat} (h : kep W a b H H1) (hz : mu_z H1 < 1000000) : kep W (a + 1) (b + sl) H (mu_nw H1 kd len sl) := by
  obtain ⟨x1, x2, ⟨x3, x4, x5⟩, x6, x7⟩ := h
  refine ⟨by rw [mu_z_nw]; omega, fun p hp hw => (x2 p hp hw).tr (mu_same_nw (by omega)), ⟨by rw [mu_z_nw]; omega, by rw [mu_c_nw]; omega, by rw [mu_s_nw]; omega⟩, by rw [mu_c_nw]; omega, by rw [mu_s_nw]; omega⟩
theorem kep.exc (h : kep W a b H H1) : kep W (a + 1) (b + 6) H (mu_ex H1) := by
  obtain ⟨x1, x2, ⟨x3, x4, x5⟩, x6, x7⟩ := h
  have e1 : mu_z (mu_ex H1) = mu_z H1 := rfl
  have e2 : mu_c (mu_ex H1) = mu_c H1 + 1 := rfl
  have e3 : mu_s (mu_ex H1) = mu_s H1 + 6 := rfl
  exact ⟨by omega, fun p hp hw => (x2 p hp hw).tr ⟨rfl, rfl, fun j tc => by unfold mu_f; split <;> rfl⟩, ⟨by omega, by omega, by omega⟩, by omega, by omega⟩
theorem kep.k {p : Nat} (h : kep W a b H H1) (hp : p < mu_z H ∨ 1000000 ≤ p) (hw : ¬ W p) : mu_k H1 p = mu_k H p := (h.2.1 p hp hw).1
theorem kep.len {p : Nat} (h : kep W a b H H1) (hp : p < mu_z H ∨ 1000000 ≤ p) (hw : ¬ W p) : mu_n H1 p = mu_n H p := (h.2.1 p hp hw).2.1
theorem kep.i {p : Nat} (h : kep W a b H H1) (hp : p < mu_z H ∨ 1000000 ≤ p) (hw : ¬ W p) (j : Nat) : mu_i H1 p j = mu_i H p j := Sum.inl.inj ((h.2.1 p hp hw).2.2 j 0)
theorem kep.r {p : Nat} (h : kep W a b H H1) (hp : p < mu_z H ∨ 1000000 ≤ p) (hw : ¬ W p) (j : Nat) : mu_r H1 p j = mu_r H p j := Sum.inr.inj (Sum.inr.inj ((h.2.1 p hp hw).2.2 j 2))
theorem kep.l {p : Nat} (h : kep W a b H H1) (hp : p < mu_z H ∨ 1000000 ≤ p) (hw : ¬ W p) (j : Nat) : mu_l H1 p j = mu_l H p j := Sum.inl.inj (Sum.inr.inj ((h.2.1 p hp hw).2.2 j 3))
theorem kep.is {o : Option Nat} {kd : Nat} (h : kep W a b H H1) (ho : mu_is H o kd) (hw : ¬ W (mu_p o)) : mu_is H1 o kd := ⟨ho.1, Nat.lt_of_lt_of_le ho.2.1 h.1, (h.k (Or.inl ho.2.1) hw).trans ho.2.2⟩
theorem kep.isr {o : Option Nat} {kd : Nat} (h : kep W a b H H1) (ho : mu_isr H o kd) (hw : ¬ W (mu_p o)) : mu_isr H1 o kd := by
  obtain ⟨h1, h2, h3⟩ := ho
  refine ⟨h1, h2.imp (fun z => Nat.lt_of_lt_of_le z h.1) id, (h.k (h2.imp id (fun z => by omega)) hw).trans h3⟩
theorem kep.bya {o : Option Nat} {l : List Int32} (h : kep W a b H H1) (ho : bya H o l) (hw : ¬ W (mu_p o)) : bya H1 o l := by
  obtain ⟨h1, h2, h3⟩ := ho
  have hp : mu_p o < mu_z H ∨ 1000000 ≤ mu_p o := h1.2.1.imp id (fun z => by omega)
  exact ⟨h.isr h1 hw, (h.len hp hw).trans h2, fun i hi => (h.i hp hw i).trans (h3 i hi)⟩
theorem kep.sb {o : Option Nat} {l : List Int32} (h : kep W a b H H1) (ho : sb H o l) (h1 : ¬ W (mu_p o)) (h2 : ¬ W (mu_p (sbv H o))) : sb H1 o l := by
  obtain ⟨k1, k2, k3⟩ := ho
  have hp : mu_p o < mu_z H ∨ 1000000 ≤ mu_p o := by
    rcases k1 with k1 | k1
    · exact Or.inr k1.2.1
    · exact Or.inl k1.2.1
  have ev : sbv H1 o = sbv H o := by
    unfold sbv
    split
    · rfl
    · exact h.r hp h1 0
  have ec : sbc H1 o = sbc H o := by
    unfold sbc
    split
    · rfl
    · exact h.i hp h1 1
  refine ⟨k1.imp id (fun z => h.is z h1), ec.trans k2, ?_⟩
  rw [ev]
  exact h.bya k3 h2
end Kep
/-! Numbers -/
theorem rI_sub {a b : Nat} (h : b ≤ a) : nI a - nI b = nI (a - b) := by
  have e : nI a = nI (a - b) + nI b := by rw [nI_add, Nat.sub_add_cancel h]
  rw [e, Int32.add_sub_cancel]
theorem mu_shl0 (x : Int32) : x <<< ((0 : Int32) &&& 31) = x := by
  rw [show ((0 : Int32) &&& 31) = 0 by decide]
  simp
theorem rI_inj {a b : Nat} (ha : a < 2147483648) (hb : b < 2147483648) (h : nI a = nI b) : a = b := by
  have := congrArg Int32.toInt h
  rw [show (nI a).toInt = (a : Int) from Int32.toInt_ofNat_of_lt ha, show (nI b).toInt = (b : Int) from Int32.toInt_ofNat_of_lt hb] at this
  omega
theorem rI_gt {a b : Nat} (ha : a < 2147483648) (hb : b < 2147483648) : 0 < nI a - nI b ↔ b < a := by
  rw [Int32.lt_iff_toInt_lt, Int32.toInt_sub, show (nI a).toInt = (a : Int) from Int32.toInt_ofNat_of_lt ha, show (nI b).toInt = (b : Int) from Int32.toInt_ofNat_of_lt hb, Int.bmod_eq_of_le (by omega) (by omega), show (0 : Int32).toInt = 0 from by decide]
  omega
