/-! What stays of the reference: fields of its object, cells -/
/-- of the object at 169 the ints of Fi and the references of Fr may change -/
def fld (Fi Fr : List Nat) (H H1 : mu_H) : Prop := (∀ k, k ∉ Fi → mu_i H1 169 k = mu_i H 169 k) ∧ (∀ k, k ∉ Fr → mu_r H1 169 k = mu_r H 169 k) ∧ mu_k H1 169 = mu_k H 169
/-- ... and the cells of W; a cells and b slots at most are made -/
def rfr (Fi Fr : List Nat) (W : Nat → Prop) (a b : Nat) (H H1 : mu_H) : Prop := kep (fun p => p = 169 ∨ W p) a b H H1 ∧ fld Fi Fr H H1
section Rfr
variable {Fi Fr Fi' Fr' Fi1 Fr1 Fi2 Fr2 : List Nat} {W W' W1 W2 : Nat → Prop} {a b a' b' a1 b1 a2 b2 : Nat} {H H1 H2 : mu_H}
theorem rfr.rf : rfr Fi Fr W 0 0 H H := ⟨kep.rf, fun _ _ => rfl, fun _ _ => rfl, rfl⟩
theorem rfr.tr (h1 : rfr Fi1 Fr1 W1 a1 b1 H H1) (h2 : rfr Fi2 Fr2 W2 a2 b2 H1 H2) (hi : ∀ k, k ∈ Fi1 ∨ k ∈ Fi2 → k ∈ Fi) (hr : ∀ k, k ∈ Fr1 ∨ k ∈ Fr2 → k ∈ Fr) (hW : ∀ p, p < mu_z H ∨ 1000000 ≤ p → W1 p ∨ W2 p → W p) : rfr Fi Fr W (a1 + a2) (b1 + b2) H H2 := by
  refine ⟨h1.1.tr h2.1 (fun p hp z => ?_), fun k hk => ?_, fun k hk => ?_, h2.2.2.2.trans h1.2.2.2⟩
  · rcases z with (z | z) | (z | z)
    · exact Or.inl z
    · exact Or.inr (hW p hp (Or.inl z))
    · exact Or.inl z
    · exact Or.inr (hW p hp (Or.inr z))
  · exact (h2.2.1 k (fun z => hk (hi k (Or.inr z)))).trans (h1.2.1 k (fun z => hk (hi k (Or.inl z))))
  · exact (h2.2.2.1 k (fun z => hk (hr k (Or.inr z)))).trans (h1.2.2.1 k (fun z => hk (hr k (Or.inl z))))
theorem rfr.wk (h : rfr Fi Fr W a b H H1) (hi : ∀ k, k ∈ Fi → k ∈ Fi') (hr : ∀ k, k ∈ Fr → k ∈ Fr') (hW : ∀ p, p < mu_z H ∨ 1000000 ≤ p → W p → W' p) (ha : a ≤ a') (hb : b ≤ b') : rfr Fi' Fr' W' a' b' H H1 :=
  ⟨h.1.wk (fun p hp z => z.imp id (hW p hp)) ha hb, fun k hk => h.2.1 k (fun z => hk (hi k z)), fun k hk => h.2.2.1 k (fun z => hk (hr k z)), h.2.2.2⟩
theorem rfr.si {j : Nat} {x : Int32} (h : rfr Fi Fr W a b H H1) (hj : j ∈ Fi) : rfr Fi Fr W a b H (mu_si H1 169 j x) := by
  refine ⟨h.1.si (Or.inl (Or.inl rfl)), fun k hk => ?_, h.2.2.1, h.2.2.2⟩
  rw [mu_i_si, if_neg (fun z => hk (by rw [z.2]; exact hj))]
  exact h.2.1 k hk
theorem rfr.sr {j : Nat} {x : Option Nat} (h : rfr Fi Fr W a b H H1) (hj : j ∈ Fr) : rfr Fi Fr W a b H (mu_sr H1 169 j x) := by
  refine ⟨h.1.sr (Or.inl (Or.inl rfl)), h.2.1, fun k hk => ?_, h.2.2.2⟩
  rw [mu_r_sr, if_neg (fun z => hk (by rw [z.2]; exact hj))]
  exact h.2.2.1 k hk
/-- cells made and changed elsewhere -/
theorem rfr.of (h : kep W a b H H1) (hz : 169 < mu_z H) (hw : ¬ W 169) : rfr Fi Fr W a b H H1 :=
  ⟨h.wk (fun _ _ z => Or.inr z) (Nat.le_refl _) (Nat.le_refl _), fun k _ => h.i (Or.inl hz) hw k, fun k _ => h.r (Or.inl hz) hw k, h.k (Or.inl hz) hw⟩
theorem rgd.kep (h : rgd H) (hk : rfr Fi Fr W a b H H1) (hr : ∀ k, k ∈ Fr → k ∉ [1, 4, 5, 32, 33, 34, 35, 37, 44, 54]) (hW : ∀ p, W p → p ∉ [170, 171, 172, 183, 184, 185, 186, 187, 188, 189, 190, 191, 195, 199] ∨ p ∈ [170, 184, 186, 188, 190, 191, 195, 199] ∧ mu_same H H1 p) : rgd H1 := by
  obtain ⟨g1, g2, ⟨g3, g4, g5⟩, ⟨g6, g7, g8, g9⟩, ⟨g10, g11, g12, g13⟩, g14, ⟨g15, g16, g17⟩, ⟨g18, g19, g20⟩, ⟨g21, g22, g23⟩⟩ := h
  have fr : ∀ k, k ∈ [1, 4, 5, 32, 33, 34, 35, 37, 44, 54] → mu_r H1 169 k = mu_r H 169 k := fun k hk1 => hk.2.2.1 k (fun z => hr k z hk1)
  have sm : ∀ p, p ∈ [170, 171, 172, 183, 184, 185, 186, 187, 188, 189, 190, 191, 195, 199] → mu_same H H1 p := by
    intro p hp
    by_cases e : W p
    · rcases hW p e with z | z
      · exact absurd hp z
      · exact z.2
    · have hp2 : p < mu_z H ∧ p ≠ 169 := by
        simp only [List.mem_cons, List.not_mem_nil, or_false] at hp
        omega
      exact hk.1.2.1 p (Or.inl hp2.1) (fun z => z.elim hp2.2 e)
  have kk : ∀ p, p ∈ [170, 171, 172, 183, 184, 185, 186, 187, 188, 189, 190, 191, 195, 199] → mu_k H1 p = mu_k H p := fun p hp => (sm p hp).1
  have nn : ∀ p, p ∈ [170, 171, 172, 183, 184, 185, 186, 187, 188, 189, 190, 191, 195, 199] → mu_n H1 p = mu_n H p := fun p hp => (sm p hp).2.1
  have rr : ∀ p, p ∈ [170, 171, 172, 183, 184, 185, 186, 187, 188, 189, 190, 191, 195, 199] → ∀ j, mu_r H1 p j = mu_r H p j := fun p hp j => Sum.inr.inj (Sum.inr.inj ((sm p hp).2.2 j 2))
  refine ⟨Nat.lt_of_lt_of_le g1 hk.1.1, hk.2.2.2.trans g2, ⟨(fr 1 (by decide)).trans g3, (kk 170 (by decide)).trans g4, (nn 170 (by decide)).trans g5⟩, ⟨(fr 4 (by decide)).trans g6, (kk 171 (by decide)).trans g7, (nn 171 (by decide)).trans g8, fun s hs => (rr 171 (by decide) s).trans (g9 s hs)⟩, ⟨(fr 5 (by decide)).trans g10, (kk 172 (by decide)).trans g11, (nn 172 (by decide)).trans g12, fun s hs => (rr 172 (by decide) s).trans (g13 s hs)⟩, fun k hk4 => ?_, ⟨(fr 37 (by decide)).trans g15, (kk 191 (by decide)).trans g16, (nn 191 (by decide)).trans g17⟩, ⟨(fr 44 (by decide)).trans g18, (kk 195 (by decide)).trans g19, (nn 195 (by decide)).trans g20⟩, ⟨(fr 54 (by decide)).trans g21, (kk 199 (by decide)).trans g22, (nn 199 (by decide)).trans g23⟩⟩
  have hc : k = 0 ∨ k = 1 ∨ k = 2 ∨ k = 3 := by omega
  rcases hc with rfl | rfl | rfl | rfl
  all_goals
    obtain ⟨q1, q2, q3, q4, q5⟩ := g14 _ hk4
    exact ⟨(fr _ (by decide)).trans q1, (kk _ (by decide)).trans q2, (rr _ (by decide) 0).trans q3, (kk _ (by decide)).trans q4, (nn _ (by decide)).trans q5⟩
/-- ... where no cell of the ground changes -/
theorem rgd.keep (h : rgd H) (hk : rfr Fi Fr W a b H H1) (hr : ∀ k, k ∈ Fr → k ∉ [1, 4, 5, 32, 33, 34, 35, 37, 44, 54]) (hW : ∀ p, W p → p ∉ [170, 171, 172, 183, 184, 185, 186, 187, 188, 189, 190, 191, 195, 199]) : rgd H1 := h.kep hk hr (fun p z => Or.inl (hW p z))
theorem rtp.keep {T : Nat → Int32} {n : Nat} (h : rtp H T n) (g : rgd H) (hk : rfr Fi Fr W a b H H1) (h2 : 2 ∉ Fi) (hW : ¬ W 170) : rtp H1 T n := by
  obtain ⟨k1, k2, k3⟩ := h
  exact ⟨(hk.2.1 2 h2).trans k1, k2, fun i hi => (hk.1.i (p := 170) (Or.inl (Nat.lt_trans (by decide) g.1)) (fun z => z.elim (by decide) hW) i).trans (k3 i hi)⟩
theorem rfr.sb {o : Option Nat} {l : List Int32} (h : rfr Fi Fr W a b H H1) (ho : sb H o l) (h1 : mu_p o ≠ 169 ∧ ¬ W (mu_p o)) (h2 : mu_p (sbv H o) ≠ 169 ∧ ¬ W (mu_p (sbv H o))) : sb H1 o l := h.1.sb ho (fun z => z.elim h1.1 h1.2) (fun z => z.elim h2.1 h2.2)
end Rfr
