/-! The reference: rows of its own are written, or replaced by new ones -/
/-- ints of Fi, references of Fr and the rows there may change; a new row is a new cell -/
def wfr (Fi Fr : List Nat) (a b : Nat) (H H1 : mu_H) : Prop := rfr Fi Fr (fun p => ∃ f, f ∈ Fr ∧ mu_r H 169 f = some p) a b H H1 ∧ ∀ f, f ∈ Fr → mu_r H1 169 f = mu_r H 169 f ∨ ∃ p, mu_r H1 169 f = some p ∧ mu_z H ≤ p ∧ p < 1000000
section Wfr
variable {Fi Fr Fi' Fr' Fi1 Fr1 Fi2 Fr2 : List Nat} {a b a' b' a1 b1 a2 b2 : Nat} {H H1 H2 Hb : mu_H} {D : MD} {G : Nat → Prop}
theorem wfr.rf : wfr Fi Fr 0 0 H H := ⟨rfr.rf, fun _ _ => Or.inl rfl⟩
theorem wfr.wk (h : wfr Fi Fr a b H H1) (hi : ∀ k, k ∈ Fi → k ∈ Fi') (hr : ∀ k, k ∈ Fr → k ∈ Fr') (ha : a ≤ a') (hb : b ≤ b') : wfr Fi' Fr' a' b' H H1 := by
  refine ⟨h.1.wk hi hr (fun p _ z => ?_) ha hb, fun f hf => ?_⟩
  · obtain ⟨f, f1, f2⟩ := z
    exact ⟨f, hr f f1, f2⟩
  · by_cases e : f ∈ Fr
    · exact h.2 f e
    · exact Or.inl (h.1.2.2.1 f e)
theorem wfr.tr (h1 : wfr Fi Fr a1 b1 H H1) (h2 : wfr Fi Fr a2 b2 H1 H2) : wfr Fi Fr (a1 + a2) (b1 + b2) H H2 := by
  refine ⟨rfr.tr h1.1 h2.1 (fun k z => z.elim id id) (fun k z => z.elim id id) (fun p hp z => ?_), fun f hf => ?_⟩
  · rcases z with z | ⟨f, f1, f2⟩
    · exact z
    · rcases h1.2 f f1 with e | ⟨q, q1, q2, q3⟩
      · exact ⟨f, f1, e.symm.trans f2⟩
      · rw [q1] at f2
        cases f2
        omega
  · rcases h2.2 f hf with e | ⟨q, q1, q2, q3⟩
    · rcases h1.2 f hf with e2 | ⟨q, q1, q2, q3⟩
      · exact Or.inl (e.trans e2)
      · exact Or.inr ⟨q, e.trans q1, q2, q3⟩
    · exact Or.inr ⟨q, q1, Nat.le_trans h1.1.1.1 q2, q3⟩
theorem ffr.w (h : ffr a H H1) (hi : ∀ k, k ∈ [19, 20, 21] → k ∈ Fi) : wfr Fi Fr a (10 * a) H H1 := ⟨rfr.wk h hi (fun k z => absurd z (List.not_mem_nil)) (fun _ _ z => z.elim) (Nat.le_refl _) (Nat.le_refl _), fun f _ => Or.inl (h.2.2.1 f (List.not_mem_nil))⟩
theorem wfr.si {k : Nat} {x : Int32} (h : wfr Fi Fr a b H H1) (hk : k ∈ Fi) : wfr Fi Fr a b H (mu_si H1 169 k x) := ⟨rfr.si h.1 hk, h.2⟩
theorem wfr.ex (h : wfr Fi Fr a b H H1) : wfr Fi Fr (a + 1) (b + 6) H (mu_ex H1) := ⟨rfr.ex h.1, h.2⟩
/-- rows that are no cells of the MODEL -/
def rnG (H : mu_H) (G : Nat → Prop) (Fr : List Nat) : Prop := ∀ f p, f ∈ Fr → mu_r H 169 f = some p → ¬ G p ∧ p < 1000000
theorem wfr.rm (h : wfr Fi Fr a b H H1) (hr : rms Hb D H) (hG : rnG H D.G Fr) (hi : 17 ∉ Fi) (hf : 18 ∉ Fr ∧ 16 ∉ Fr) : rms Hb D H1 := hr.fr h.1 (fun p z => by obtain ⟨f, f1, f2⟩ := z; exact hG f p f1 f2) hi hf
theorem wfr.rg (h : wfr Fi Fr a b H H1) (hr : rms Hb D H) (hG : rnG H D.G Fr') : rnG H1 D.G Fr' := by
  intro f p hf hp
  by_cases e : f ∈ Fr
  · rcases h.2 f e with e2 | ⟨q, q1, q2, q3⟩
    · exact hG f p hf (e2.symm.trans hp)
    · rw [q1] at hp
      cases hp
      exact ⟨fun z => by have := (hr.2.1.2.2.2 _ z).2.1; have := hr.2.1.1.1; omega, q3⟩
  · exact hG f p hf ((h.1.2.2.1 f e).symm.trans hp)
/-- a row's int is written -/
theorem wfr.siW {f p j : Nat} {x : Int32} (h : wfr Fi Fr a b H H1) (hf : f ∈ Fr) (hp : mu_r H1 169 f = some p) (h9 : p ≠ 169) : wfr Fi Fr a b H (mu_si H1 p j x) := by
  have hw : (∃ f, f ∈ Fr ∧ mu_r H 169 f = some p) ∨ ¬ (p < mu_z H ∨ 1000000 ≤ p) := by
    rcases h.2 f hf with e | ⟨q, q1, q2, q3⟩
    · exact Or.inl ⟨f, hf, e.symm.trans hp⟩
    · rw [q1] at hp
      cases hp
      exact Or.inr (by omega)
  exact ⟨⟨h.1.1.si (hw.imp Or.inr id), fun k hk => by rw [mu_i_si, if_neg (fun z => h9 z.1.symm)]; exact h.1.2.1 k hk, h.1.2.2.1, h.1.2.2.2⟩, h.2⟩
/-- a new row is laid into a field -/
theorem wfr.nw {f k len : Nat} (h : wfr Fi Fr a b H H1) (hf : f ∈ Fr) (hz : 169 < mu_z H1 ∧ mu_z H1 < 1000000) : wfr Fi Fr (a + 1) (b + len) H (mu_sr (mu_nw H1 k len len) 169 f (some (mu_z H1))) := by
  have k1 := (h.1.1.nw (kd := k) (len := len) (sl := len) hz.2).sr (q := 169) (j := f) (x := some (mu_z H1)) (Or.inl (Or.inl rfl))
  refine ⟨⟨k1, fun i hi => ?_, fun i hi => ?_, ?_⟩, fun g hg => ?_⟩
  · rw [mu_i_sr, mu_i_nw, if_neg (by omega)]; exact h.1.2.1 i hi
  · rw [mu_r_sr, if_neg (fun z => hi (by rw [z.2]; exact hf)), mu_r_nw, if_neg (by omega)]; exact h.1.2.2.1 i hi
  · rw [mu_k_sr, mu_k_nw, if_neg (by omega)]; exact h.1.2.2.2
  · by_cases e : g = f
    · subst e
      exact Or.inr ⟨mu_z H1, by rw [mu_r_sr, if_pos ⟨rfl, rfl⟩], h.1.1.1, hz.2⟩
    · rw [mu_r_sr, if_neg (fun z => e z.2), mu_r_nw, if_neg (by omega)]
      exact h.2 g hg
theorem nw_row {f k len : Nat} (hz : 200 < mu_z H ∧ mu_z H < 1000000) (hG : ∀ p, G p → p < mu_z H) (hl : len < 2 ^ 31) : oar (mu_sr (mu_nw H k len len) 169 f (some (mu_z H))) G f k (mu_z H) len ∧ mu_n (mu_sr (mu_nw H k len len) 169 f (some (mu_z H))) (mu_z H) = len ∧ mu_z (mu_sr (mu_nw H k len len) 169 f (some (mu_z H))) = mu_z H + 1 := by
  have e1 : mu_n (mu_sr (mu_nw H k len len) 169 f (some (mu_z H))) (mu_z H) = len := by rw [mu_n_sr, mu_n_nw, if_pos rfl]
  refine ⟨⟨by rw [mu_r_sr, if_pos ⟨rfl, rfl⟩], ⟨fun z => ?_, by rw [mu_z_sr, mu_z_nw]; omega, hz.2⟩, fun z => by have := hG _ z; omega, by rw [mu_k_sr, mu_k_nw, if_pos rfl], by rw [e1]; exact Nat.le_refl _, by rw [e1]; exact hl⟩, e1, rfl⟩
  have : ∀ p, p ∈ gndl → p < 200 := by decide
  have := this _ z
  omega
theorem oar.nw {f g k k' p N len : Nat} (h : oar H G g k' p N) (hg : g ≠ f) (h9 : 169 < mu_z H) : oar (mu_sr (mu_nw H k len len) 169 f (some (mu_z H))) G g k' p N := by
  obtain ⟨h1, ⟨h2, h3, h4⟩, h5, h6, h7⟩ := h
  exact ⟨by rw [mu_r_sr, if_neg (fun z => hg z.2), mu_r_nw, if_neg (by omega)]; exact h1, ⟨h2, by rw [mu_z_sr, mu_z_nw]; omega, h4⟩, h5, by rw [mu_k_sr, mu_k_nw, if_neg (by omega)]; exact h6, by rw [mu_n_sr, mu_n_nw, if_neg (by omega)]; exact h7⟩
theorem oar.wf {f k p N : Nat} (h : oar H G f k p N) (hw : wfr Fi Fr a b H H1) (hf : f ∉ Fr) (hd : ∀ g, g ∈ Fr → mu_r H 169 g ≠ some p) : oar H1 G f k p N := (h.fr hw.1 hf).resolve_right (fun z => by obtain ⟨g, g1, g2⟩ := z; exact hd g g1 g2)
end Wfr
