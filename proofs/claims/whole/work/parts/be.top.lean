/-! WHAT A CALL LEAVES OF THE WORLD -/
def tr (H H1 : mu_H) : Prop :=
  (mu_z H ≤ mu_z H1 ∧ mu_c H ≤ mu_c H1 ∧ mu_s H ≤ mu_s H1) ∧
  (∀ p, p < mu_z H → mu_k H1 p = mu_k H p ∧ mu_n H1 p = mu_n H p) ∧
  (∀ p, p < mu_z H → ¬ gi_cd H p → mu_same H H1 p) ∧
  (∀ p, gi_cd H1 p → gi_cd H p ∨ mu_z H ≤ p) ∧
  (mu_s H1 + 2 * gi_SC H + PS H ≤ mu_s H + 2 * gi_SC H1 + PS H1 ∧ mu_z H1 + gi_SL H + PN H ≤ mu_z H + gi_SL H1 + PN H1 ∧ mu_c H1 + gi_SL H + PN H ≤ mu_c H + gi_SL H1 + PN H1)
section TopRel
variable {H H1 H2 : mu_H} {S : Nat → Bool}
theorem tr.refl (H : mu_H) : tr H H := ⟨⟨Nat.le_refl _, Nat.le_refl _, Nat.le_refl _⟩, fun _ _ => ⟨rfl, rfl⟩, fun p _ _ => mu_same.refl H p, fun _ h => Or.inl h, Nat.le_refl _, Nat.le_refl _, Nat.le_refl _⟩
theorem tr.trans (h : tr H H1) (h' : tr H1 H2) : tr H H2 := by
  obtain ⟨⟨a1, a2, a3⟩, b, g, i, j1, j2, j3⟩ := h
  obtain ⟨⟨a1', a2', a3'⟩, b', g', i', j1', j2', j3'⟩ := h'
  refine ⟨⟨by omega, by omega, by omega⟩, fun p hp => ⟨((b' p (by omega)).1).trans (b p hp).1, ((b' p (by omega)).2).trans (b p hp).2⟩, fun p hp hn => ?_, fun p hp => ?_, by omega, by omega, by omega⟩
  · refine (g p hp hn).trans (g' p (by omega) (fun hc => ?_))
    rcases i p hc with z | z
    · exact hn z
    · omega
  · rcases i' p hp with z | z
    · exact i p z
    · exact Or.inr (by omega)
theorem hk.tr (h : hk S H H1) : tr H H1 := ⟨h.1, h.2.1, h.2.2.2.2.2.1, h.2.2.2.2.2.2.1, h.2.2.2.2.2.2.2⟩
theorem gu.lk (h : gu H) (hg : gi H1) (hl : lk S H H1) : gu H1 ∧ tr H H1 := by
  obtain ⟨a, b, c, e, f, g, i, ⟨j1, j2, j3⟩, l⟩ := hl
  have h101 : mu_k H (lt7 H) = 101 := h.1.2.2.2.2.2.2.2.1.2.1.2.2
  obtain ⟨p1, p2, p3⟩ := pools_same h.1 h.2.1 (fun t ht => by
    obtain ⟨k1, k2⟩ := plp_kind h.1 ht
    exact (f t.1 k1 (by omega) (fun z => by rw [z] at k2; omega)).r t.2) a.1 b
  have h3 := h.2.2
  exact ⟨⟨hg, p1, by omega⟩, a, b, g, i, by omega, by omega, by omega⟩
theorem gu.tk (h : gu H) (hg : gi H1) (hl : tk S H H1) : gu H1 ∧ tr H H1 := by
  obtain ⟨a, b, c, e, f, g, i, ⟨j1, j2, j3⟩, l⟩ := hl
  have h101 : mu_k H (tp0 H) = 101 := h.1.2.2.2.2.2.2.2.1.1.2.2
  obtain ⟨p1, p2, p3⟩ := pools_same h.1 h.2.1 (fun t ht => by
    obtain ⟨k1, k2⟩ := plp_kind h.1 ht
    exact (f t.1 k1 (by omega) (fun z => by rw [z] at k2; omega)).r t.2) a.1 b
  have h3 := h.2.2
  exact ⟨⟨hg, p1, by omega⟩, a, b, g, i, by omega, by omega, by omega⟩
theorem top_gk (h : gu H) (hg : gi H1) (hk' : gk S H H1) : gu H1 ∧ tr H H1 := by
  obtain ⟨a, b⟩ := h.gk hg hk'
  exact ⟨a, b.tr⟩
end TopRel
