/-! The reference: what a formula may change -/
/-- cells that a formula may write: those of a search, the row of rows, rows that are not lent, and R -/
def lnw (D : MD) (ph pt pk pa mm st k m : Nat) (rr : Nat → Nat × Nat) (R : Nat → Prop) (H : mu_H) (p : Nat) : Prop := swr D ph pt pk pa mm st H p ∨ mu_r H 169 51 = some p ∨ (∃ i, k ≤ i ∧ i < m ∧ p = (rr i).2) ∨ R p
/-- the frame of a formula: k rows lent, m made before, m1 made behind it -/
def lnt (D : MD) (ph pt pk pa mm st k m : Nat) (rr : Nat → Nat × Nat) (R : Nat → Prop) (H : mu_H) (m1 : Nat) (rr1 : Nat → Nat × Nat) (H1 : mu_H) : Prop := (m ≤ m1 ∧ (∀ i, i < m → rr1 i = rr i) ∧ ∀ i, m ≤ i → i < m1 → mu_z H ≤ (rr1 i).2) ∧ (mu_r H1 169 51 = mu_r H 169 51 ∨ ∃ b, mu_r H1 169 51 = some b ∧ mu_z H ≤ b ∧ b < 1000000) ∧ rfr [19, 20, 21, 45, 46, 47, 48, 52] [51] (lnw D ph pt pk pa mm st k m rr R H) (3 * (m1 - m)) (1537 * (m1 - m)) H H1 ∧ (∀ v, v < (D.pr 1).length → mu_r H1 mm v = mu_r H mm v) ∧ ∀ q r, btk D ph pt pk st H q r → btk D ph pt pk st H1 q r
section Lnt
variable {tr : Prop} {Hb H H0 H1 H2 : mu_H} {D : MD} {ph pt pk pa mm st q r p j s n S rb a b k k' m m1 m2 : Nat} {rr rr1 rr2 : Nat → Nat × Nat} {R R' : Nat → Prop}
theorem lnt.rf : lnt D ph pt pk pa mm st k m rr R H m rr H := ⟨⟨Nat.le_refl _, fun _ _ => rfl, fun i h1 h2 => absurd h2 (by omega)⟩, Or.inl rfl, rfr.rf.wk (fun _ z => z) (fun _ z => z) (fun _ _ z => z) (Nat.zero_le _) (Nat.zero_le _), fun _ _ => rfl, fun _ _ z => z⟩
theorem swr.cg (h : ∀ v, v < (D.pr 1).length → mu_r H1 mm v = mu_r H mm v) (y : swr D ph pt pk pa mm st H1 p) : swr D ph pt pk pa mm st H p := by
  rcases y with y | y | y | y | y | y | ⟨v, v1, v2⟩
  · exact Or.inl y
  · exact Or.inr (Or.inl y)
  · exact Or.inr (Or.inr (Or.inl y))
  · exact Or.inr (Or.inr (Or.inr (Or.inl y)))
  · exact Or.inr (Or.inr (Or.inr (Or.inr (Or.inl y))))
  · exact Or.inr (Or.inr (Or.inr (Or.inr (Or.inr (Or.inl y)))))
  · exact Or.inr (Or.inr (Or.inr (Or.inr (Or.inr (Or.inr ⟨v, v1, (h v v1).symm.trans v2⟩)))))
theorem lnt.tr2 (h1 : lnt D ph pt pk pa mm st k m rr R H m1 rr1 H1) (h2 : lnt D ph pt pk pa mm st k' m1 rr1 R' H1 m2 rr2 H2) (hk : k ≤ k') (hR : ∀ p, R' p → R p ∨ ∃ i, k ≤ i ∧ i < m1 ∧ p = (rr1 i).2) (hb : ∀ i, i < m1 → (rr1 i).2 < 1000000) : lnt D ph pt pk pa mm st k m rr R H m2 rr2 H2 := by
  obtain ⟨⟨a1, a2, a3⟩, a4, a5, a6, a7⟩ := h1
  obtain ⟨⟨b1, b2, b3⟩, b4, b5, b6, b7⟩ := h2
  have hz : mu_z H ≤ mu_z H1 := a5.1.1
  have old : ∀ p, p < mu_z H ∨ 1000000 ≤ p → (∃ i, k ≤ i ∧ i < m1 ∧ p = (rr1 i).2) → lnw D ph pt pk pa mm st k m rr R H p := fun p hp y => by
    obtain ⟨i, i1, i2, i3⟩ := y
    have e1 := hb i i2
    by_cases e : i < m
    · exact Or.inr (Or.inr (Or.inl ⟨i, i1, e, by rw [i3, a2 i e]⟩))
    · have e2 := a3 i (by omega) i2
      omega
  refine ⟨⟨Nat.le_trans a1 b1, fun i hi => (b2 i (by omega)).trans (a2 i hi), fun i h1 h2 => ?_⟩, ?_, (rfr.tr a5 b5 (Fi := [19, 20, 21, 45, 46, 47, 48, 52]) (Fr := [51]) (W := lnw D ph pt pk pa mm st k m rr R H) (fun _ z => z.elim id id) (fun _ z => z.elim id id) (fun p hp z => ?_)).wk (fun _ z => z) (fun _ z => z) (fun _ _ z => z) (by omega) (by omega), fun v hv => (b6 v hv).trans (a6 v hv), fun q r z => b7 q r (a7 q r z)⟩
  · by_cases e : i < m1
    · rw [b2 i e]; exact a3 i h1 e
    · exact Nat.le_trans hz (b3 i (by omega) h2)
  · rcases b4 with b4 | ⟨b, y1, y2, y3⟩
    · rw [b4]; exact a4
    · exact Or.inr ⟨b, y1, by omega, y3⟩
  · rcases z with z | z
    · exact z
    · rcases z with z | z | ⟨i, i1, i2, i3⟩ | z
      · exact Or.inl (swr.cg a6 z)
      · rcases a4 with a4 | ⟨b, y1, y2, y3⟩
        · exact Or.inr (Or.inl (by rw [← a4]; exact z))
        · rw [y1] at z
          have z := Option.some.inj z
          omega
      · exact old p hp ⟨i, by omega, i2, i3⟩
      · rcases hR p z with z | z
        · exact Or.inr (Or.inr (Or.inr z))
        · exact old p hp z
/-- what a search with writes to R changes -/
theorem zfr.lnt (h : zfr D ph pt pk pa mm st R H H1) : lnt D ph pt pk pa mm st k m rr R H m rr H1 := ⟨⟨Nat.le_refl _, fun _ _ => rfl, fun i h1 h2 => absurd h2 (by omega)⟩, Or.inl (h.1.2.2.1 51 (List.not_mem_nil)), h.1.wk (fun k z => by simp only [List.mem_cons, List.not_mem_nil, or_false] at z ⊢; omega) (fun _ z => nomatch z) (fun p _ z => z.imp id (fun y => Or.inr (Or.inr y))) (Nat.zero_le _) (Nat.zero_le _), h.2.1, h.2.2.1⟩
/-- rows beside a search -/
theorem rwv.zf (h : rwv D ph pt pk st H k m rr) (hf : zfr D ph pt pk pa mm st R H H1) (hs : sst tr Hb D ph pt pk pa mm st H) (hR : ∀ p, R p → mu_k H p = 100) : rwv D ph pt pk st H1 k m rr := by
  obtain ⟨rb, cap, ⟨⟨w1, w2, w3⟩, w4, w5, w6, w7, w8⟩, w9, w0⟩ := h
  have nb : ¬ (rb = 169 ∨ swr D ph pt pk pa mm st H rb ∨ R rb) := fun z => by
    have hk : mu_k H rb = 107 := w2.2.2
    rcases z with z | z | z
    · exact gndl9 w9.1 z
    · rcases z with z | z | z | z | z | z | ⟨v, v1, v2⟩
      · rw [z, hs.1.2.1.1.2.2.2.1] at hk; exact absurd hk (by decide)
      · rw [z, hs.1.2.1.2.1.2.2.2.1] at hk; exact absurd hk (by decide)
      · rw [z, hs.1.2.1.2.2.1.2.2.2.1] at hk; exact absurd hk (by decide)
      · rw [z, hs.1.2.1.2.2.2.2.2.2.1] at hk; exact absurd hk (by decide)
      · rw [z, hs.2.2.2.1.2.2.2.1] at hk; exact absurd hk (by decide)
      · exact w9.1 (by rw [z]; decide)
      · rw [(hs.2.1.kd v1 v2).1] at hk; exact absurd hk (by decide)
    · rw [hR rb z] at hk; exact absurd hk (by decide)
  have er : ∀ i, mu_r H1 rb i = mu_r H rb i := fun i => hf.1.1.r (p := rb) (Or.inl w2.2.1) nb i
  exact ⟨rb, cap, ⟨⟨(hf.1.2.2.1 51 (List.not_mem_nil)).trans w1, hf.1.1.is w2 nb, (hf.1.1.len (p := rb) (Or.inl w2.2.1) nb).trans w3⟩, (hf.1.2.1 52 (by decide)).trans w4, w5, fun i hi => ⟨(er i).trans (w6 i hi).1, (hf.2.2.1 _ _ (w0 i hi)).1⟩, fun i h1 h2 => (er i).trans (w7 i h1 h2), w8⟩, w9, fun i hi => hf.2.2.1 _ _ (w0 i hi)⟩
theorem rwv.lt (h : rwv D ph pt pk st H k m rr) (i : Nat) (hi : i < m) : (rr i).2 < 1000000 := by
  obtain ⟨rb, cap, _, _, w0⟩ := h
  exact (w0 i hi).2.2.1.1
theorem rwv.ne (h : rwv D ph pt pk st H k m rr) (i j : Nat) (hi : i < m) (hj : j < m) (e : i ≠ j) : (rr i).2 ≠ (rr j).2 := by
  obtain ⟨rb, cap, w, _, _⟩ := h
  exact fun z => e (w.2.2.2.2.2 i j hi hj z)
end Lnt
