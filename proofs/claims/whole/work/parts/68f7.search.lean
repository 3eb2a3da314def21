/-! The reference: the rows of a search -/
/-- the rows that a search writes: here, there, kept, keptAt, starts, edges, may's -/
def swr (D : MD) (ph pt pk pa mm st : Nat) (H : mu_H) (p : Nat) : Prop := p = ph ∨ p = pt ∨ p = pk ∨ p = pa ∨ p = st ∨ p = 195 ∨ ∃ v, v < (D.pr 1).length ∧ mu_r H mm v = some p
def gfr (D : MD) (ph pt pk pa mm st : Nat) (H H1 : mu_H) : Prop := rfr [19, 20, 21, 45, 46, 47, 48] [] (swr D ph pt pk pa mm st H) 0 0 H H1 ∧ ∀ v, v < (D.pr 1).length → mu_r H1 mm v = mu_r H mm v
/-- while STATES are searched: the values' rows, may, the ground, the number of STATES, starts -/
def sst (tr : Prop) (Hb : mu_H) (D : MD) (ph pt pk pa mm st : Nat) (H : mu_H) : Prop := vsta tr Hb D ph pt pk pa H ∧ mwr D mm H ∧ (rgd H ∧ mu_i H 169 28 = nI (prd D (D.pr 1).length)) ∧ oar H D.G 43 100 st 16385 ∧ (ph ≠ pt ∧ st ≠ ph ∧ st ≠ pt ∧ st ≠ pk)
section Gfr
variable {tr : Prop} {Hb H H0 H1 H2 : mu_H} {D : MD} {ph pt pk pa mm st f k p N j : Nat} {x : Int32}
theorem gfr.rf : gfr D ph pt pk pa mm st H H := ⟨rfr.rf, fun _ _ => rfl⟩
theorem gfr.tr2 (h1 : gfr D ph pt pk pa mm st H H1) (h2 : gfr D ph pt pk pa mm st H1 H2) : gfr D ph pt pk pa mm st H H2 := ⟨rfr.tr h1.1 h2.1 (fun k z => z.elim id id) (fun k z => z.elim id id) (fun p _ z => z.elim id (fun y => by
  rcases y with y | y | y | y | y | y | ⟨v, v1, v2⟩
  · exact Or.inl y
  · exact Or.inr (Or.inl y)
  · exact Or.inr (Or.inr (Or.inl y))
  · exact Or.inr (Or.inr (Or.inr (Or.inl y)))
  · exact Or.inr (Or.inr (Or.inr (Or.inr (Or.inl y))))
  · exact Or.inr (Or.inr (Or.inr (Or.inr (Or.inr (Or.inl y)))))
  · exact Or.inr (Or.inr (Or.inr (Or.inr (Or.inr (Or.inr ⟨v, v1, (h1.2 v v1).symm.trans v2⟩))))))), fun v hv => (h2.2 v hv).trans (h1.2 v hv)⟩
theorem mwr.kd (h : mwr D mm H) {v z : Nat} (hv : v < (D.pr 1).length) (hz : mu_r H mm v = some z) : mu_k H z = 108 ∧ z ∉ gndl := by
  obtain ⟨z', z1, ⟨z2, z3, _⟩, _⟩ := h.2 v hv
  rw [hz] at z1
  cases z1
  exact ⟨z2.2.2, z3⟩
theorem mwr.mr (h : mwr D mm H) (hk : mu_k H p = 100 ∨ mu_k H p = 102) (hf : dfr p H H1) : ∀ v, mu_r H1 mm v = mu_r H mm v := fun v => hf.1.1.r (Or.inl h.1.2.1.2.1) (fun z => z.elim (gndl9 h.1.2.1.1) (fun e => by have q := h.1.2.2.2.1; rw [e] at q; rcases hk with hk | hk <;> rw [hk] at q <;> exact absurd q (by decide))) v
theorem sst.dh (h : sst tr Hb D ph pt pk pa mm st H) (hf : dfr ph H H1) (hv : vsta tr Hb D ph pt pk pa H1) : sst tr Hb D ph pt pk pa mm st H1 ∧ gfr D ph pt pk pa mm st H H1 := by
  obtain ⟨h1, h2, h3, h4, h5⟩ := h
  have kp : mu_k H ph = 100 := h1.2.1.1.2.2.2.1
  refine ⟨⟨hv, h2.df kp hf, ⟨h3.1.keep hf.1 (fun k z => absurd z (List.not_mem_nil)) (fun p z => by subst z; exact gnl_s h1.2.1.1.2.1.1), (hf.1.2.1 28 (List.not_mem_nil)).trans h3.2⟩, hf.oar h4, h5⟩, hf.1.wk (fun k z => absurd z (List.not_mem_nil)) (fun _ z => z) (fun _ _ z => Or.inl z) (Nat.le_refl _) (Nat.le_refl _), fun v _ => h2.mr (Or.inl kp) hf v⟩
theorem sst.mk (h : sst tr Hb D ph pt pk pa mm st H) (hf : mkf D mm pk pa H H1) (hv : vsta tr Hb D ph pt pk pa H1) (hw : mwr D mm H1) : sst tr Hb D ph pt pk pa mm st H1 ∧ gfr D ph pt pk pa mm st H H1 := by
  obtain ⟨h1, h2, h3, h4, h5⟩ := h
  have k2 : mu_k H pa = 102 := h1.2.1.2.2.2.2.2.2.1
  have ns : ¬ (st = pk ∨ st = pa ∨ ∃ v, v < (D.pr 1).length ∧ mu_r H mm v = some st) := fun z => by
    rcases z with z | z | ⟨v, v1, v2⟩
    · exact h5.2.2.2 z
    · have q := h4.2.2.2.1; rw [z, k2] at q; exact absurd q (by decide)
    · have q := h4.2.2.2.1; rw [(h2.kd v1 v2).1] at q; exact absurd q (by decide)
  refine ⟨⟨hv, hw, ⟨h3.1.keep hf.1 (fun k z => absurd z (List.not_mem_nil)) (fun p z => by
    rcases z with z | z | ⟨v, v1, v2⟩
    · subst z; exact gnl_s h1.2.1.2.2.1.2.1.1
    · subst z; exact gnl_s h1.2.1.2.2.2.2.1.1
    · exact gnl_s (h2.kd v1 v2).2), (hf.1.2.1 28 (by decide)).trans h3.2⟩, (h4.fr hf.1 (List.not_mem_nil)).resolve_right ns, h5⟩, hf.1.wk (fun k z => by simp only [List.mem_cons, List.not_mem_nil, or_false] at z ⊢; omega) (fun _ z => z) (fun p _ z => ?_) (Nat.le_refl _) (Nat.le_refl _), hf.2⟩
  rcases z with z | z | z
  · exact Or.inr (Or.inr (Or.inl z))
  · exact Or.inr (Or.inr (Or.inr (Or.inl z)))
  · exact Or.inr (Or.inr (Or.inr (Or.inr (Or.inr (Or.inr z)))))
theorem sst.tf (h : sst tr Hb D ph pt pk pa mm st H) (hf : tff pt pk pa H H1) (hv : vsta tr Hb D ph pt pk pa H1) (hw : mwr D mm H1) : sst tr Hb D ph pt pk pa mm st H1 ∧ gfr D ph pt pk pa mm st H H1 := by
  obtain ⟨h1, h2, h3, h4, h5⟩ := h
  have k0 : mu_k H pt = 100 := h1.2.1.2.1.2.2.2.1
  have k1 : mu_k H pk = 100 := h1.2.1.2.2.1.2.2.2.1
  have k2 : mu_k H pa = 102 := h1.2.1.2.2.2.2.2.2.1
  have ns : ¬ (st = pt ∨ st = pk ∨ st = pa) := fun z => by
    rcases z with z | z | z
    · exact h5.2.2.1 z
    · exact h5.2.2.2 z
    · have q := h4.2.2.2.1; rw [z, k2] at q; exact absurd q (by decide)
  have nm : ¬ (mm = 169 ∨ mm = pt ∨ mm = pk ∨ mm = pa) := fun z => by
    have q := h2.1.2.2.2.1
    rcases z with z | z | z | z
    · exact gndl9 h2.1.2.1.1 z
    · rw [z, k0] at q; exact absurd q (by decide)
    · rw [z, k1] at q; exact absurd q (by decide)
    · rw [z, k2] at q; exact absurd q (by decide)
  refine ⟨⟨hv, hw, ⟨hf.rgd h3.1 h1, (hf.2.1 28 (by decide)).trans h3.2⟩, (h4.fr hf (List.not_mem_nil)).resolve_right ns, h5⟩, rfr.wk hf (fun k z => by simp only [List.mem_cons, List.not_mem_nil, or_false] at z ⊢; omega) (fun _ z => z) (fun p _ z => ?_) (Nat.le_refl _) (Nat.le_refl _), fun v _ => hf.1.r (Or.inl h2.1.2.1.2.1) nm v⟩
  rcases z with z | z | z
  · exact Or.inr (Or.inl z)
  · exact Or.inr (Or.inr (Or.inl z))
  · exact Or.inr (Or.inr (Or.inr (Or.inl z)))
/-- an int of the reference's own cell is written -/
theorem vsta.i9 (h : vsta tr Hb D ph pt pk pa H) (hk : k ≠ 17) : vsta tr Hb D ph pt pk pa (mu_si H 169 k x) := by
  obtain ⟨v1, ⟨a1, a2, a3, a4⟩, v3, v4, v5⟩ := h
  have n1 := gndl9 a1.2.1.1
  have n2 := gndl9 a2.2.1.1
  exact ⟨v1.fr (Fi := [k]) (Fr := []) (W := fun _ => False) (rfr.si rfr.rf (List.mem_singleton.mpr rfl)) (fun _ z => z.elim) (fun z => hk (List.mem_singleton.mp z).symm) ⟨List.not_mem_nil, List.not_mem_nil⟩, ⟨a1, a2, a3, a4⟩, v3, fun v hv => by rw [mu_i_si, if_neg (fun y => n1 y.1)]; exact v4 v hv, fun tt v hv => by rw [mu_i_si, if_neg (fun y => n2 y.1)]; exact v5 tt v hv⟩
theorem sst.i9 (h : sst tr Hb D ph pt pk pa mm st H) (hk : k ∈ [45, 46, 47, 48]) : sst tr Hb D ph pt pk pa mm st (mu_si H 169 k x) ∧ gfr D ph pt pk pa mm st H (mu_si H 169 k x) := by
  obtain ⟨h1, h2, h3, h4, h5⟩ := h
  have k1 : k ≠ 17 ∧ k ≠ 28 := by simp only [List.mem_cons, List.not_mem_nil, or_false] at hk; omega
  exact ⟨⟨h1.i9 k1.1, h2, ⟨h3.1, by rw [mu_i_si, if_neg (fun z => k1.2 z.2.symm)]; exact h3.2⟩, h4, h5⟩, rfr.si rfr.rf (by simp only [List.mem_cons, List.not_mem_nil, or_false] at hk ⊢; omega), fun _ _ => rfl⟩
/-- an int of starts or of edges is written -/
theorem sst.wr (h : sst tr Hb D ph pt pk pa mm st H) (hp : p = st ∨ p = 195) : sst tr Hb D ph pt pk pa mm st (mu_si H p j x) ∧ gfr D ph pt pk pa mm st H (mu_si H p j x) := by
  obtain ⟨h1, h2, h3, h4, h5⟩ := h
  have g5 : (195 : Nat) ∈ gndl := by decide
  have np : p ≠ 169 ∧ p ≠ ph ∧ p ≠ pt ∧ p < 1000000 ∧ ¬ D.G p := by
    rcases hp with e | e
    · subst e; exact ⟨gndl9 h4.2.1.1, h5.2.1, h5.2.2.1, h4.2.1.2.2, h4.2.2.1⟩
    · subst e; exact ⟨by decide, fun e => h1.2.1.1.2.1.1 (by rw [← e]; exact g5), fun e => h1.2.1.2.1.2.1.1 (by rw [← e]; exact g5), by decide, fun z => absurd (h1.1.2.1.2.2.2 _ z).1 (by decide)⟩
  obtain ⟨v1, v2, v3, v4, v5⟩ := h1
  exact ⟨⟨⟨v1.siW ⟨np.2.2.2.2, np.2.2.2.1, np.1⟩, v2, v3, fun v hv => by rw [mu_i_si, if_neg (fun y => np.2.1 y.1.symm)]; exact v4 v hv, fun tt v hv => by rw [mu_i_si, if_neg (fun y => np.2.2.1 y.1.symm)]; exact v5 tt v hv⟩, h2, ⟨h3.1, by rw [mu_i_si, if_neg (fun z => np.1 z.1.symm)]; exact h3.2⟩, h4, h5⟩, rfr.siW rfr.rf ⟨hp.elim (fun e => Or.inr (Or.inr (Or.inr (Or.inr (Or.inl e))))) (fun e => Or.inr (Or.inr (Or.inr (Or.inr (Or.inr (Or.inl e)))))), np.1⟩, fun _ _ => rfl⟩
/-- what is kept of starts and edges: n edges, the first S starts -/
def gop (D : MD) (st n S : Nat) (H : mu_H) : Prop := n ≤ 200000 ∧ (∀ i, i < n → ∃ t, t < prd D (D.pr 1).length ∧ mu_i H 195 i = nI t) ∧ ∀ s, s < S → ∃ a, a ≤ n ∧ mu_i H st s = nI a
theorem gop.kp {n S a b : Nat} {W : Nat → Prop} {Fi Fr : List Nat} (h : gop D st n S H) (hk : rfr Fi Fr W a b H H1) (h1 : ¬ W 195) (h2 : ¬ W st) (hz : 195 < mu_z H ∧ st < mu_z H ∧ st ≠ 169) : gop D st n S H1 := by
  obtain ⟨g1, g2, g3⟩ := h
  exact ⟨g1, fun i hi => by rw [hk.1.i (p := 195) (Or.inl hz.1) (fun z => z.elim (by decide) h1) i]; exact g2 i hi, fun s hs => by rw [hk.1.i (p := st) (Or.inl hz.2.1) (fun z => z.elim hz.2.2 h2) s]; exact g3 s hs⟩
end Gfr
