/-! The reference: rows that are lent, beside a search -/
/-- the rows beside a search: k lent, m made; cell and ints of row i are rr i -/
def rwv (D : MD) (ph pt pk st : Nat) (H : mu_H) (k m : Nat) (rr : Nat → Nat × Nat) : Prop := ∃ rb cap, rwz H rb cap k m rr ∧ (rb ∉ gndl ∧ rb < 1000000 ∧ ¬ D.G rb) ∧ ∀ i, i < m → btk D ph pt pk st H (rr i).1 (rr i).2
section Rwa
variable {tr : Prop} {Hb H H0 H1 H2 : mu_H} {D : MD} {ph pt pk pa mm st q r p j s n S rb a b : Nat} {x : Int32} {R R' : Nat → Prop} {v : Bool}
theorem rfr.oarW {f k p N : Nat} {G : Nat → Prop} (h : oar H G f k p N) (hf : rfr [52] [51] (fun p => p = rb) a b H H1) (hb : mu_k H rb = 107) (h5 : f ≠ 51) (hk : k ≠ 107) : oar H1 G f k p N := (h.fr hf (by simp only [List.mem_cons, List.not_mem_nil, or_false]; exact h5)).resolve_right (fun e => by
  have q := h.2.2.2.1
  rw [show p = rb from e, hb] at q
  exact hk q.symm)
/-- a search, when a row is lent -/
theorem sst.rw (h : sst tr Hb D ph pt pk pa mm st H) (hg : gos D st H) (hf : rfr [52] [51] (fun p => p = rb) a b H H1) (hb : mu_is H (some rb) 107) (hr : rb ∉ gndl ∧ rb < 1000000 ∧ ¬ D.G rb) : sst tr Hb D ph pt pk pa mm st H1 ∧ gos D st H1 ∧ (∀ v, v < (D.pr 1).length → mu_r H1 mm v = mu_r H mm v) ∧ ∀ q r, btk D ph pt pk st H q r → btk D ph pt pk st H1 q r ∧ ∀ s, bst H1 r s = bst H r s := by
  have hk : mu_k H rb = 107 := hb.2.2
  have ne : ∀ {p k : Nat}, mu_k H p = k → k ≠ 107 → p ≠ 169 → ¬ (p = 169 ∨ p = rb) := fun e n z y => y.elim z (fun y => n (by rw [← e, y]; exact hk))
  obtain ⟨n1, n2, n3, n4⟩ := h.n5
  obtain ⟨⟨v1, ⟨o1, o2, o3, o4⟩, v3, v4, v5⟩, ⟨m1, m2⟩, ⟨g1, g2⟩, h4, h5⟩ := h
  have nh := ne o1.2.2.2.1 (by decide) (gndl9 o1.2.1.1)
  have nt := ne o2.2.2.2.1 (by decide) (gndl9 o2.2.1.1)
  have nm := ne m1.2.2.2.1 (by decide) (gndl9 m1.2.1.1)
  have n95 : ¬ 195 = rb := fun e => hr.1 (by rw [← e]; decide)
  have nst : ¬ st = rb := fun e => ne h4.2.2.2.1 (by decide) n4 (Or.inr e)
  have mr : ∀ v, mu_r H1 mm v = mu_r H mm v := fun v => hf.1.r (p := mm) (Or.inl m1.2.1.2.1) nm v
  refine ⟨⟨⟨v1.fr hf (fun p e => by subst e; exact ⟨hr.2.2, hr.2.1⟩) (by decide) (by decide), ⟨hf.oarW o1 hk (by decide) (by decide), hf.oarW o2 hk (by decide) (by decide), hf.oarW o3 hk (by decide) (by decide), hf.oarW o4 hk (by decide) (by decide)⟩, v3, fun v hv => ?_, fun t v hv => ?_⟩, ⟨hf.oarW m1 hk (by decide) (by decide), fun v hv => ?_⟩, ⟨g1.keep hf (by decide) (fun p e => by subst e; exact gnl_s hr.1), (hf.2.1 28 (by decide)).trans g2⟩, hf.oarW h4 hk (by decide) (by decide), h5⟩, ?_, fun v _ => mr v, fun q r z => ?_⟩
  · rw [hf.1.i (p := ph) (Or.inl o1.2.1.2.1) nh v]; exact v4 v hv
  · rw [hf.1.i (p := pt) (Or.inl o2.2.1.2.1) nt v]; exact v5 t v hv
  · obtain ⟨z, z1, ⟨z2, z3, z4, z5⟩, z6, z7⟩ := m2 v hv
    have nz := ne (p := z) z2.2.2 (by decide) (gndl9 z3)
    exact ⟨z, (mr v).trans z1, ⟨hf.1.is z2 nz, z3, z4, z5⟩, by rw [hf.1.len (p := z) (Or.inl z2.2.1) nz]; exact z6, by rw [hf.1.len (p := z) (Or.inl z2.2.1) nz]; exact z7⟩
  · rcases hg with ⟨y1, n, y2⟩ | y1
    · exact Or.inl ⟨(hf.2.1 45 (by decide)).trans y1, n, y2.kp hf n95 nst ⟨n2, n3, n4⟩⟩
    · exact Or.inr ((hf.2.1 45 (by decide)).trans y1)
  · obtain ⟨⟨b1, b2, b3, b4⟩, c1, c2, c3⟩ := z
    have nq := ne (p := q) b1.2.2 (by decide) c3
    have nr := ne (p := r) b3.2.2 (by decide) c1.1
    exact ⟨⟨⟨hf.1.is b1 nq, (hf.1.r (p := q) (Or.inl b1.2.1) nq 0).trans b2, hf.1.is b3 nr, (hf.1.len (p := r) (Or.inl b3.2.1) nr).trans b4⟩, c1, c2, c3⟩, fun s => by unfold bst; rw [hf.1.i (p := r) (Or.inl b3.2.1) nr]⟩
end Rwa
/-- row(), beside a search -/
theorem rp_rowS {tr : Prop} {Hb H : mu_H} {D : MD} {ph pt pk pa mm st d k m : Nat} {rr : Nat → Nat × Nat} (hs : sst tr Hb D ph pt pk pa mm st H) (hg : gos D st H) (hw : rwv D ph pt pk st H k m rr) (hk : k ≤ 256) (hz : mu_z H + 3 ≤ 1000000) : mu_TA (mu_D (d + 2)) 406 [.inr (.inr (some 169))] H (fun y H1 => ∃ m1 rr1, y = some (rr1 k).1 ∧ sst tr Hb D ph pt pk pa mm st H1 ∧ gos D st H1 ∧ rwv D ph pt pk st H1 (k + 1) m1 rr1 ∧ (∀ i, i < m → rr1 i = rr i) ∧ (m ≤ m1 ∧ k + 1 ≤ m1 ∧ (m1 = m ∨ m = k ∧ m1 = k + 1)) ∧ (∃ rb, mu_r H 169 51 = some rb ∧ rfr [52] [51] (fun p => p = rb) (3 * (m1 - m)) (1537 * (m1 - m)) H H1) ∧ (∀ v, v < (D.pr 1).length → mu_r H1 mm v = mu_r H mm v) ∧ ∀ q r, btk D ph pt pk st H q r → btk D ph pt pk st H1 q r ∧ ∀ s, bst H1 r s = bst H r s) := by
  obtain ⟨rb, cap, w1, w2, w3⟩ := hw
  refine mu_MT.imp (rp_row hs.2.2.1.1.is w1 hk hz) (fun r0 hq0 => ?_)
  obtain ⟨y, H1, er, hq⟩ := hq0
  refine ⟨y, H1, er, ?_⟩
  obtain ⟨rb1, cap1, m1, rr1, e1, e2, e3, e4, e5⟩ := hq
  obtain ⟨s1, s2, s3, s4⟩ := hs.rw hg e2 w1.1.2.1 w2
  have hc : cap ≤ 512 := w1.2.2.1.2.2.1
  have hGz : ∀ p, D.G p → p < mu_z H := fun p hp => Nat.lt_of_lt_of_le (hs.1.1.2.1.2.2.2 p hp).2.1 hs.1.1.2.1.1.1
  have gz : 200 < mu_z H := hs.2.2.1.1.1
  obtain ⟨l1, l2, l3, l4⟩ : ph < mu_z H ∧ pt < mu_z H ∧ pk < mu_z H ∧ st < mu_z H := ⟨hs.1.2.1.1.2.1.2.1, hs.1.2.1.2.1.2.1.2.1, hs.1.2.1.2.2.1.2.1.2.1, hs.2.2.2.1.2.1.2.1⟩
  have zz : mu_z H1 ≤ mu_z H + 3 := e2.1.2.2.1.1
  rcases e5 with ⟨y1, y2, y3, y4⟩ | ⟨y1, y2, ⟨y3, y4⟩, y5⟩
  · subst y2
    subst y3
    refine ⟨m1, rr1, e1, s1, s2, ⟨rb1, cap1, e3, w2, fun i hi => ?_⟩, e4, ⟨Nat.le_refl _, y1, Or.inl rfl⟩, ⟨rb1, w1.1.1, y4.wk (fun _ z => z) (fun _ z => nomatch z) (fun _ _ z => z) (by omega) (by omega)⟩, s3, s4⟩
    rw [e4 i hi]
    exact (s4 _ _ (w3 i hi)).1
  · have r1 : rb1 ∉ gndl ∧ rb1 < 1000000 ∧ ¬ D.G rb1 := by
      rcases y5 with y5 | y5
      · rw [y5]; exact w2
      · have : rb1 < mu_z H1 := e3.1.2.1.2.1
        exact ⟨fun z => by simp only [gndl, List.mem_cons, List.not_mem_nil, or_false] at z; omega, by omega, fun z => by have := hGz _ z; omega⟩
    refine ⟨m1, rr1, e1, s1, s2, ⟨rb1, cap1, e3, r1, fun i hi => ?_⟩, e4, ⟨by omega, by omega, Or.inr ⟨by omega, by omega⟩⟩, ⟨rb, w1.1.1, e2.wk (fun _ z => z) (fun _ z => z) (fun _ _ z => z) (by omega) (by omega)⟩, s3, s4⟩
    by_cases e : i < m
    · rw [e4 i e]
      exact (s4 _ _ (w3 i e)).1
    · have ei : i = m := by omega
      subst ei
      have bt := (e3.2.2.2.1 i hi).2
      have : (rr1 i).2 < mu_z H1 := bt.2.2.1.2.1
      exact ⟨bt, ⟨by omega, by omega, by omega, by omega, by omega, by omega⟩, ⟨by omega, fun z => by have := hGz _ z; omega⟩, by omega⟩
