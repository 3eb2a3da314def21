/-! The reference: sets of STATES beside a search -/
/-- a set of bits that no search writes -/
def btk (D : MD) (ph pt pk st : Nat) (H : mu_H) (q r : Nat) : Prop := btr H q r ∧ (r ≠ 169 ∧ r ≠ ph ∧ r ≠ pt ∧ r ≠ pk ∧ r ≠ st ∧ r ≠ 195) ∧ (r < 1000000 ∧ ¬ D.G r) ∧ q ≠ 169
def zfr (D : MD) (ph pt pk pa mm st : Nat) (R : Nat → Prop) (H H1 : mu_H) : Prop := rfr [19, 20, 21, 45, 46, 47, 48] [] (fun p => swr D ph pt pk pa mm st H p ∨ R p) 0 0 H H1 ∧ (∀ v, v < (D.pr 1).length → mu_r H1 mm v = mu_r H mm v) ∧ (∀ q r, btk D ph pt pk st H q r → btk D ph pt pk st H1 q r) ∧ ∀ q r, btk D ph pt pk st H q r → ¬ R r → ∀ s, bst H1 r s = bst H r s
section Zfr
variable {tr : Prop} {Hb H H0 H1 H2 : mu_H} {D : MD} {ph pt pk pa mm st q r p j s n S : Nat} {x : Int32} {R R' : Nat → Prop} {v : Bool}
theorem zfr.rf : zfr D ph pt pk pa mm st R H H := ⟨rfr.rf, fun _ _ => rfl, fun _ _ z => z, fun _ _ _ _ _ => rfl⟩
theorem zfr.tr2 (h1 : zfr D ph pt pk pa mm st R H H1) (h2 : zfr D ph pt pk pa mm st R H1 H2) : zfr D ph pt pk pa mm st R H H2 := ⟨rfr.tr h1.1 h2.1 (fun k z => z.elim id id) (fun k z => z.elim id id) (fun p _ z => z.elim id (fun y => y.imp (fun y => by
  rcases y with y | y | y | y | y | y | ⟨v, v1, v2⟩
  · exact Or.inl y
  · exact Or.inr (Or.inl y)
  · exact Or.inr (Or.inr (Or.inl y))
  · exact Or.inr (Or.inr (Or.inr (Or.inl y)))
  · exact Or.inr (Or.inr (Or.inr (Or.inr (Or.inl y))))
  · exact Or.inr (Or.inr (Or.inr (Or.inr (Or.inr (Or.inl y)))))
  · exact Or.inr (Or.inr (Or.inr (Or.inr (Or.inr (Or.inr ⟨v, v1, (h1.2.1 v v1).symm.trans v2⟩)))))) id)), fun v hv => (h2.2.1 v hv).trans (h1.2.1 v hv), fun q r z => h2.2.2.1 q r (h1.2.2.1 q r z), fun q r z y s => (h2.2.2.2 q r (h1.2.2.1 q r z) y s).trans (h1.2.2.2 q r z y s)⟩
theorem zfr.wk (h : zfr D ph pt pk pa mm st R H H1) (hR : ∀ p, R p → R' p) : zfr D ph pt pk pa mm st R' H H1 := ⟨h.1.wk (fun _ z => z) (fun _ z => z) (fun p _ z => z.imp id (hR p)) (Nat.le_refl _) (Nat.le_refl _), h.2.1, h.2.2.1, fun q r z y => h.2.2.2 q r z (fun w => y (hR r w))⟩
/-- neither a set nor its row is a row of the search -/
theorem btk.ns (h : btk D ph pt pk st H q r) (hs : sst tr Hb D ph pt pk pa mm st H) : ¬ (q = 169 ∨ swr D ph pt pk pa mm st H q) ∧ ¬ (r = 169 ∨ swr D ph pt pk pa mm st H r) := by
  obtain ⟨⟨b1, b2, b3, b4⟩, ⟨c1, c2, c3, c4, c5, c6⟩, c7, c8⟩ := h
  have k0 := hs.1.2.1.1.2.2.2.1
  have k1 := hs.1.2.1.2.1.2.2.2.1
  have k2 := hs.1.2.1.2.2.1.2.2.2.1
  have k3 := hs.1.2.1.2.2.2.2.2.2.1
  have k4 := hs.2.2.2.1.2.2.2.1
  have k5 : mu_k H 195 = 100 := hs.2.2.1.1.2.2.2.2.2.2.2.1.2.1
  have q14 : mu_k H q = 14 := b1.2.2
  have r100 : mu_k H r = 100 := b3.2.2
  constructor
  · intro z
    rcases z with z | z | z | z | z | z | z | ⟨v, v1, v2⟩
    · exact c8 z
    · rw [z, k0] at q14; exact absurd q14 (by decide)
    · rw [z, k1] at q14; exact absurd q14 (by decide)
    · rw [z, k2] at q14; exact absurd q14 (by decide)
    · rw [z, k3] at q14; exact absurd q14 (by decide)
    · rw [z, k4] at q14; exact absurd q14 (by decide)
    · rw [z, k5] at q14; exact absurd q14 (by decide)
    · rw [(hs.2.1.kd v1 v2).1] at q14; exact absurd q14 (by decide)
  · intro z
    rcases z with z | z | z | z | z | z | z | ⟨v, v1, v2⟩
    · exact c1 z
    · exact c2 z
    · exact c3 z
    · exact c4 z
    · rw [z, k3] at r100; exact absurd r100 (by decide)
    · exact c5 z
    · exact c6 z
    · rw [(hs.2.1.kd v1 v2).1] at r100; exact absurd r100 (by decide)
theorem gfr.zf (h : gfr D ph pt pk pa mm st H H1) (hs : sst tr Hb D ph pt pk pa mm st H) : zfr D ph pt pk pa mm st R H H1 := by
  refine ⟨h.1.wk (fun _ z => z) (fun _ z => z) (fun _ _ z => Or.inl z) (Nat.le_refl _) (Nat.le_refl _), h.2, fun q r z => ?_, fun q r z _ s => ?_⟩
  · obtain ⟨n1, n2⟩ := z.ns hs
    obtain ⟨⟨b1, b2, b3, b4⟩, z2⟩ := z
    exact ⟨⟨h.1.1.is b1 n1, (h.1.1.r (p := q) (Or.inl b1.2.1) n1 0).trans b2, h.1.1.is b3 n2, (h.1.1.len (p := r) (Or.inl b3.2.1) n2).trans b4⟩, z2⟩
  · obtain ⟨n1, n2⟩ := z.ns hs
    unfold bst
    rw [h.1.1.i (p := r) (Or.inl z.1.2.2.1.2.1) n2]
theorem sst.wp (h : sst tr Hb D ph pt pk pa mm st H) (np : p ≠ 169 ∧ p ≠ ph ∧ p ≠ pt ∧ p < 1000000 ∧ ¬ D.G p) : sst tr Hb D ph pt pk pa mm st (mu_si H p j x) := by
  obtain ⟨⟨v1, v2, v3, v4, v5⟩, h2, h3, h4, h5⟩ := h
  exact ⟨⟨v1.siW ⟨np.2.2.2.2, np.2.2.2.1, np.1⟩, v2, v3, fun v hv => by rw [mu_i_si, if_neg (fun y => np.2.1 y.1.symm)]; exact v4 v hv, fun tt v hv => by rw [mu_i_si, if_neg (fun y => np.2.2.1 y.1.symm)]; exact v5 tt v hv⟩, h2, ⟨h3.1, by rw [mu_i_si, if_neg (fun z => np.1 z.1.symm)]; exact h3.2⟩, h4, h5⟩
theorem gop.wp (h : gop D st n S H) (np : p ≠ 195 ∧ p ≠ st) : gop D st n S (mu_si H p j x) := by
  obtain ⟨g1, g2, g3⟩ := h
  exact ⟨g1, fun i hi => by rw [mu_i_si, if_neg (fun z => np.1 z.1.symm)]; exact g2 i hi, fun s hs => by rw [mu_i_si, if_neg (fun z => np.2 z.1.symm)]; exact g3 s hs⟩
/-- a set is written -/
theorem sst.put (hs : sst tr Hb D ph pt pk pa mm st H) (hg : gos D st H) (hb : btk D ph pt pk st H q r) (hw : bwr r s v H H1) (hR : R r) : sst tr Hb D ph pt pk pa mm st H1 ∧ gos D st H1 ∧ zfr D ph pt pk pa mm st R H H1 := by
  obtain ⟨w1, w2⟩ := hw
  rcases w1 with e | ⟨w, e⟩
  · subst e; exact ⟨hs, hg, zfr.rf⟩
  · subst e
    obtain ⟨b1, ⟨c1, c2, c3, c4, c5, c6⟩, ⟨c7, c8⟩, c9⟩ := hb
    refine ⟨hs.wp ⟨c1, c2, c3, c7, c8⟩, ?_, rfr.siW rfr.rf ⟨Or.inr hR, c1⟩, fun _ _ => rfl, fun q r z => z, fun q' r' z hn s' => ?_⟩
    · rcases hg with ⟨g1, n, g2⟩ | g1
      · exact Or.inl ⟨by rw [mu_i_si, if_neg (fun z => c1 z.1.symm)]; exact g1, n, g2.wp ⟨c6, c5⟩⟩
      · exact Or.inr (by rw [mu_i_si, if_neg (fun z => c1 z.1.symm)]; exact g1)
    · unfold bst
      rw [mu_i_si, if_neg (fun y => hn (by rw [y.1]; exact hR))]
/-- how many of the first n are not in the set -/
def cbz (H : mu_H) (r : Nat) : Nat → Nat
  | 0 => 0
  | n + 1 => cbz H r n + (if bst H r n = true then 0 else 1)
theorem cbz_le {H : mu_H} {r : Nat} : ∀ n, cbz H r n ≤ n
  | 0 => Nat.le_refl _
  | n + 1 => by
    have := cbz_le (H := H) (r := r) n
    show cbz H r n + _ ≤ n + 1
    split <;> omega
theorem cbz_cg {H H1 : mu_H} {r : Nat} : ∀ n, (∀ s, s < n → bst H1 r s = bst H r s) → cbz H1 r n = cbz H r n
  | 0, _ => rfl
  | n + 1, h => by
    show cbz H1 r n + _ = cbz H r n + _
    rw [cbz_cg n (fun s hs => h s (by omega)), h n (Nat.lt_succ_self _)]
theorem cbz_put {H H1 : mu_H} {r s : Nat} (h : ∀ t, t < 16384 → bst H1 r t = if t = s then true else bst H r t) (h0 : bst H r s = false) : ∀ n, n ≤ 16384 → cbz H1 r n + (if s < n then 1 else 0) = cbz H r n
  | 0, _ => by rw [if_neg (Nat.not_lt_zero _)]; rfl
  | n + 1, hn => by
    have i := cbz_put h h0 n (by omega)
    show cbz H1 r n + (if bst H1 r n = true then 0 else 1) + _ = cbz H r n + (if bst H r n = true then 0 else 1)
    rw [h n (by omega)]
    by_cases e : n = s
    · subst e
      rw [if_neg (Nat.lt_irrefl _)] at i
      rw [if_pos rfl, if_pos rfl, if_pos (Nat.lt_succ_self _), h0, if_neg (by decide)]
      omega
    · rw [if_neg e]
      by_cases e2 : s < n
      · rw [if_pos e2] at i
        rw [if_pos (show s < n + 1 by omega)]
        omega
      · rw [if_neg e2] at i
        rw [if_neg (show ¬ s < n + 1 by omega)]
        omega
end Zfr
