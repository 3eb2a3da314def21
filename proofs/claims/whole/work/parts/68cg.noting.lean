/-! The reference: what noting symbols keeps -/
/-- the row of symbols and its count may change; at most a cells are made -/
def sfr (a : Nat) (H H1 : mu_H) : Prop := rfr [17] [16] (fun p => mu_r H 169 16 = some p) a (10 * a) H H1 ∧ (mu_r H1 169 16 = mu_r H 169 16 ∨ ∃ p, mu_r H1 169 16 = some p ∧ mu_z H ≤ p ∧ p < 1000000)
section Sfr
variable {a a' a1 a2 n dep cap d q : Nat} {F : Nat → Prop} {H H0 H1 H2 : mu_H} {T : Nat → Int32} {t : Tok} {sy : List (List Int32)}
theorem sfr.rf : sfr 0 H H := ⟨rfr.rf, Or.inl rfl⟩
theorem sfr.wk (h : sfr a H H1) (ha : a ≤ a') : sfr a' H H1 := ⟨h.1.wk (fun _ z => z) (fun _ z => z) (fun _ _ z => z) ha (by omega), h.2⟩
theorem sfr.tr (h1 : sfr a1 H H1) (h2 : sfr a2 H1 H2) : sfr (a1 + a2) H H2 := by
  obtain ⟨x1, x2⟩ := h1
  obtain ⟨y1, y2⟩ := h2
  have hz : mu_z H ≤ mu_z H1 := x1.1.1
  refine ⟨(x1.tr y1 (Fi := [17]) (Fr := [16]) (W := fun p => mu_r H 169 16 = some p) (fun _ z => z.elim id id) (fun _ z => z.elim id id) (fun p hp z => ?_)).wk (fun _ z => z) (fun _ z => z) (fun _ _ z => z) (Nat.le_refl _) (by omega), ?_⟩
  · rcases z with z | z
    · exact z
    · rcases x2 with e | ⟨q, e, hq⟩
      · rw [e] at z; exact z
      · have e2 : some q = some p := e.symm.trans z
        cases e2
        omega
  · rcases y2 with e | ⟨q, e, hq⟩
    · rw [e]; exact x2
    · exact Or.inr ⟨q, e, by omega, hq.2⟩
theorem sfr.qf (h : sfr a H H1) : qfr a F F H H1 := by
  refine ⟨h.1.wk (fun k z => by simp only [List.mem_cons, List.not_mem_nil, or_false] at z ⊢; omega) (fun k z => by simp only [List.mem_cons, List.not_mem_nil, or_false] at z ⊢; omega) (fun _ _ z => Or.inr z) (Nat.le_refl _) (Nat.le_refl _), fun k hk => ?_, fun _ z => z, fun _ z => Or.inl z⟩
  rcases hk with e | e
  · subst e; exact Or.inl (h.1.2.2.1 13 (by decide))
  · subst e; exact h.2
theorem sfr.nF (hs : pst T n t dep F H) (hy : syr H F cap sy) : ∀ p, (p = 169 ∨ mu_r H 169 16 = some p) → ¬ F p ∧ p < 1000000 := by
  obtain ⟨r, r1, ⟨r2, r3, r4⟩, ⟨r5, r6⟩, _⟩ := hy
  intro p z
  rcases z with e | e
  · subst e; exact ⟨fun z => absurd (hs.fz _ z).1 (by decide), by decide⟩
  · rw [r1] at e; cases e; exact ⟨r5, r4⟩
theorem pst.sfr (hs : pst T n t dep F H) (hy : syr H F cap sy) (hf : sfr a H H1) : pst T n t dep F H1 := by
  have hn := sfr.nF hs hy
  have hsl := hs.sl
  obtain ⟨r, r1, ⟨r2, r3, r4⟩, ⟨r5, r6⟩, _⟩ := hy
  obtain ⟨g1, g2, ⟨⟨k1, k2, k3⟩, k4, k5, k6⟩, g4, g5, p, p1, ⟨p2, p2'⟩, p3, p4, p5⟩ := hs
  have hk := hf.1.1
  have hz := hk.1
  have ei : ∀ k, k ≠ 17 → mu_i H1 169 k = mu_i H 169 k := fun k h => hf.1.2.1 k (by simp only [List.mem_cons, List.not_mem_nil, or_false]; exact h)
  have er : ∀ k, k ≠ 16 → mu_r H1 169 k = mu_r H 169 k := fun k h => hf.1.2.2.1 k (by simp only [List.mem_cons, List.not_mem_nil, or_false]; exact h)
  refine ⟨g1.keep hf.1 (fun k z => ?_) (fun x z => ?_), g2.keep g1 hf.1 (by decide) (fun z => ?_), ⟨⟨(ei 7 (by decide)).trans k1, (ei 8 (by decide)).trans k2, (ei 6 (by decide)).trans k3⟩, fun e => (ei 10 (by decide)).trans (k4 e), fun e => ?_, k6⟩, ⟨(ei 12 (by decide)).trans g4.1, g4.2⟩, fun x z => ?_, p, (er 13 (by decide)).trans p1, ⟨by omega, p2'⟩, p3, ?_⟩
  · simp only [List.mem_cons, List.not_mem_nil, or_false] at z
    subst z
    decide
  · rw [r1] at z
    cases z
    simp only [List.mem_cons, List.not_mem_nil, or_false]
    omega
  · rw [r1] at z
    cases z
    exact absurd r2 (by decide)
  · obtain ⟨q, w, b1, b2, b3, b4, b5⟩ := k5 e
    have s1 : stf H1 F q (slc T t.2.1 t.2.2) := stf.kp ⟨b5, Or.inr ⟨b2, w, b3, b4⟩, hsl⟩ hk hn
    rcases s1.2.1 with c | ⟨c1, w', c2, c3⟩
    · exact absurd c.1 (by have := (g5 q b2).2.1.2; omega)
    · exact ⟨q, w', (er 11 (by decide)).trans b1, c1, c2, c3, s1.1⟩
  · rw [er 13 (by decide)]
    exact ⟨(g5 x z).1, ⟨by have := (g5 x z).2.1.1; omega, (g5 x z).2.1.2⟩, (g5 x z).2.2⟩
  · have sm : mu_same H H1 p := hk.2.1 p (Or.inl p2) (fun z => z.elim (fun e => p3 (by rw [e]; decide)) (fun e => by rw [r1] at e; cases e; exact r6 p1))
    exact ⟨sm.1.trans p4, by rw [sm.2.1]; exact p5⟩
theorem nd.sfr {c : Tre} (h : nd H F d q c) (hs : pst T n t dep F H) (hy : syr H F cap sy) (hf : sfr a H H1) : nd H1 F d q c := h.kp hf.1.1 (sfr.nF hs hy)
theorem stf.sfr {b : List Int32} (h : stf H F q b) (hs : pst T n t dep F H) (hy : syr H F cap sy) (hf : sfr a H H1) : stf H1 F q b := h.kp hf.1.1 (sfr.nF hs hy)
theorem nun.sfr {f r c s k : Nat} {x : Int32} {ns : List (List Int32)} {qs : List Nat} {cs : List Tre} (h : nun H0 H F f q r c s k x ns qs cs) (hs : pst T n t dep F H) (hy : syr H F cap sy) (h2 : 200 < mu_z H0) (hf : sfr a H H1) : nun H0 H1 F f q r c s k x ns qs cs := by
  have n1 := hy.ne h.1.1.1 (by decide)
  have n2 := hy.ne h.1.2.1.1 (by decide)
  have l1 := h.2.2.2.2.2.1
  exact h.kp hf.1.1 (sfr.nF hs hy) (fun z => z.elim (by omega) n1) (fun z => z.elim (by omega) n2) (hf.1.2.2.1 13 (by decide))
end Sfr
/-- a value's symbol is noted -/
def nsa (v : Tre) (sy : List (List Int32)) : List (List Int32) := if tkd v = 70 then (if fid (fun i => decide (sy.getD i [] = (tns v).getD 0 [])) sy.length 0 < 0 then sy ++ [(tns v).getD 0 []] else sy) else sy
def nsl (c : Tre) : Nat → Nat → List (List Int32) → List (List Int32)
  | 0, _, sy => sy
  | m + 1, k, sy => nsl c m (k + 1) (nsa (tkk c k) sy)
/-- the symbols of a TYPE are noted -/
def nsy (c : Tre) (sy : List (List Int32)) : List (List Int32) := if tkd c = 69 then nsl c (tsn c) 0 sy else sy
theorem nsa_len {v : Tre} {sy : List (List Int32)} : sy.length ≤ (nsa v sy).length ∧ (nsa v sy).length ≤ sy.length + 1 := by
  unfold nsa
  split
  · split
    · rw [List.length_append]; exact ⟨Nat.le_add_right _ _, Nat.le_refl _⟩
    · exact ⟨Nat.le_refl _, Nat.le_succ _⟩
  · exact ⟨Nat.le_refl _, Nat.le_succ _⟩
theorem nsl_len {c : Tre} : ∀ m k sy, sy.length ≤ (nsl c m k sy).length ∧ (nsl c m k sy).length ≤ sy.length + m
  | 0, _, _ => ⟨Nat.le_refl _, Nat.le_refl _⟩
  | m + 1, k, sy => by
    have h1 := nsa_len (v := tkk c k) (sy := sy)
    have h2 : (nsa (tkk c k) sy).length ≤ (nsl c m (k + 1) (nsa (tkk c k) sy)).length ∧ (nsl c m (k + 1) (nsa (tkk c k) sy)).length ≤ (nsa (tkk c k) sy).length + m := nsl_len m (k + 1) _
    rw [nsl]
    omega
theorem tsz_eq (c : Tre) : tsz c = if tkd c = 69 then tsn c else 0 := by
  unfold tsz tkd tsn
  cases c [] with
  | none => rfl
  | some i => rfl
theorem nsy_len {c : Tre} {sy : List (List Int32)} : sy.length ≤ (nsy c sy).length ∧ (nsy c sy).length ≤ sy.length + tsz c := by
  unfold nsy
  rw [tsz_eq]
  by_cases e : tkd c = 69
  · rw [if_pos e, if_pos e]; exact nsl_len _ _ _
  · rw [if_neg e, if_neg e]; exact ⟨Nat.le_refl _, Nat.le_refl _⟩
