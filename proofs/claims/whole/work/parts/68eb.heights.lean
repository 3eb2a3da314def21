/-! The reference: heights as numbers that fit together -/
/-- what the names of a tree stand for -/
def usk (D : MD) (j : Nat) (c : Tre) (t : Nat) : Prop := ∃ l, usz D j l c t
section Usk
variable {D : MD} {j t l k : Nat} {c : Tre} {hs hs' : Nat → Int32} {ol : Nat → Nat}
theorem usk.kk {i : Nat} (h : usk D j (tkk c i) t) (hi : i < tsn c) (hc : ¬ tkd c ∈ [64, 33]) : usk D j c t := by
  obtain ⟨l, h⟩ := h
  exact ⟨l + 1, Or.inr ⟨hc, i, hi, h⟩⟩
theorem exw.nn (h : exw (l + 1) c) (hk : k < tsn c) : ¬ tkd c ∈ [64, 33] := fun e => by
  have := (h.toN.1 e).2
  omega
theorem exw.mk (h : exw (l + 1) c) (hk : k < tsn c) (h6 : tkd c = 66) (h0 : 0 < k) : ¬ tkd (tkk c k) ∈ [64, 33] := by
  have no : ∀ {ks : List Nat}, tkd c ∈ ks → 66 ∈ ks := fun h1 => by rw [← h6]; exact h1
  rcases h with h | h | h | h | h | h | ⟨h1, h2, h3, ms, h4, h5⟩
  · exact absurd (no h.1) (by decide)
  · exact absurd (no h.1) (by decide)
  · exact absurd (no h.1) (by decide)
  · exact absurd (no h.1) (by decide)
  · exact absurd (no h.1) (by decide)
  · exact absurd (h6.symm.trans h.1) (by decide)
  · intro e
    have k1 := (h5 k h0 hk).1
    simp only [List.mem_cons, List.not_mem_nil, or_false] at h4 e
    rcases h4 with q | q | q <;> subst q <;> rcases e with e | e <;> rw [e] at k1 <;> exact absurd k1 (by decide)
theorem usk.p (h : usk D j (lkp c k) t) (hx : exw (l + 1) c) (hk : k < tsn c) : usk D j c t := by
  have q := (hx.lk hk).2
  have nn := hx.nn hk
  unfold lkp at h
  by_cases e : tkd c = 66 ∧ 0 < k
  · rw [if_pos e] at h
    exact (h.kk (by rw [q e.1 e.2]; exact Nat.one_pos) (hx.mk hk e.1 e.2)).kk hk nn
  · rw [if_neg e] at h
    exact h.kk hk nn
theorem hgl_cg {f g : Nat → Int32} : ∀ m h, (∀ k, k < m → f k = g k) → hgl c f m h = hgl c g m h
  | 0, _, _ => rfl
  | m + 1, h, e => by
    rw [hgl, hgl, e m (Nat.lt_succ_self _)]
    exact hgl_cg m _ (fun k hk => e k (by omega))
theorem hcl_cg {f g : Nat → Int32} : ∀ m k h, (∀ i, k ≤ i → i < k + m → f i = g i) → hcl f m k h = hcl g m k h
  | 0, _, _, _ => rfl
  | m + 1, k, h, e => by
    rw [hcl, hcl, e k (Nat.le_refl _) (by omega)]
    exact hcl_cg m (k + 1) _ (fun i h1 h2 => e i (by omega) (by omega))
/-- heights look at what is used alone -/
theorem hgt_cg (hb : mdb D) (hj : j < D.n) : ∀ {l : Nat} {c : Tre}, exw l c → (∀ t, usk D j c t → hs t = hs' t) → hgt D j hs l c = hgt D j hs' l c
  | 0, _, h, _ => h.elim
  | l + 1, c, h, e => by
    rw [hgt, hgt]
    by_cases e1 : tkd c = 33
    · rw [if_pos e1, if_pos e1]
    · rw [if_neg e1, if_neg e1]
      by_cases e2 : tkd c = 64
      · rw [if_pos e2, if_pos e2]
        have nk : tkd c ∈ [64, 33] := by rw [e2]; decide
        cases e3 : fno D j (tns c) with
        | none => rfl
        | some x =>
          obtain ⟨a, y, s⟩ := x
          dsimp only
          by_cases e4 : s < 0
          · rw [if_pos e4, if_pos e4]
          · rw [if_neg e4, if_neg e4]
            obtain ⟨v, v1, v2⟩ := (fno_b hb hj e3).2.2.1.resolve_left (fun z => e4 (by rw [z]; decide))
            subst v2
            have b4 := hb.2.1
            rw [nI_clamp (by omega), e v ⟨1, Or.inl ⟨nk, _, e3, rfl, v1⟩⟩]
      · rw [if_neg e2, if_neg e2]
        rw [hgl_cg (tsn c) 0 (fun k hk => hgt_cg hb hj (h.lk hk).1 (fun t ht => e t (ht.p h hk)))]
theorem hgc_cg (hb : mdb D) (hj : j < D.n) (e : ∀ t, t < (D.pr 0).length → hs t = hs' t) : ∀ {l : Nat} {c : Tre}, chw l c → hgc D j hs l c = hgc D j hs' l c
  | 0, _, h => h.elim
  | l + 1, c, h => by
    rw [hgc, hgc]
    by_cases e1 : tkd c = 10 ∨ tkd c = 52
    · rw [if_pos e1, if_pos e1]
      rw [hcl_cg (tsn c) 0 0 (fun k _ hk => ?_)]
      have pt := h.pt (k := k) (by omega) e1
      by_cases e2 : tkd c = 52 ∧ k % 2 = 1
      · rw [if_pos e2, if_pos e2]; exact hgc_cg hb hj e (pt.2 e2)
      · rw [if_neg e2, if_neg e2]; exact hgt_cg hb hj (pt.1 e2) (fun t ht => e t (by obtain ⟨_, z⟩ := ht; exact usz_lt z))
    · rw [if_neg e1, if_neg e1]
      exact hgt_cg hb hj (h.no e1) (fun t ht => e t (by obtain ⟨_, z⟩ := ht; exact usz_lt z))
/-- each height is that of its expression -/
def hsol (D : MD) (hs : Nat → Int32) : Prop := ∀ s, s < (D.pr 0).length → hs s = hgt D (own D s) hs 905 (stdt D s)
/-- all heights are at most 120 -/
def hok (D : MD) (hs : Nat → Int32) : Prop := (∀ s, s < (D.pr 0).length → ¬ 120 < hs s) ∧ ∀ j, j < D.n → ∀ k, k < (D.md j).2.2.length → (tkd (nth (D.md j).2.2 k) ∈ [32, 33, 75] → ¬ 120 < hgc D j hs 905 (tkk (nth (D.md j).2.2 k) 0)) ∧ (¬ tkd (nth (D.md j).2.2 k) ∈ [32, 33, 75] → ¬ tkd (nth (D.md j).2.2 k) = 73 → ¬ tkd (nth (D.md j).2.2 k) = 74 → ¬ 120 < hgt D j hs 905 (tkk (nth (D.md j).2.2 k) 0))
/-- the trees that stand for names are expressions -/
def mdx2 (D : MD) : Prop := ∀ s, s < (D.pr 0).length → exw 905 (stdt D s) ∧ own D s < D.n
/-- the first K of an order are done -/
def hen (D : MD) (ol : Nat → Nat) (K : Nat) (hs : Nat → Int32) : Prop := ∀ b, b < K → hs (ol b) = hgt D (own D (ol b)) hs 905 (stdt D (ol b))
theorem usz_k (h : nwf l c) : ∀ {m : Nat}, usz D j m c t → usz D j l c t := by
  induction l generalizing c with
  | zero => exact h.elim
  | succ l ih =>
    intro m hm
    cases m with
    | zero => exact hm.elim
    | succ m =>
      rcases hm with z | ⟨z, i, hi, y⟩
      · exact Or.inl z
      · exact Or.inr ⟨z, i, hi, ih (h.2 i hi) y⟩
theorem ordz.us (ho : ordz D l ol) (hx : mdx2 D) (hl : 1810 ≤ l) {a : Nat} (ha : a < (D.pr 0).length) (hu : usk D (own D (ol a)) (stdt D (ol a)) t) : ∃ b, b < a ∧ ol b = t := by
  obtain ⟨m, hu⟩ := hu
  have q := ho.1 a ha
  exact q.2.2 t (usz_k ((hx _ q.1).1.toN.le hl) hu)
theorem hen.uni (ho : ordz D l ol) (hx : mdx2 D) (hl : 1810 ≤ l) (hb : mdb D) {K : Nat} (hK : K ≤ (D.pr 0).length) (h : hen D ol K hs) (h2 : hsol D hs') : ∀ b, b < K → hs' (ol b) = hs (ol b) := by
  have lm : ∀ m b, b < m → b < K → hs' (ol b) = hs (ol b) := by
    intro m
    induction m with
    | zero => intro b hb; exact absurd hb (Nat.not_lt_zero _)
    | succ m ih =>
      intro b hbm hbK
      have q := ho.1 b (by omega)
      rw [h2 _ q.1, h b hbK]
      refine hgt_cg hb (hx _ q.1).2 (hx _ q.1).1 (fun t ht => ?_)
      obtain ⟨a, a1, a2⟩ := ho.us hx hl (by omega) ht
      rw [← a2]
      exact ih a (by omega) (by omega)
  exact fun b hb => lm (b + 1) b (Nat.lt_succ_self _) hb
/-- one more is done -/
theorem hen.step (ho : ordz D l ol) (hx : mdx2 D) (hl : 1810 ≤ l) (hb : mdb D) {K : Nat} (hK : K < (D.pr 0).length) (h : hen D ol K hs) : hen D ol (K + 1) (fup hs (ol K) (hgt D (own D (ol K)) hs 905 (stdt D (ol K)))) := by
  have eq : ∀ b, b ≤ K → ∀ t, usk D (own D (ol b)) (stdt D (ol b)) t → fup hs (ol K) (hgt D (own D (ol K)) hs 905 (stdt D (ol K))) t = hs t := by
    intro b hbK t ht
    obtain ⟨a, a1, a2⟩ := ho.us hx hl (by omega) ht
    by_cases e : t = ol K
    · rw [e, fup_at]
      have z := h a (by omega)
      rw [a2, e] at z
      exact z.symm
    · rw [fup_ne e]
  intro b hbK
  have q := ho.1 b (by omega)
  rw [hgt_cg hb (hx _ q.1).2 (hx _ q.1).1 (eq b (by omega))]
  by_cases e : ol b = ol K
  · rw [e, fup_at]
  · rw [fup_ne e]
    have : b ≠ K := fun z => e (by rw [z])
    exact h b (by omega)
theorem hen.all (ho : ordz D l ol) (h : hen D ol (D.pr 0).length hs) : hsol D hs := fun s hs2 => by
  obtain ⟨a, a1, a2⟩ := ho.2 s hs2
  have z := h a a1
  rw [a2] at z
  exact z
end Usk
