/-! Space.begin: the places -/
def kepU (U U' : Ud) : Prop := U'.2.2.2.1 = U.2.2.2.1 ∧ (∀ p i, ¬ (p = 99 ∧ (i = 5 ∨ i = 7)) → U'.2.2.1 p i = U.2.2.1 p i) ∧ (∀ p i, ¬ (p = 99 ∧ (i = 4 ∨ i = 9 ∨ i = 10)) → U'.2.1 p i = U.2.1 p i) ∧ U'.2.2.2.2 = U.2.2.2.2 ∧ (U'.2.2.1 99 5).1 = (U.2.2.1 99 5).1 ∧ (U'.2.2.1 99 7).1 = (U.2.2.1 99 7).1
/-- the first v VARIABLES have been met, P of them have a place -/
def B1 (U U' : Ud) (v P : Nat) (f : Nat → Nat) : Prop :=
  ((∀ j, j ≠ 15 → U'.1 j = U.1 j) ∧ (U'.1 15).1 = (U.1 15).1 ∧ (∀ i c, c ≠ 2 → (U'.1 15).2 i c = (U.1 15).2 i c) ∧ ∀ w, w < (U.1 15).1 → (U'.1 15).2 w 2 = -1 ∨ ∃ k, k < P ∧ (U'.1 15).2 w 2 = nI k) ∧
  (U'.2.1 99 4 = nI P ∧ U'.2.1 99 10 = nI (sm f 0 P) ∧ ∀ k, k < P → (U'.2.2.1 99 5).2 k = nI (f k) ∧ (U'.2.2.1 99 7).2 k = nI (sm f 0 k)) ∧ szs f P (sm (bz U.1) 0 v) ∧ kepU U U'
section Places
variable {H H1 H2 : mu_H} {m d v P n : Nat} {C : Nat → Nat} {U U' U2 : Ud} {f : Nat → Nat}
theorem B1.skip (h : B1 U U' v P f) : B1 U U' (v + 1) P f := ⟨h.1, h.2.1, h.2.2.1.more (Nat.le_add_right _ _), h.2.2.2⟩
theorem sm_upto {g : Nat → Nat} {k : Nat} (h : ∀ q, q < k → g q = f q) : sm g 0 k = sm f 0 k := sm_congr (fun q _ hq => h q (by omega))
theorem B1.put (h : B1 U U' v P f) (hv : v < (U.1 15).1) (hN : (U.1 15).1 ≤ 67108864) (hn : 2 ≤ n) (hc : n ≤ 2 ^ bz U.1 v) (hc1 : 1 ≤ bz U.1 v) {r : Int32} (E : U2 = upI (upI (upA (upI (upA (upT U' (ax 15 U'.1 (nI v) 2 (nI P))) 99 5 P (nI n)) 99 9 r) 99 7 P (nI (sm f 0 P))) 99 10 (nI (sm f 0 P + n))) 99 4 (nI (P + 1))) : B1 U U2 (v + 1) (P + 1) (fun k => if k = P then n else f k) := by
  obtain ⟨⟨t1, t2, t3, t4⟩, ⟨p1, p2, p3⟩, hs, ⟨k1, k2, k3, k4, k5, k6⟩⟩ := h
  have es : ∀ k, k ≤ P → sm (fun k => if k = P then n else f k) 0 k = sm f 0 k := fun k hk => sm_upto (fun q hq => if_neg (by omega))
  have hs' : szs (fun k => if k = P then n else f k) P (sm (bz U.1) 0 v) := by
    obtain ⟨s1, s2, s3, s4⟩ := hs
    have ep : pd (fun k => if k = P then n else f k) 0 P = pd f 0 P := pd_congr (fun k _ hk => if_neg (by omega))
    exact ⟨fun k hk => by show 2 ≤ (if k = P then n else f k); rw [if_neg (by omega)]; exact s1 k hk, by rw [ep]; exact s2, s3, by rw [ep, es P (Nat.le_refl _)]; exact s4⟩
  have eT : U2.1 = ax 15 U'.1 (nI v) 2 (nI P) := by rw [E]; rfl
  refine ⟨⟨fun j hj => ?_, ?_, fun i c hc2 => ?_, fun w hw => ?_⟩, ⟨by rw [E]; rfl, ?_, fun k hk => ?_⟩, ?_, ⟨?_, fun p i hp => ?_, fun p i hp => ?_, ?_, ?_, ?_⟩⟩
  · rw [eT, ax_ne hj]; exact t1 j hj
  · rw [eT, ax_n]; exact t2
  · rw [eT, ax_c (fun _ _ => hc2)]; exact t3 i c hc2
  · rw [eT]
    by_cases e : w = v
    · subst e
      exact Or.inr ⟨P, by omega, ax_hit (by rw [t2]; exact hv) (by decide) (by omega)⟩
    · rw [ax_c (fun _ z => absurd (z.trans (nI_clamp (by omega))) e)]
      rcases t4 w hw with z | ⟨k, z1, z2⟩
      · exact Or.inl z
      · exact Or.inr ⟨k, by omega, z2⟩
  · have : sm (fun k => if k = P then n else f k) 0 (P + 1) = sm f 0 P + n := by
      show sm (fun k => if k = P then n else f k) 0 P + (if 0 + P = P then n else f (0 + P)) = _
      rw [es P (Nat.le_refl _), if_pos (by omega)]
    rw [this, E]
    rfl
  · have e5 : (U2.2.2.1 99 5).2 k = if k = P then nI n else (U'.2.2.1 99 5).2 k := by rw [E]; rfl
    have e7 : (U2.2.2.1 99 7).2 k = if k = P then nI (sm f 0 P) else (U'.2.2.1 99 7).2 k := by rw [E]; rfl
    rw [e5, e7]
    by_cases e : k = P
    · subst e
      rw [if_pos rfl, if_pos rfl, es k (Nat.le_refl _)]
      exact ⟨by show nI n = nI (if k = k then n else f k); rw [if_pos rfl], rfl⟩
    · rw [if_neg e, if_neg e, es k (by omega)]
      obtain ⟨z1, z2⟩ := p3 k (by omega)
      exact ⟨by show _ = nI (if k = P then n else f k); rw [if_neg e]; exact z1, z2⟩
  · have := hs'.put (n := n) (c := bz U.1 v) hn hc hc1 (if_pos rfl)
    show szs _ (P + 1) (sm (bz U.1) 0 v + bz U.1 (0 + v))
    rw [Nat.zero_add]
    exact this
  · rw [E]; exact k1
  · have e : U2.2.2.1 p i = U'.2.2.1 p i := by
      rw [E]
      show f2 (f2 U'.2.2.1 99 5 _) 99 7 _ p i = _
      unfold f2
      rw [if_neg (fun z => hp ⟨z.1, Or.inr z.2⟩), if_neg (fun z => hp ⟨z.1, Or.inl z.2⟩)]
    rw [e]; exact k2 p i hp
  · have e : U2.2.1 p i = U'.2.1 p i := by
      rw [E]
      show f2 (f2 (f2 U'.2.1 99 9 r) 99 10 _) 99 4 _ p i = _
      unfold f2
      rw [if_neg (fun z => hp ⟨z.1, Or.inl z.2⟩), if_neg (fun z => hp ⟨z.1, Or.inr (Or.inr z.2)⟩), if_neg (fun z => hp ⟨z.1, Or.inr (Or.inl z.2)⟩)]
    rw [e]; exact k3 p i hp
  · rw [E]; exact k4
  · rw [E]; exact k5
  · rw [E]; exact k6
end Places
