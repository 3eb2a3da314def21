/-! THE UPPER LAYER: Space, Machine, Sets, Relation, Graph and Prover; what is kept there -/
/-- the places of the pools: each may hold an array of longs, made once, or twice: first a small one -/
def plp : List (Nat × Nat) := (List.range 184).map (fun i => (114, i)) ++ ((List.range 248).map (fun i => (161, i)) ++ (List.range 64).map (fun i => (163, i)))
def pln (H : mu_H) (t : Nat × Nat) : Nat := if (mu_r H t.1 t.2).isSome then (if mu_n H (mu_p (mu_r H t.1 t.2)) ≤ 16 then 1 else 2) else 0
def plz (H : mu_H) (t : Nat × Nat) : Nat := if (mu_r H t.1 t.2).isSome then (if mu_n H (mu_p (mu_r H t.1 t.2)) ≤ 16 then mu_n H (mu_p (mu_r H t.1 t.2)) else mu_n H (mu_p (mu_r H t.1 t.2)) + 16) else 0
def PN (H : mu_H) : Nat := (plp.map (pln H)).sum
def PS (H : mu_H) : Nat := (plp.map (plz H)).sum
/-- the pools hold arrays of longs, each its own -/
def pko (H : mu_H) : Prop := (∀ t ∈ plp, mu_r H t.1 t.2 = none ∨ (mu_is H (mu_r H t.1 t.2) 102 ∧ 201 ≤ mu_p (mu_r H t.1 t.2))) ∧ ∀ t ∈ plp, ∀ u ∈ plp, mu_r H t.1 t.2 ≠ none → mu_r H t.1 t.2 = mu_r H u.1 u.2 → t = u
/-- the ground of the upper layer -/
def gu (H : mu_H) : Prop := gi H ∧ pko H ∧ mu_z H ≤ 800000 + gi_SL H + PN H
/-- what has been kept, but for the objects of S, their arrays of ints, and all arrays of longs and of references -/
def hk (S : Nat → Bool) (H H1 : mu_H) : Prop :=
  (mu_z H ≤ mu_z H1 ∧ mu_c H ≤ mu_c H1 ∧ mu_s H ≤ mu_s H1) ∧
  (∀ p, p < mu_z H → mu_k H1 p = mu_k H p ∧ mu_n H1 p = mu_n H p) ∧
  (∀ p k, gi_k p = some k → S p = false → mu_same H H1 p) ∧
  (∀ p j, gi_o p j = true → S p = false → mu_same H H1 (mu_p (mu_r H p j))) ∧
  (∀ p, p < mu_z H → mu_k H p = 101 → mu_same H H1 p) ∧
  (∀ p, p < mu_z H → ¬ gi_cd H p → mu_same H H1 p) ∧
  (∀ p, gi_cd H1 p → gi_cd H p ∨ mu_z H ≤ p) ∧
  (mu_s H1 + 2 * gi_SC H + PS H ≤ mu_s H + 2 * gi_SC H1 + PS H1 ∧ mu_z H1 + gi_SL H + PN H ≤ mu_z H + gi_SL H1 + PN H1 ∧ mu_c H1 + gi_SL H + PN H ≤ mu_c H + gi_SL H1 + PN H1)
section Upper
variable {H H1 H2 : mu_H} {S : Nat → Bool}
theorem hk.refl (S : Nat → Bool) (H : mu_H) : hk S H H := ⟨⟨Nat.le_refl _, Nat.le_refl _, Nat.le_refl _⟩, fun _ _ => ⟨rfl, rfl⟩, fun p _ _ _ => mu_same.refl H p, fun _ _ _ _ => mu_same.refl H _, fun p _ _ => mu_same.refl H p, fun p _ _ => mu_same.refl H p, fun _ h => Or.inl h, Nat.le_refl _, Nat.le_refl _, Nat.le_refl _⟩
theorem hk.trans (h : hk S H H1) (h' : hk S H1 H2) : hk S H H2 := by
  obtain ⟨⟨a1, a2, a3⟩, b, c, e, f, g, i, j1, j2, j3⟩ := h
  obtain ⟨⟨a1', a2', a3'⟩, b', c', e', f', g', i', j1', j2', j3'⟩ := h'
  refine ⟨⟨by omega, by omega, by omega⟩, fun p hp => ⟨((b' p (by omega)).1).trans (b p hp).1, ((b' p (by omega)).2).trans (b p hp).2⟩, fun p k hp hs => (c p k hp hs).trans (c' p k hp hs), fun p j hp hs => ?_, fun p hp hk => (f p hp hk).trans (f' p (by omega) (by rw [(b p hp).1]; exact hk)), fun p hp hn => ?_, fun p hp => ?_, by omega, by omega, by omega⟩
  · obtain ⟨-, ⟨k, hk⟩, -⟩ := gi_o_ok hp
    have := e' p j hp hs
    rw [(c p k hk hs).r j] at this
    exact (e p j hp hs).trans this
  · refine (g p hp hn).trans (g' p (by omega) (fun hc => ?_))
    rcases i p hc with z | z
    · exact hn z
    · omega
  · rcases i' p hp with z | z
    · exact i p z
    · exact Or.inr (by omega)
theorem plp_in {t : Nat × Nat} (h : t ∈ plp) : t.1 = 114 ∨ t.1 = 161 ∨ t.1 = 163 := by
  unfold plp at h
  rcases List.mem_append.mp h with z | z
  · obtain ⟨i, -, e⟩ := List.mem_map.mp z
    rw [← e]; exact Or.inl rfl
  · rcases List.mem_append.mp z with z | z
    · obtain ⟨i, -, e⟩ := List.mem_map.mp z
      rw [← e]; exact Or.inr (Or.inl rfl)
    · obtain ⟨i, -, e⟩ := List.mem_map.mp z
      rw [← e]; exact Or.inr (Or.inr rfl)
theorem plp_kind (hg : gi H) {t : Nat × Nat} (h : t ∈ plp) : t.1 < mu_z H ∧ mu_k H t.1 = 104 := by
  rcases plp_in h with e | e | e <;> rw [e]
  · have := (hg.a (p := 114) (x := (104, 184)) rfl).1; exact ⟨this.2.1, this.2.2⟩
  · have := (hg.a (p := 161) (x := (104, 248)) rfl).1; exact ⟨this.2.1, this.2.2⟩
  · have := (hg.a (p := 163) (x := (104, 64)) rfl).1; exact ⟨this.2.1, this.2.2⟩
/-- the pools as before -/
theorem pools_same (hg : gi H) (hp : pko H) (hr : ∀ t ∈ plp, mu_r H1 t.1 t.2 = mu_r H t.1 t.2) (hz : mu_z H ≤ mu_z H1) (hb : ∀ p, p < mu_z H → mu_k H1 p = mu_k H p ∧ mu_n H1 p = mu_n H p) : pko H1 ∧ PN H1 = PN H ∧ PS H1 = PS H := by
  refine ⟨⟨fun t ht => ?_, fun t ht u hu hn he => ?_⟩, ?_, ?_⟩
  · rw [hr t ht]
    rcases hp.1 t ht with z | ⟨z, z2⟩
    · exact Or.inl z
    · exact Or.inr ⟨⟨z.1, by have := z.2.1; omega, by rw [(hb _ z.2.1).1]; exact z.2.2⟩, z2⟩
  · rw [hr t ht] at hn he
    rw [hr u hu] at he
    exact hp.2 t ht u hu hn he
  · unfold PN
    refine gi_sum_eq plp (fun t ht => ?_)
    unfold pln
    rw [hr t ht]
    rcases hp.1 t ht with z | ⟨z, -⟩
    · rw [z]; rfl
    · rw [(hb _ z.2.1).2]
  · unfold PS
    refine gi_sum_eq plp (fun t ht => ?_)
    unfold plz
    rw [hr t ht]
    rcases hp.1 t ht with z | ⟨z, -⟩
    · rw [z]; rfl
    · rw [(hb _ z.2.1).2]
theorem hk.of (h : gk S H H1) (hg : gi H) (hp : pko H) : hk S H H1 ∧ pko H1 ∧ PN H1 = PN H := by
  obtain ⟨a, b, c, e, f, g, i, j1, j2, j3⟩ := h
  obtain ⟨p1, p2, p3⟩ := pools_same hg hp (fun t ht => by
    obtain ⟨k1, k2⟩ := plp_kind hg ht
    exact (f t.1 k1 (by omega)).r t.2) a.1 b
  exact ⟨⟨a, b, c, e, fun p hp hk => f p hp (by omega), g, i, by omega, by omega, by omega⟩, p1, p2⟩
theorem gu.gk (h : gu H) (hg : gi H1) (hk' : gk S H H1) : gu H1 ∧ hk S H H1 := by
  obtain ⟨p1, p2, p3⟩ := hk.of hk' h.1 h.2.1
  have j2 := hk'.2.2.2.2.2.2.2.2.1
  have h3 := h.2.2
  exact ⟨⟨hg, p2, by omega⟩, p1⟩
theorem hk.mono {S' : Nat → Bool} (h : hk S H H1) (hS : ∀ p, S p = true → S' p = true) : hk S' H H1 := by
  have hS' : ∀ p, S' p = false → S p = false := fun p hp => by
    cases hs : S p with
    | false => rfl
    | true => rw [hS p hs] at hp; cases hp
  exact ⟨h.1, h.2.1, fun p k hk hs => h.2.2.1 p k hk (hS' p hs), fun p j hp hs => h.2.2.2.1 p j hp (hS' p hs), h.2.2.2.2⟩
end Upper
