/-! SOUND: a TEXT that is well formed -/
section SoundWell
variable {H H1 : mu_H} {m : Nat}
theorem mo.tw (h : mo m H) (hs : ∀ j, j < 19 → gi_sz H1 (m + 1 + 2 * j) = gi_sz H (m + 1 + 2 * j)) (hc : cp m H H1) : mo m H1 := by
  have m3 : gi_sz H1 (m + 3) = gi_sz H (m + 3) := hs 1 (by decide)
  have c3 : ∀ i c, c ≤ 6 → cel H1 (m + 3) (i * 11 + c) = cel H (m + 3) (i * 11 + c) := fun i c h6 => hc 1 (by decide) i c (by show c < 11; omega) (decide_eq_true h6)
  intro i hi c h1 h6
  have ht : tabc c < 19 := by
    have : c = 1 ∨ c = 2 ∨ c = 3 ∨ c = 4 ∨ c = 5 ∨ c = 6 := by omega
    rcases this with e | e | e | e | e | e <;> subst e <;> decide
  have es : ∀ i, msp H1 m i c = msp H m i c := fun i => by
    unfold msp
    rw [m3, c3 i c h6, hs _ ht]
  rw [m3] at hi
  rw [c3 i c h6, es, es, hs _ ht]
  exact h i hi c h1 h6
theorem vl.tw (h : vl m H) (hs : ∀ j, j < 19 → gi_sz H1 (m + 1 + 2 * j) = gi_sz H (m + 1 + 2 * j)) (hc : cp m H H1) : vl m H1 := by
  have z7 : gi_sz H1 (m + 7) = gi_sz H (m + 7) := hs 3 (by decide)
  have z9 : gi_sz H1 (m + 9) = gi_sz H (m + 9) := hs 4 (by decide)
  have c7 : ∀ i c, c ≤ 3 → cel H1 (m + 7) (i * 6 + c) = cel H (m + 7) (i * 6 + c) := fun i c h3 => hc 3 (by decide) i c (by show c < 6; omega) (decide_eq_true h3)
  have e2 : ∀ k, va H1 m k = va H m k := fun k => by unfold va; rw [c7 k 2 (by decide)]
  have e3 : ∀ k, vb H1 m k = vb H m k := fun k => by unfold vb; rw [c7 k 3 (by decide)]
  have el : ∀ k, lsum H1 m k = lsum H m k := fun k => by
    induction k with
    | zero => rfl
    | succ k ih =>
      show lsum H1 m k + (if cel H1 (m + 7) (k * 6 + 1) = 2 then vb H1 m k else 0) = lsum H m k + (if cel H (m + 7) (k * 6 + 1) = 2 then vb H m k else 0)
      rw [ih, e3, c7 k 1 (by decide)]
  refine ⟨fun k hk h2 => ?_, by rw [z7, z9, el]; exact h.2⟩
  rw [z7] at hk
  rw [c7 k 1 (by decide)] at h2
  rw [c7 k 2 (by decide), c7 k 3 (by decide), e2, e3, z9]
  exact h.1 k hk h2
end SoundWell
section SoundWell2
variable {H : mu_H} {d m : Nat}
/-- PathProver$Sound.isWellFormed(LPathProver$Model;)Z -/
abbrev mu_m171 : ev_M := (4, (some .boolean), [], ev_b171)
theorem mu_g171 : mu_good mu_m171 := mu_goodk ev_k171
end SoundWell2
