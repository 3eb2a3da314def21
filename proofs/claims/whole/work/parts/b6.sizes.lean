/-! THE SIZES OF THE VARIABLES: sums and products -/
def pd (f : Nat → Nat) (a : Nat) : Nat → Nat
  | 0 => 1
  | n + 1 => pd f a n * f (a + n)
section Sizes
variable {f g : Nat → Nat} {a n P b : Nat}
theorem pd_pos (h : ∀ k, a ≤ k → k < a + n → 1 ≤ f k) : 1 ≤ pd f a n := by
  induction n with
  | zero => exact Nat.le_refl _
  | succ n ih =>
    have h1 := ih (fun k h1 h2 => h k h1 (by omega))
    have h2 := h (a + n) (by omega) (by omega)
    show 1 ≤ pd f a n * f (a + n)
    exact Nat.mul_le_mul h1 h2
theorem pd_congr (h : ∀ k, a ≤ k → k < a + n → g k = f k) : pd g a n = pd f a n := by
  induction n with
  | zero => rfl
  | succ n ih =>
    show pd g a n * g (a + n) = pd f a n * f (a + n)
    rw [ih (fun k h1 h2 => h k h1 (by omega)), h (a + n) (by omega) (by omega)]
theorem pd_head : ∀ n, pd f a (n + 1) = f a * pd f (a + 1) n
  | 0 => by
    show 1 * f (a + 0) = f a * 1
    rw [Nat.one_mul, Nat.mul_one]
    rfl
  | n + 1 => by
    show pd f a (n + 1) * f (a + (n + 1)) = f a * (pd f (a + 1) n * f (a + 1 + n))
    rw [pd_head n, Nat.mul_assoc, show a + 1 + n = a + (n + 1) by omega]
/-- what the first P sizes come to -/
def szs (f : Nat → Nat) (P b : Nat) : Prop := (∀ k, k < P → 2 ≤ f k) ∧ pd f 0 P ≤ 2 ^ b ∧ P ≤ b ∧ ((P = 0 ∧ sm f 0 P = 0) ∨ (2 ≤ pd f 0 P ∧ sm f 0 P ≤ pd f 0 P))
theorem szs.zero : szs f 0 0 := ⟨fun _ h => absurd h (Nat.not_lt_zero _), Nat.le_refl 1, Nat.le_refl _, Or.inl ⟨rfl, rfl⟩⟩
theorem szs.more (h : szs f P b) {b' : Nat} (hb : b ≤ b') : szs f P b' := ⟨h.1, Nat.le_trans h.2.1 (Nat.pow_le_pow_right (by decide) hb), Nat.le_trans h.2.2.1 hb, h.2.2.2⟩
theorem szs.put (h : szs f P b) {n c : Nat} (hn : 2 ≤ n) (hc : n ≤ 2 ^ c) (hc1 : 1 ≤ c) (hf : f P = n) : szs f (P + 1) (b + c) := by
  obtain ⟨h1, h2, h3, h4⟩ := h
  have e1 : pd f 0 (P + 1) = pd f 0 P * n := by
    show pd f 0 P * f (0 + P) = _
    rw [Nat.zero_add, hf]
  have e2 : sm f 0 (P + 1) = sm f 0 P + n := by
    show sm f 0 P + f (0 + P) = _
    rw [Nat.zero_add, hf]
  have hp : 1 ≤ pd f 0 P := pd_pos (fun k _ hk => by have := h1 k (by omega); omega)
  refine ⟨fun k hk => ?_, ?_, by omega, Or.inr ⟨?_, ?_⟩⟩
  · by_cases e : k = P
    · rw [e, hf]; exact hn
    · exact h1 k (by omega)
  · rw [e1, Nat.pow_add]
    exact Nat.mul_le_mul h2 hc
  · rw [e1]
    exact Nat.le_trans hn (Nat.le_mul_of_pos_left n hp)
  · rw [e1, e2]
    rcases h4 with ⟨z, z2⟩ | ⟨z, z2⟩
    · rw [z2, Nat.zero_add]
      exact Nat.le_mul_of_pos_left n hp
    · obtain ⟨p, hp2⟩ : ∃ p, pd f 0 P = p + 2 := ⟨pd f 0 P - 2, by omega⟩
      rw [hp2] at z2 ⊢
      obtain ⟨q, hq⟩ : ∃ q, n = q + 2 := ⟨n - 2, by omega⟩
      rw [hq, Nat.add_mul, Nat.mul_add]
      have : 0 ≤ p * q := Nat.zero_le _
      omega
theorem szs.sum (h : szs f P b) (hb : b ≤ 14) : sm f 0 P ≤ 16384 ∧ pd f 0 P ≤ 16384 ∧ P ≤ 14 := by
  have h2 : pd f 0 P ≤ 2 ^ 14 := Nat.le_trans h.2.1 (Nat.pow_le_pow_right (by decide) hb)
  have e : (2 : Nat) ^ 14 = 16384 := by decide
  refine ⟨?_, by omega, Nat.le_trans h.2.2.1 hb⟩
  rcases h.2.2.2 with ⟨z, z2⟩ | ⟨z, z2⟩ <;> omega
theorem sm_le_add {f : Nat → Nat} {a : Nat} : ∀ n k, sm f a n ≤ sm f a (n + k)
  | n, 0 => Nat.le_refl _
  | n, k + 1 => Nat.le_trans (sm_le_add n k) (Nat.le_add_right _ _)
/-- a VARIABLE's size and its BITS -/
theorem bz_size {W : Ts} {v N : Nat} (h : sm (bz W) 0 N ≤ 14) (hv : v < N) : ∃ n, 1 ≤ n ∧ (W 15).2 v 1 = nI n ∧ n ≤ 2 ^ bz W v ∧ n ≤ 16384 ∧ (2 ≤ n → 1 ≤ bz W v) := by
  have h1 : sm (bz W) 0 (v + 1) ≤ sm (bz W) 0 N := by
    have := sm_le_add (f := bz W) (a := 0) (v + 1) (N - (v + 1))
    rwa [show v + 1 + (N - (v + 1)) = N by omega] at this
  have h2 : bz W v ≤ sm (bz W) 0 (v + 1) := by
    show bz W v ≤ sm (bz W) 0 v + bz W (0 + v)
    rw [Nat.zero_add]
    omega
  obtain ⟨-, h4, h5⟩ := bl_ok ((W 15).2 v 1)
  have e : bl ((W 15).2 v 1) = bz W v := rfl
  rw [e] at h4 h5
  obtain ⟨n, n1, n2, n3, n4, n5⟩ := h5 (by omega)
  have h6 : 2 ^ bz W v ≤ 2 ^ 14 := Nat.pow_le_pow_right (by decide) (by omega)
  have e14 : (2 : Nat) ^ 14 = 16384 := by decide
  refine ⟨n, n1, n2, n3, by omega, fun z => ?_⟩
  rcases Nat.eq_zero_or_pos (bz W v) with y | y
  · rw [y] at n3
    have : (2 : Nat) ^ 0 = 1 := rfl
    omega
  · exact y
end Sizes
