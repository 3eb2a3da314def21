/-! The reference: no MODULE in itself, without the machine; rows of booleans -/
section Rules8
variable {run : Nat → List ev_V → List ev_C → Option ev_R} {M : ev_M}
theorem mw_ald8 {pc : Nat} {ops : List Nat} {L : mu_L} {S : List mu_V} {i : Int32} {o : Option Nat} {H : mu_H} {Φ : mu_R → Prop} (hf : ev_find M.2.2.2 pc = some (.baload, ops)) (ho : mu_is H o 108) (hi : vp_in i (mu_n H (mu_p o))) (h : mu_W run M (pc + 1, L, .inl (mu_i H (mu_p o) i.toNatClampNeg) :: S, H) Φ) : mu_W run M (pc, L, .inl i :: .inr (.inr o) :: S, H) Φ := fun L0 hs => mu_ald8 hf ho hi (h L0 hs)
theorem mw_ast8 {pc : Nat} {ops : List Nat} {L : mu_L} {S : List mu_V} {v i : Int32} {o : Option Nat} {H : mu_H} {Φ : mu_R → Prop} (hf : ev_find M.2.2.2 pc = some (.bastore, ops)) (ho : mu_is H o 108) (hi : vp_in i (mu_n H (mu_p o))) (hv : v = 0 ∨ v = 1) (h : mu_W run M (pc + 1, L, S, mu_si H (mu_p o) i.toNatClampNeg v) Φ) : mu_W run M (pc, L, .inl v :: .inl i :: .inr (.inr o) :: S, H) Φ := fun L0 hs => mu_ast8 hf ho hi hv (h L0 hs)
theorem mw_newz {pc pl : Nat} {ty : ArrayType} {L : mu_L} {S : List mu_V} {x : Int32} {H : mu_H} {Φ : mu_R → Prop} (hf : ev_find M.2.2.2 pc = some (.newarray ty, [pl, 8])) (hx : ¬ x < 0) (hz : mu_z H + 1 ≤ 1000000) (hb : x.toNatClampNeg ≤ 536870912) (h : mu_W run M (pc + 2, L, .inr (.inr (some (mu_z H))) :: S, mu_nw H 108 x.toNatClampNeg x.toNatClampNeg) Φ) : mu_W run M (pc, L, .inl x :: S, H) Φ := fun L0 hs => mu_newz hf hx hz hb (h L0 hs)
end Rules8
def bI (b : Bool) : Int32 := if b = true then 1 else 0
theorem bI_0 {b : Bool} (h : bI b = 0) : b = false := by cases b with
  | false => rfl
  | true => exact absurd h (by decide)
theorem bI_1 {b : Bool} (h : ¬ bI b = 0) : b = true := by cases b with
  | false => exact absurd rfl h
  | true => rfl
def updb (g : Nat → Bool) (k : Nat) : Nat → Bool := fun i => if i = k then true else g i
/-- is a MODULE of that name not gone -/
def ikb (ms : List Mdl) (g : Nat → Bool) (nm : List Int32) : Nat → Nat → Bool → Bool
  | 0, _, f => f
  | m + 1, k, f => ikb ms g nm m (k + 1) (if g k = false ∧ (mth ms k).1 = nm then false else f)
def jkb (ms : List Mdl) (g : Nat → Bool) (cs : List Tre) : Nat → Nat → Bool → Bool
  | 0, _, f => f
  | m + 1, k, f => jkb ms g cs m (k + 1) (if tkd (nth cs k) = 73 ∧ tkd (tkk (nth cs k) 0) = 72 then ikb ms g (nam (tkk (nth cs k) 0)) ms.length 0 f else f)
/-- all that the MODULE k makes is gone -/
def frk (ms : List Mdl) (g : Nat → Bool) (k : Nat) : Bool := jkb ms g (mth ms k).2.2 (mth ms k).2.2.length 0 true
def cyp (ms : List Mdl) : Nat → Nat → (Nat → Bool) → Bool → (Nat → Bool) × Bool
  | 0, _, g, b => (g, b)
  | m + 1, k, g, b => if g k = false ∧ frk ms g k = true then cyp ms m (k + 1) (updb g k) true else cyp ms m (k + 1) g b
def cyl (ms : List Mdl) : Nat → (Nat → Bool) → Option (Nat → Bool)
  | 0, _ => none
  | f + 1, g => if (cyp ms ms.length 0 g false).2 = true then cyl ms f (cyp ms ms.length 0 g false).1 else some (cyp ms ms.length 0 g false).1
/-- no MODULE in itself -/
def ncz (ms : List Mdl) : Prop := ∃ g, cyl ms (ms.length + 2) (fun _ => false) = some g ∧ ∀ k, k < ms.length → g k = true
def cnf (g : Nat → Bool) : Nat → Nat
  | 0 => 0
  | n + 1 => cnf g n + (if g n = true then 0 else 1)
theorem cnf_le {g : Nat → Bool} : ∀ n, cnf g n ≤ n
  | 0 => Nat.le_refl _
  | n + 1 => by
    have := cnf_le (g := g) n
    rw [cnf]
    split <;> omega
theorem cnf_out {g : Nat → Bool} {k : Nat} : ∀ n, n ≤ k → cnf (updb g k) n = cnf g n
  | 0, _ => rfl
  | n + 1, h => by
    rw [cnf, cnf, cnf_out n (by omega)]
    have e : updb g k n = g n := if_neg (by omega)
    rw [e]
theorem cnf_upd {g : Nat → Bool} {k : Nat} (hg : g k = false) : ∀ n, k < n → cnf (updb g k) n + 1 = cnf g n
  | 0, h => absurd h (Nat.not_lt_zero _)
  | n + 1, h => by
    rw [cnf, cnf]
    by_cases e : n = k
    · subst e
      rw [cnf_out n (Nat.le_refl _), if_pos (show updb g n n = true from if_pos rfl), if_neg (by rw [hg]; decide)]
    · have e2 : updb g k n = g n := if_neg e
      rw [e2, ← cnf_upd hg n (by omega)]
      omega
theorem cyp_cnf {ms : List Mdl} {N : Nat} : ∀ m k g b, k + m = N → cnf (cyp ms m k g b).1 N ≤ cnf g N ∧ (b = false → (cyp ms m k g b).2 = true → cnf (cyp ms m k g b).1 N < cnf g N)
  | 0, k, g, b, _ => ⟨Nat.le_refl _, fun h1 h2 => by rw [show (cyp ms 0 k g b).2 = b from rfl, h1] at h2; cases h2⟩
  | m + 1, k, g, b, h => by
    rw [cyp]
    by_cases e : g k = false ∧ frk ms g k = true
    · rw [if_pos e]
      have h1 : cnf (cyp ms m (k + 1) (updb g k) true).1 N ≤ cnf (updb g k) N := (cyp_cnf m (k + 1) (updb g k) true (by omega)).1
      have h2 := cnf_upd e.1 N (by omega)
      exact ⟨by omega, fun _ _ => by omega⟩
    · rw [if_neg e]
      exact cyp_cnf m (k + 1) g b (by omega)
/-- enough passes -/
theorem cyl_some {ms : List Mdl} : ∀ f g, cnf g ms.length + 1 < f → ∃ g', cyl ms f g = some g'
  | 0, _, h => absurd h (Nat.not_lt_zero _)
  | f + 1, g, h => by
    rw [cyl]
    by_cases e : (cyp ms ms.length 0 g false).2 = true
    · rw [if_pos e]
      have h1 := (cyp_cnf (ms := ms) (N := ms.length) ms.length 0 g false (Nat.zero_add _)).2 rfl e
      exact cyl_some f _ (by omega)
    · rw [if_neg e]
      exact ⟨_, rfl⟩
theorem cyl_ms (ms : List Mdl) : ∃ g, cyl ms (ms.length + 2) (fun _ => false) = some g := by
  have := cnf_le (g := fun _ => false) ms.length
  exact cyl_some _ _ (by omega)
/-- the row of what is gone -/
def gon (H : mu_H) (z : Nat) (n : Nat) (g : Nat → Bool) : Prop := mu_is H (some z) 108 ∧ mu_n H z = n ∧ ∀ i, i < n → mu_i H z i = bI (g i)
theorem gon.set {H : mu_H} {z n k : Nat} {g : Nat → Bool} (h : gon H z n g) : gon (mu_si H z k 1) z n (updb g k) := by
  obtain ⟨h1, h2, h3⟩ := h
  refine ⟨h1, h2, fun i hi => ?_⟩
  rw [mu_i_si]
  by_cases e : i = k
  · subst e
    rw [if_pos ⟨rfl, rfl⟩, show updb g i i = true from if_pos rfl]
    rfl
  · rw [if_neg (fun z => e z.2), show updb g k i = g i from if_neg e]
    exact h3 i hi
