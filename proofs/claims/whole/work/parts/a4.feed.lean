/-! FEED -/
def wb (x : Int32) : Nat → Int32
  | 0 => vp_nar .byte ((x >>> (24 &&& 31)).toInt8.toInt32)
  | 1 => vp_nar .byte ((x >>> (16 &&& 31)).toInt8.toInt32)
  | 2 => vp_nar .byte ((x >>> (8 &&& 31)).toInt8.toInt32)
  | _ => vp_nar .byte ((x >>> (0 &&& 31)).toInt8.toInt32)
def fed (a b c e f : Int32) (i : Nat) : Int32 := wb (if i < 4 then a else if i < 8 then b else if i < 12 then c else if i < 16 then e else f) (i % 4)
/-- the tape at t, of N bytes, k of them written -/
def fds (G : mu_H) (t k N : Nat) : Prop := gi G ∧ mu_r G 0 0 = some t ∧ mu_n G t = N ∧ mu_i G 0 1 = nI k
def fS (p : Nat) : Bool := Nat.beq p 0
section Feed
variable {H H1 G : mu_H} {t k N l d : Nat}
theorem fit_b (b : Int8) : fits .byte (.int b.toInt32) = true := by
  have h1 := Int8.le_toInt b
  have h2 := Int8.toInt_lt b
  have e : b.toInt32.toInt = b.toInt := Int8.toInt_toInt32 b
  have e1 : (-128 : Int32).toInt = -128 := by decide
  have e2 : (127 : Int32).toInt = 127 := by decide
  show (decide ((-128 : Int32) ≤ b.toInt32) && decide (b.toInt32 ≤ (127 : Int32))) = true
  rw [Bool.and_eq_true]
  exact ⟨decide_eq_true (Int32.le_iff_toInt_le.mpr (by rw [e, e1]; omega)), decide_eq_true (Int32.le_iff_toInt_le.mpr (by rw [e, e2]; omega))⟩
theorem tw1_ok {x s : Int32} (h : gi G) (ht : mu_r G 0 0 = some t) : gi (tw1 G t k x s) ∧ tk fS G (tw1 G t k x s) := by
  have e0 : mu_p (mu_r G 0 0) = t := by rw [ht]; rfl
  have hx := h.2.2.2.2.2.2.2
  have h101 : mu_is G (some t) 101 := by rw [← ht]; exact hx.1.1
  have ho : mu_onl G (mu_si G t k (vp_nar .byte ((x >>> (s &&& 31)).toInt8.toInt32))) t := ⟨rfl, rfl, fun p j hp => by rw [mu_i_si, if_neg (fun z => hp z.1)], rfl⟩
  have g1 : gi (mu_si G t k (vp_nar .byte ((x >>> (s &&& 31)).toInt8.toInt32))) := h.onl ho (Or.inr ⟨h101.2.2, fun i hi => by
    rw [mu_i_si]
    split
    · exact fit_b _
    · exact hx.2.2 t i h101.2.1 h101.2.2 hi⟩)
  have k1 : tk fS G (mu_si G t k (vp_nar .byte ((x >>> (s &&& 31)).toInt8.toInt32))) := tk.onl (p := 0) (j := 0) h (by rw [e0]; exact ho) rfl (Or.inr ⟨rfl, rfl⟩)
  exact ⟨g1.si (k := 0) rfl rfl, k1.trans (tk.of (gk.si g1 (k := 0) rfl rfl) rfl)⟩
theorem tw4_ok {x : Int32} (h : fds G t k N) (hk : k + 4 ≤ N) (hN : N ≤ 16777216) : fds (tw4 G t k x) t (k + 4) N ∧ tk fS G (tw4 G t k x) ∧ (∀ p j, mu_r (tw4 G t k x) p j = mu_r G p j) ∧ (∀ j, j ≠ 1 → mu_i (tw4 G t k x) 0 j = mu_i G 0 j) ∧ (∀ i, i < k → mu_i (tw4 G t k x) t i = mu_i G t i) ∧ ∀ i, i < 4 → mu_i (tw4 G t k x) t (k + i) = wb x i := by
  obtain ⟨h1, h2, h3, h4⟩ := h
  have h101 : mu_is G (some t) 101 := by rw [← h2]; exact h1.2.2.2.2.2.2.2.1.1
  have ht0 : t ≠ 0 := fun z => by
    have a := h101.2.2
    have b := (h1.is (p := 0) (k := 0) rfl).2.2
    rw [show mu_p (some t) = 0 from z] at a
    rw [show mu_p (some 0) = 0 from rfl] at b
    omega
  obtain ⟨a1, b1⟩ := tw1_ok (k := k) (x := x) (s := 24) h1 h2
  obtain ⟨a2, b2⟩ := tw1_ok (k := k + 1) (x := x) (s := 16) a1 h2
  obtain ⟨a3, b3⟩ := tw1_ok (k := k + 2) (x := x) (s := 8) a2 h2
  obtain ⟨a4, b4⟩ := tw1_ok (k := k + 3) (x := x) (s := 0) a3 h2
  have one : ∀ {G : mu_H} {q : Nat} {x s : Int32} (i : Nat), mu_i (tw1 G t q x s) t i = if i = q then vp_nar .byte ((x >>> (s &&& 31)).toInt8.toInt32) else mu_i G t i := fun {G q x s} i => by
    unfold tw1
    rw [mu_i_si, if_neg (fun z => ht0 z.1), mu_i_si]
    by_cases e : i = q
    · rw [if_pos ⟨rfl, e⟩, if_pos e]
    · rw [if_neg (fun z => e z.2), if_neg e]
  have own : ∀ {G : mu_H} {q : Nat} {x s : Int32} (j : Nat), j ≠ 1 → mu_i (tw1 G t q x s) 0 j = mu_i G 0 j := fun {G q x s} j hj => by
    unfold tw1
    rw [mu_i_si, if_neg (fun z => hj z.2), mu_i_si, if_neg (fun z => ht0 z.1.symm)]
  refine ⟨⟨a4, h2, h3, rfl⟩, ((b1.trans b2).trans b3).trans b4, fun _ _ => rfl, fun j hj => ?_, fun i hi => ?_, fun i hi => ?_⟩
  · unfold tw4
    rw [own j hj, own j hj, own j hj, own j hj]
  · unfold tw4
    rw [one, if_neg (by omega), one, if_neg (by omega), one, if_neg (by omega), one, if_neg (by omega)]
  · unfold tw4
    rw [one, one, one, one]
    have : i = 0 ∨ i = 1 ∨ i = 2 ∨ i = 3 := by omega
    rcases this with e | e | e | e <;> subst e
    · rw [if_neg (by omega), if_neg (by omega), if_neg (by omega), if_pos (by omega)]; rfl
    · rw [if_neg (by omega), if_neg (by omega), if_pos rfl]; rfl
    · rw [if_neg (by omega), if_pos rfl]; rfl
    · rw [if_pos rfl]; rfl
/-- what feed leaves -/
def fdd (l t : Nat) (a b c e f : Int32) (H H1 : mu_H) : Prop := gi H1 ∧ tk fS H H1 ∧ ∃ t1 k1, mu_r H1 0 0 = some t1 ∧ (8 ≤ k1 ∧ k1 ≤ 16 ∧ mu_n H1 t1 = 2 ^ k1) ∧ l + 20 ≤ mu_n H1 t1 ∧ mu_i H1 0 1 = nI (l + 20) ∧ (∀ j, j ≠ 1 → mu_i H1 0 j = mu_i H 0 j) ∧ (∀ j, j ≠ 0 → mu_r H1 0 j = mu_r H 0 j) ∧ (∀ i, i < l → mu_i H1 t1 i = mu_i H t i) ∧ ∀ i, i < 20 → mu_i H1 t1 (l + i) = fed a b c e f i
end Feed
