/-! WHAT COMBINING MEANS: words and sets -/
def sgz (o : Nat) (A : Nat → Prop) (s : Nat) : Prop := if 13 ≤ o ∧ o ≤ 15 then ¬ A s else A s
/-- what reckon makes first of an operator's parts -/
def rk1 (G : Nat → Nat → Prop) (E Fr : Nat → Prop) (nf : Nat) (Fs : Nat → Nat → Prop) (o : Nat) (A B : Nat → Prop) (s : Nat) : Prop :=
  if o = 10 ∨ o = 13 then ∃ t, G s t ∧ sgz o A t ∧ Fr t
  else if o = 11 ∨ o = 15 then EUS G E (fun t => (E t ∧ sgz o A t) ∧ Fr t) s
  else if o = 12 ∨ o = 14 then EGS G nf Fs (fun t => E t ∧ sgz o A t) s
  else if o = 28 then EUS G (fun t => E t ∧ A t) (fun t => (E t ∧ B t) ∧ Fr t) s
  else EUS G (fun t => E t ∧ ¬ B t) (fun t => ((E t ∧ ¬ B t) ∧ ¬ A t) ∧ Fr t) s
section CombMean
variable {G RB Fs : Nat → Nat → Prop} {E Fr A B : Nat → Prop} {nf o s q T R wn : Nat} {rx mb me : Nat → Nat} {x y e1 f1 : Int64} {X V U : Ud} {FS : Nat → Nat → Bool}
theorem sgz_pos (h : 13 ≤ o ∧ o ≤ 15) : sgz o A s ↔ ¬ A s := by unfold sgz; rw [if_pos h]
theorem sgz_neg (h : ¬ (13 ≤ o ∧ o ≤ 15)) : sgz o A s ↔ A s := by unfold sgz; rw [if_neg h]
theorem jnw_bit (hq : q < 64) (ho : 4 ≤ o ∧ o ≤ 9) (hA : btz x q = true ↔ A s) (hB : btz y q = true ↔ B s) : btz (jnw o x y) q = true ↔ ctl G E Fr nf Fs o A B s := by
  unfold ctl jnw
  by_cases h4 : o = 4
  · rw [if_pos h4, if_pos h4, ← hA, ← hB, btz_xm1 hq, btz_xor]
    cases btz x q <;> cases btz y q <;> simp
  rw [if_neg h4, if_neg h4]
  by_cases h5 : o = 5
  · rw [if_pos h5, if_pos h5, ← hA, ← hB, btz_or, btz_xm1 hq]
    cases btz x q <;> cases btz y q <;> simp
  rw [if_neg h5, if_neg h5]
  by_cases h6 : o = 6
  · rw [if_pos h6, if_pos h6, ← hA, ← hB, btz_or]
    cases btz x q <;> cases btz y q <;> simp
  rw [if_neg h6, if_neg h6]
  by_cases h7 : o = 7
  · rw [if_pos h7, if_pos h7, ← hA, ← hB, btz_xor]
    cases btz x q <;> cases btz y q <;> simp
  rw [if_neg h7, if_neg h7]
  by_cases h8 : o = 8
  · rw [if_pos h8, if_pos h8, ← hA, ← hB, btz_and]
    cases btz x q <;> cases btz y q <;> simp
  rw [if_neg h8, if_neg h8]
  have h9 : o = 9 := by omega
  rw [if_pos h9, ← hA, btz_xm1 hq]
  cases btz x q <;> simp
theorem prf_bit (hq : q < 64) (hE : btz e1 q = true ↔ E s) (hA : E s → (btz x q = true ↔ A s)) : btz (prf o x e1) q = true ↔ E s ∧ sgz o A s := by
  unfold prf
  rw [btz_and, Bool.and_eq_true, hE, And.comm]
  refine and_congr_right (fun hs => ?_)
  unfold sgz
  by_cases c : 13 ≤ o ∧ o ≤ 15
  · rw [if_pos c, if_pos c, btz_xm1 hq, ← hA hs]
    cases btz x q <;> simp
  · rw [if_neg c, if_neg c]
    exact hA hs
/-- what the PATH goes through -/
theorem prs_bit (hq : q < 64) (hE : btz e1 q = true ↔ E s) (hA : E s → (btz x q = true ↔ A s)) (hB : E s → (btz y q = true ↔ B s)) : btz (prs o x y e1) q = true ↔ (if o = 28 then E s ∧ A s else if o = 29 then E s ∧ ¬ B s else if o = 12 ∨ o = 14 then E s ∧ sgz o A s else E s) := by
  unfold prs
  by_cases h28 : o = 28
  · rw [if_pos h28, if_pos h28, prf_bit hq hE hA, sgz_neg (by omega)]
  rw [if_neg h28, if_neg h28]
  by_cases h29 : o = 29
  · rw [if_pos h29, if_pos h29, btz_and, btz_xm1 hq, btz_and, Bool.and_eq_true, hE]
    refine and_congr_right (fun hs => ?_)
    rw [← hB hs, hE.mpr hs]
    cases btz y q <;> simp
  rw [if_neg h29, if_neg h29]
  by_cases h12 : o = 12 ∨ o = 14
  · rw [if_pos h12, if_pos h12, prf_bit hq hE hA]
  rw [if_neg h12, if_neg h12, hE]
/-- what it goes to -/
theorem pro_bit (hq : q < 64) (hE : btz e1 q = true ↔ E s) (hA : E s → (btz x q = true ↔ A s)) (hB : E s → (btz y q = true ↔ B s)) : btz (pro o x y e1) q = true ↔ (if o = 28 then E s ∧ B s else if o = 29 then (E s ∧ ¬ B s) ∧ ¬ A s else E s ∧ sgz o A s) := by
  unfold pro
  by_cases h28 : o = 28
  · rw [if_pos h28, if_pos h28, btz_and, Bool.and_eq_true, hE, And.comm]
    exact and_congr_right (fun hs => hB hs)
  rw [if_neg h28, if_neg h28]
  by_cases h29 : o = 29
  · have hp := prf_bit (o := o) hq hE hA
    rw [if_pos h29, if_pos h29, btz_and, btz_and, btz_xm1 hq, btz_xm1 hq, btz_and, Bool.and_eq_true, Bool.and_eq_true, hE]
    constructor
    · rintro ⟨⟨k1, k2⟩, k3⟩
      refine ⟨⟨k1, fun z => ?_⟩, fun z => ?_⟩
      · rw [(hB k1).mpr z, hE.mpr k1] at k2; cases k2
      · rw [hp.mpr ⟨k1, (sgz_neg (by omega)).mpr z⟩] at k3; cases k3
    · rintro ⟨⟨k1, k2⟩, k3⟩
      refine ⟨⟨k1, ?_⟩, ?_⟩
      · cases hy : btz y q
        · rfl
        · exact absurd ((hB k1).mp hy) k2
      · cases hx : btz (prf o x e1) q
        · rfl
        · exact absurd ((sgz_neg (by omega)).mp (hp.mp hx).2) k3
  rw [if_neg h29, if_neg h29, prf_bit hq hE hA]
theorem fnw_bit {v : Int64} {P1 P2 : Prop} (hq : q < 64) (hE : btz e1 q = true) (h1 : btz x q = true ↔ P1) (h2 : o = 29 → (btz v q = true ↔ P2)) : btz (fnw o x v e1) q = true ↔ (if o = 29 then ¬ (P1 ∨ P2) else if 13 ≤ o ∧ o ≤ 15 then ¬ P1 else P1) := by
  unfold fnw
  by_cases h29 : o = 29
  · rw [if_pos h29, if_pos h29, btz_and, btz_xm1 hq, btz_or, hE, ← h1, ← h2 h29]
    cases btz x q <;> cases btz v q <;> simp
  rw [if_neg h29, if_neg h29]
  by_cases h13 : 13 ≤ o ∧ o ≤ 15
  · rw [if_pos h13, if_pos h13, btz_and, btz_xm1 hq, hE, ← h1]
    cases btz x q <;> simp
  · rw [if_neg h13, if_neg h13]
    exact h1
/-- what finish makes of it is what the operator means -/
theorem fin_ctl (ho : tmd o) : (if o = 29 then ¬ (rk1 G E Fr nf Fs o A B s ∨ EGS G nf Fs (fun t => E t ∧ ¬ B t) s) else if 13 ≤ o ∧ o ≤ 15 then ¬ rk1 G E Fr nf Fs o A B s else rk1 G E Fr nf Fs o A B s) ↔ ctl G E Fr nf Fs o A B s := by
  unfold tmd at ho
  have h : o = 10 ∨ o = 11 ∨ o = 12 ∨ o = 13 ∨ o = 14 ∨ o = 15 ∨ o = 28 ∨ o = 29 := by omega
  rcases h with rfl | rfl | rfl | rfl | rfl | rfl | rfl | rfl <;> simp [ctl, rk1, sgz]
end CombMean
