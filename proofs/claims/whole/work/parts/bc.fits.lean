/-! Space.begin: fitted arrays -/
section FitS
variable {H H1 H2 : mu_H} {m d P v : Nat} {C : Nat → Nat} {U V : Ud} {f : Nat → Nat}
theorem um.fitS {J n : Nat} {Q Hf : mu_H} {x : Option Nat} (h : um m Q) (hV : ud m Q = V) (ho : gi_o 99 J = true) (hr : gi_r 99 J = none) (q : (1 * (n + 4) ≤ mu_n Q (mu_p (mu_r Q 99 J)) ∧ x = mu_r Q 99 J ∧ Hf = Q) ∨ ∃ N, 2 * mu_n Q (mu_p (mu_r Q 99 J)) ≤ N ∧ 1 * (n + 4) ≤ N ∧ N ≤ 114716 ∧ lwh 1 N ∧ x = some (mu_z Q) ∧ Hf = mu_nw Q 100 N N) (hl : lwh 1 (V.2.2.1 99 J).1) : um m (mu_sr Hf 99 J x) ∧ ur m C Q (mu_sr Hf 99 J x) ∧ ∃ L g z, ud m (mu_sr Hf 99 J x) = (V.1, V.2.1, f2 V.2.2.1 99 J (L, g), f2 V.2.2.2.1 99 J z, V.2.2.2.2) ∧ n + 4 ≤ L ∧ lwh 1 L := by
  have el : mu_n Q (mu_p (mu_r Q 99 J)) = (V.2.2.1 99 J).1 := ud_n (m := m) (P := 99) (J := J) hV rfl ho
  rcases q with ⟨q1, q2, q3⟩ | ⟨N, q1, q2, q3, q4, q5, q6⟩
  · rw [q2, q3, mu_sr_id]
    refine ⟨h, ur.refl m C Q, (V.2.2.1 99 J).1, (V.2.2.1 99 J).2, V.2.2.2.1 99 J, ?_, by omega, hl⟩
    have e : f2 V.2.2.1 99 J ((V.2.2.1 99 J).1, (V.2.2.1 99 J).2) = V.2.2.1 := f2_id
    rw [e, f2_id]
    exact hV
  · rw [q5, q6]
    obtain ⟨a, b, c⟩ := h.newA (C := C) (P := 99) (J := J) (N := N) rfl ho hr q1 (by omega)
    exact ⟨a, b, N, fun _ => 0, some (mu_z Q), by rw [c, hV]; rfl, by omega, q4⟩
theorem fit_is {Q Hf : mu_H} {x : Option Nat} {o : Option Nat} {P1 : Prop} {A : Nat → Prop} (h : mu_is Q (some 99) 13) (q : (P1 ∧ x = o ∧ Hf = Q) ∨ ∃ N, 2 * mu_n Q (mu_p o) ≤ N ∧ A N ∧ N ≤ 114716 ∧ lwh 1 N ∧ x = some (mu_z Q) ∧ Hf = mu_nw Q 100 N N) : mu_is Hf (some 99) 13 := by
  rcases q with ⟨-, -, e⟩ | ⟨N, -, -, -, -, -, e⟩
  · rw [e]; exact h
  · rw [e]; exact mu_is_nw (k := 100) (len := N) (sl := N) h
end FitS
