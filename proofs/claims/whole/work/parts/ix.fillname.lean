/-! Arrays.fill of a set by name -/
section FillName
variable {H : mu_H} {U : Ud} {m d a b ga gi gq : Nat} {C : Nat → Nat} {v : Int64}
theorem ar_fillN (h : um m H) (e : ud m H = U) (hn : LSN U ga gi gq 256) (hab : a ≤ b) (hb : b ≤ 256) : mu_TV (mu_D (d + 2)) 99 [.inr (.inr (some gq)), .inl (nI a), .inl (nI b), .inr (.inl v)] H (fun H1 => um m H1 ∧ ur m C H H1 ∧ uq FLS U (ud m H1) ∧ GKP ga gi U (ud m H1) ∧ LSN (ud m H1) ga gi gq 256 ∧ ∀ j, lgf (ud m H1) ga gi j = if a ≤ j ∧ j < b then v else lgf U ga gi j) := by
  obtain ⟨k1, k2, -⟩ := LSN.read h e hn
  refine (ar_fillL_ok (d := d) (a := a) (b := b) (o := some gq) (v := v) (H := H) k1 hab (by show b ≤ mu_n H gq; rw [k2]; exact hb) (by show mu_n H gq < 2 ^ 31; rw [k2]; decide)).imp (fun H1 y => ?_)
  obtain ⟨z1, z2, z3, z4, z5, z6⟩ := LSN.fill (C := C) (b := a) (n := b - a) (g := fun _ => v) h e hn
  rw [y]
  refine ⟨z1, z2, z3, z4, z5, fun j => (z6 j).trans ?_⟩
  by_cases c : a ≤ j ∧ j < b
  · rw [if_pos c, if_pos ⟨c.1, by omega⟩]
  · rw [if_neg c, if_neg (fun y => c ⟨y.1, by omega⟩)]
end FillName
