/-! SOUND: what its methods keep -/
section SoundState
variable {H H1 H2 : mu_H} {m : Nat}
def sq_S (m p : Nat) : Bool := decide (p = 92 ∨ p = 93 ∨ (m < p ∧ p ≤ m + 37))
/-- columns that are written in the parser alone -/
def kc (j c : Nat) : Bool := match j with
  | 1 => decide (c ≤ 6)
  | 3 => decide (c ≤ 3)
  | 7 => decide (c ≠ 1)
  | 9 => decide (c < 2)
  | 10 => false
  | _ => true
def cp (m : Nat) (H H1 : mu_H) : Prop := ∀ j, j < 19 → ∀ i c, c < ps_W j → kc j c = true → cel H1 (m + 1 + 2 * j) (i * ps_W j + c) = cel H (m + 1 + 2 * j) (i * ps_W j + c)
/-- Sound looks at the Model at m -/
def sd (m : Nat) (H : mu_H) : Prop := gi H ∧ (m = 2 ∨ m = 41) ∧ mu_r H 92 2 = some m
/-- what a step of Sound leaves -/
def sq (m : Nat) (H H1 : mu_H) : Prop := gk (sq_S m) H H1 ∧ (∀ j, mu_r H1 92 j = mu_r H 92 j) ∧ (∀ j, j < 19 → gi_sz H1 (m + 1 + 2 * j) = gi_sz H (m + 1 + 2 * j) ∧ gi_cap H1 (m + 1 + 2 * j) = gi_cap H (m + 1 + 2 * j)) ∧ cp m H H1 ∧ (gi_sz H 93 ≤ gi_sz H1 93 ∧ gi_cap H1 93 ≤ max (gi_cap H 93) (10 * gi_sz H1 93 + 5))
theorem sq.refl (m : Nat) (H : mu_H) : sq m H H := ⟨gk.refl _ H, fun _ => rfl, fun _ _ => ⟨rfl, rfl⟩, fun _ _ _ _ _ _ => rfl, Nat.le_refl _, Nat.le_max_left _ _⟩
theorem sq.trans (h : sq m H H1) (h' : sq m H1 H2) : sq m H H2 := by
  obtain ⟨a, b, c, e, f⟩ := h
  obtain ⟨a', b', c', e', f'⟩ := h'
  exact ⟨a.trans a', fun j => (b' j).trans (b j), fun j hj => ⟨((c' j hj).1).trans (c j hj).1, ((c' j hj).2).trans (c j hj).2⟩, fun j hj i k hk hq => (e' j hj i k hk hq).trans (e j hj i k hk hq), by omega, by omega⟩
theorem sd.set (h : sd m H) {j c r : Nat} {row v : Int32} (hj : j < 19) (hr : r = m + 1 + 2 * j) (hcW : c < ps_W j) (hc : kc j c = false) : sd m (rw_set H r (ps_W j) (gi_sz H r) row c v) ∧ sq m H (rw_set H r (ps_W j) (gi_sz H r) row c v) ∧ gi_sz (rw_set H r (ps_W j) (gi_sz H r) row c v) 93 = gi_sz H 93 := by
  obtain ⟨hg, hm, h2⟩ := h
  have hw : gi_w r = some (ps_W j) := by rw [hr]; exact ps_wm hm hj
  obtain ⟨g1, g2⟩ := hg.set (j := c) (row := row) (v := v) hw
  have hk : gk (sq_S m) H (rw_set H r (ps_W j) (gi_sz H r) row c v) := gk.set hg hw (decide_eq_true (by omega))
  have hz : ∀ r' W', gi_w r' = some W' → gi_sz (rw_set H r (ps_W j) (gi_sz H r) row c v) r' = gi_sz H r' := fun r' W' hw' => congrArg Int32.toNatClampNeg (g2 r' 2 (by have : mu_k H r' = 10 := (hg.w hw').1.2.2; omega))
  have hcap : ∀ r', gi_cap (rw_set H r (ps_W j) (gi_sz H r) row c v) r' = gi_cap H r' := fun r' => by
    unfold gi_cap mu_n
    rw [rw_set_r, (rw_set_eq H r (ps_W j) (gi_sz H r) row c v).2.1]
  refine ⟨⟨g1, hm, by rw [rw_set_r]; exact h2⟩, ⟨hk, fun i => rw_set_r _ _ _ _ _ _ _ _ _, fun i hi => ⟨hz _ _ (ps_wm hm hi), hcap _⟩, fun j' hj' i c' hc' hq => ?_, Nat.le_of_eq (hz 93 5 rfl).symm, by rw [hcap]; exact Nat.le_max_left _ _⟩, hz 93 5 rfl⟩
  have e1 : cel (rw_set H r (ps_W j) (gi_sz H r) row c v) (m + 1 + 2 * j') (i * ps_W j' + c') = mu_i (rw_set H r (ps_W j) (gi_sz H r) row c v) (mu_p (mu_r H (m + 1 + 2 * j') 1)) (i * ps_W j' + c') := by unfold cel; rw [rw_set_r]
  rw [e1]
  by_cases ej : j' = j
  · subst ej
    unfold rw_set
    split
    · rfl
    · split
      · rename_i hx
        rw [mu_i_si, if_neg (fun z => ?_)]
        · rfl
        · have e2 := z.2
          have e3 : (i * ps_W j' + c') % ps_W j' = c' := by rw [Nat.mul_comm, Nat.mul_add_mod]; exact Nat.mod_eq_of_lt hc'
          have e4 : (row.toNatClampNeg * ps_W j' + c) % ps_W j' = c := by rw [Nat.mul_comm, Nat.mul_add_mod]; exact Nat.mod_eq_of_lt hcW
          rw [e2, e4] at e3
          rw [← e3, hc] at hq
          cases hq
      · rfl
  · have hne : mu_p (mu_r H (m + 1 + 2 * j') 1) ≠ mu_p (mu_r H r 1) := (hg.cell hw).2.1 (m + 1 + 2 * j') 1 (gi_w_ok (ps_wm hm hj')).2.2.2.2 (by omega)
    exact (rw_set_same hne).i _
end SoundState
section SoundMethods
variable {H : mu_H} {d m : Nat}
/-- PathProver$Sound.instanceFits(I)Z -/
abbrev mu_m185 : ev_M := (4, (some .boolean), [], ev_b185)
theorem mu_g185 : mu_good mu_m185 := mu_goodk ev_k185
/-- PathProver$Sound.linesFit(I)Z -/
abbrev mu_m181 : ev_M := (7, (some .boolean), [], ev_b181)
theorem mu_g181 : mu_good mu_m181 := mu_goodk ev_k181
/-- PathProver$Sound.reckon(I)Z -/
abbrev mu_m183 : ev_M := (6, (some .boolean), [], ev_b183)
theorem mu_g183 : mu_good mu_m183 := mu_goodk ev_k183
/-- PathProver$Sound.endsSomewhere()Z -/
abbrev mu_m182 : ev_M := (4, (some .boolean), [], ev_b182)
theorem mu_g182 : mu_good mu_m182 := mu_goodk ev_k182
/-- PathProver$Sound.isKnown(II)Z -/
abbrev mu_m173 : ev_M := (9, (some .boolean), [], ev_b173)
theorem mu_g173 : mu_good mu_m173 := mu_goodk ev_k173
/-- PathProver$Sound.areNamesKnown()Z -/
abbrev mu_m172 : ev_M := (3, (some .boolean), [], ev_b172)
theorem mu_g172 : mu_good mu_m172 := mu_goodk ev_k172
end SoundMethods
