/-! THE PARSER'S STATE: what its methods keep, what they may use up -/
/-- a number in a Rows -/
def cel (H : mu_H) (r i : Nat) : Int32 := mu_i H (mu_p (mu_r H r 1)) i
def ps_S (m p : Nat) : Bool := decide (p = 80 ∨ p = 81 ∨ p = 86 ∨ p = 89 ∨ (m < p ∧ p ≤ m + 22))
/-- the Parser works at the Model at m: its stack has operators and contexts alone, its TOKENS end with an end -/
def ps (m : Nat) (H : mu_H) : Prop :=
  gi H ∧ (m = 2 ∨ m = 41) ∧ mu_r H 80 2 = some m ∧
  (∀ i, i < gi_sz H 89 → ∃ k, k < 54 ∧ cel H 89 (i * 2) = nI k) ∧
  (1 ≤ gi_sz H 82 ∧ ¬ cel H 82 ((gi_sz H 82 - 1) * 3) < 114) ∧
  (∃ a, mu_i H 80 3 = nI a ∧ a < gi_sz H 82 ∧ (mu_i H 80 4 < 114 → a + 1 < gi_sz H 82))
def ps_mp (x : Int32) : Nat := if x = 7 then 4 else if x = 8 then 2 else 0
theorem ps_mp_le (x : Int32) : ps_mp x ≤ 4 := by
  unfold ps_mp
  split
  · omega
  · split <;> omega
/-- what is used and what may still be used: rows by their widths, TOKENS that are left -/
def ps_pot (m : Nat) (H : mu_H) : Nat := 2 * gi_sz H (m + 1) + 11 * gi_sz H (m + 3) + 1 * gi_sz H (m + 5) + 6 * gi_sz H (m + 7) + 2 * gi_sz H (m + 9) + 2 * gi_sz H (m + 11) + 3 * gi_sz H (m + 13) + 4 * gi_sz H (m + 15) + 3 * gi_sz H (m + 17) + 4 * gi_sz H (m + 19) + 1 * gi_sz H (m + 21) + 4 * gi_sz H 89 + ps_mp (mu_i H 80 6) + 12 * (gi_sz H 82 - 1 - (mu_i H 80 3).toNatClampNeg)
def ps_W (j : Nat) : Nat := [2, 11, 1, 6, 2, 2, 3, 4, 3, 4, 1, 4, 1, 6, 1, 4, 4, 3, 2].getD j 0
/-- what one step of the Parser leaves -/
def pt (m B : Nat) (H H1 : mu_H) : Prop :=
  gk (ps_S m) H H1 ∧ (∀ j, mu_r H1 81 j = mu_r H 81 j) ∧
  (∀ j, j < 19 → gi_sz H (m + 1 + 2 * j) ≤ gi_sz H1 (m + 1 + 2 * j) ∧ gi_cap H1 (m + 1 + 2 * j) ≤ max (gi_cap H (m + 1 + 2 * j)) (2 * (gi_sz H1 (m + 1 + 2 * j) * ps_W j) + ps_W j)) ∧
  (gi_cap H1 89 ≤ max (gi_cap H 89) (B + 110) ∧ gi_cap H1 86 = gi_cap H 86)
section ParserState
variable {H H1 H2 : mu_H} {m B : Nat}
theorem pt.refl (m B : Nat) (H : mu_H) : pt m B H H := ⟨gk.refl _ H, fun _ => rfl, fun _ _ => ⟨Nat.le_refl _, Nat.le_max_left _ _⟩, Nat.le_max_left _ _, rfl⟩
theorem pt.trans (h : pt m B H H1) (h' : pt m B H1 H2) : pt m B H H2 := by
  obtain ⟨a, b, c, e⟩ := h
  obtain ⟨a', b', c', e'⟩ := h'
  refine ⟨a.trans a', fun j => (b' j).trans (b j), fun j hj => ?_, by omega, by omega⟩
  obtain ⟨c1, c2⟩ := c j hj
  obtain ⟨c1', c2'⟩ := c' j hj
  have := Nat.mul_le_mul_right (ps_W j) c1'
  omega

theorem ps.w0 (h : ps m H) : gi_w (m + 1) = some 2 := by rcases h.2.1 with e | e <;> subst e <;> rfl
theorem ps.r0 (h : ps m H) : mu_r H m 0 = some (m + 1) := by rcases h.2.1 with e | e <;> subst e <;> exact h.1.r rfl
theorem ps.i0 (h : ps m H) : mu_is H (some (m + 1)) 10 := (h.1.w h.w0).1
theorem ps.w1 (h : ps m H) : gi_w (m + 3) = some 11 := by rcases h.2.1 with e | e <;> subst e <;> rfl
theorem ps.r1 (h : ps m H) : mu_r H m 1 = some (m + 3) := by rcases h.2.1 with e | e <;> subst e <;> exact h.1.r rfl
theorem ps.i1 (h : ps m H) : mu_is H (some (m + 3)) 10 := (h.1.w h.w1).1
theorem ps.w2 (h : ps m H) : gi_w (m + 5) = some 1 := by rcases h.2.1 with e | e <;> subst e <;> rfl
theorem ps.r2 (h : ps m H) : mu_r H m 2 = some (m + 5) := by rcases h.2.1 with e | e <;> subst e <;> exact h.1.r rfl
theorem ps.i2 (h : ps m H) : mu_is H (some (m + 5)) 10 := (h.1.w h.w2).1
theorem ps.w3 (h : ps m H) : gi_w (m + 7) = some 6 := by rcases h.2.1 with e | e <;> subst e <;> rfl
theorem ps.r3 (h : ps m H) : mu_r H m 3 = some (m + 7) := by rcases h.2.1 with e | e <;> subst e <;> exact h.1.r rfl
theorem ps.i3 (h : ps m H) : mu_is H (some (m + 7)) 10 := (h.1.w h.w3).1
theorem ps.w4 (h : ps m H) : gi_w (m + 9) = some 2 := by rcases h.2.1 with e | e <;> subst e <;> rfl
theorem ps.r4 (h : ps m H) : mu_r H m 4 = some (m + 9) := by rcases h.2.1 with e | e <;> subst e <;> exact h.1.r rfl
theorem ps.i4 (h : ps m H) : mu_is H (some (m + 9)) 10 := (h.1.w h.w4).1
theorem ps.w5 (h : ps m H) : gi_w (m + 11) = some 2 := by rcases h.2.1 with e | e <;> subst e <;> rfl
theorem ps.r5 (h : ps m H) : mu_r H m 5 = some (m + 11) := by rcases h.2.1 with e | e <;> subst e <;> exact h.1.r rfl
theorem ps.i5 (h : ps m H) : mu_is H (some (m + 11)) 10 := (h.1.w h.w5).1
theorem ps.w6 (h : ps m H) : gi_w (m + 13) = some 3 := by rcases h.2.1 with e | e <;> subst e <;> rfl
theorem ps.r6 (h : ps m H) : mu_r H m 6 = some (m + 13) := by rcases h.2.1 with e | e <;> subst e <;> exact h.1.r rfl
theorem ps.i6 (h : ps m H) : mu_is H (some (m + 13)) 10 := (h.1.w h.w6).1
theorem ps.w7 (h : ps m H) : gi_w (m + 15) = some 4 := by rcases h.2.1 with e | e <;> subst e <;> rfl
theorem ps.r7 (h : ps m H) : mu_r H m 7 = some (m + 15) := by rcases h.2.1 with e | e <;> subst e <;> exact h.1.r rfl
theorem ps.i7 (h : ps m H) : mu_is H (some (m + 15)) 10 := (h.1.w h.w7).1
theorem ps.w8 (h : ps m H) : gi_w (m + 17) = some 3 := by rcases h.2.1 with e | e <;> subst e <;> rfl
theorem ps.r8 (h : ps m H) : mu_r H m 8 = some (m + 17) := by rcases h.2.1 with e | e <;> subst e <;> exact h.1.r rfl
theorem ps.i8 (h : ps m H) : mu_is H (some (m + 17)) 10 := (h.1.w h.w8).1
theorem ps.w9 (h : ps m H) : gi_w (m + 19) = some 4 := by rcases h.2.1 with e | e <;> subst e <;> rfl
theorem ps.r9 (h : ps m H) : mu_r H m 9 = some (m + 19) := by rcases h.2.1 with e | e <;> subst e <;> exact h.1.r rfl
theorem ps.i9 (h : ps m H) : mu_is H (some (m + 19)) 10 := (h.1.w h.w9).1
theorem ps.w10 (h : ps m H) : gi_w (m + 21) = some 1 := by rcases h.2.1 with e | e <;> subst e <;> rfl
theorem ps.r10 (h : ps m H) : mu_r H m 10 = some (m + 21) := by rcases h.2.1 with e | e <;> subst e <;> exact h.1.r rfl
theorem ps.i10 (h : ps m H) : mu_is H (some (m + 21)) 10 := (h.1.w h.w10).1
theorem ps.w11 (h : ps m H) : gi_w (m + 23) = some 4 := by rcases h.2.1 with e | e <;> subst e <;> rfl
theorem ps.r11 (h : ps m H) : mu_r H m 11 = some (m + 23) := by rcases h.2.1 with e | e <;> subst e <;> exact h.1.r rfl
theorem ps.i11 (h : ps m H) : mu_is H (some (m + 23)) 10 := (h.1.w h.w11).1
theorem ps.w12 (h : ps m H) : gi_w (m + 25) = some 1 := by rcases h.2.1 with e | e <;> subst e <;> rfl
theorem ps.r12 (h : ps m H) : mu_r H m 12 = some (m + 25) := by rcases h.2.1 with e | e <;> subst e <;> exact h.1.r rfl
theorem ps.i12 (h : ps m H) : mu_is H (some (m + 25)) 10 := (h.1.w h.w12).1
theorem ps.w13 (h : ps m H) : gi_w (m + 27) = some 6 := by rcases h.2.1 with e | e <;> subst e <;> rfl
theorem ps.r13 (h : ps m H) : mu_r H m 13 = some (m + 27) := by rcases h.2.1 with e | e <;> subst e <;> exact h.1.r rfl
theorem ps.i13 (h : ps m H) : mu_is H (some (m + 27)) 10 := (h.1.w h.w13).1
theorem ps.w14 (h : ps m H) : gi_w (m + 29) = some 1 := by rcases h.2.1 with e | e <;> subst e <;> rfl
theorem ps.r14 (h : ps m H) : mu_r H m 14 = some (m + 29) := by rcases h.2.1 with e | e <;> subst e <;> exact h.1.r rfl
theorem ps.i14 (h : ps m H) : mu_is H (some (m + 29)) 10 := (h.1.w h.w14).1
theorem ps.w15 (h : ps m H) : gi_w (m + 31) = some 4 := by rcases h.2.1 with e | e <;> subst e <;> rfl
theorem ps.r15 (h : ps m H) : mu_r H m 15 = some (m + 31) := by rcases h.2.1 with e | e <;> subst e <;> exact h.1.r rfl
theorem ps.i15 (h : ps m H) : mu_is H (some (m + 31)) 10 := (h.1.w h.w15).1
theorem ps.w16 (h : ps m H) : gi_w (m + 33) = some 4 := by rcases h.2.1 with e | e <;> subst e <;> rfl
theorem ps.r16 (h : ps m H) : mu_r H m 16 = some (m + 33) := by rcases h.2.1 with e | e <;> subst e <;> exact h.1.r rfl
theorem ps.i16 (h : ps m H) : mu_is H (some (m + 33)) 10 := (h.1.w h.w16).1
theorem ps.w17 (h : ps m H) : gi_w (m + 35) = some 3 := by rcases h.2.1 with e | e <;> subst e <;> rfl
theorem ps.r17 (h : ps m H) : mu_r H m 17 = some (m + 35) := by rcases h.2.1 with e | e <;> subst e <;> exact h.1.r rfl
theorem ps.i17 (h : ps m H) : mu_is H (some (m + 35)) 10 := (h.1.w h.w17).1
theorem ps.w18 (h : ps m H) : gi_w (m + 37) = some 2 := by rcases h.2.1 with e | e <;> subst e <;> rfl
theorem ps.r18 (h : ps m H) : mu_r H m 18 = some (m + 37) := by rcases h.2.1 with e | e <;> subst e <;> exact h.1.r rfl
theorem ps.i18 (h : ps m H) : mu_is H (some (m + 37)) 10 := (h.1.w h.w18).1
theorem ps.im (h : ps m H) : mu_is H (some m) 6 := by rcases h.2.1 with e | e <;> subst e <;> exact h.1.is rfl
theorem ps_wm (hm : m = 2 ∨ m = 41) {j : Nat} (hj : j < 19) : gi_w (m + 1 + 2 * j) = some (ps_W j) := by
  rcases hm with e | e <;> subst e
  · exact (show ∀ j, j < 19 → gi_w (2 + 1 + 2 * j) = some (ps_W j) by decide +kernel) j hj
  · exact (show ∀ j, j < 19 → gi_w (41 + 1 + 2 * j) = some (ps_W j) by decide +kernel) j hj
theorem ps.m80 (h : ps m H) : mu_r H 80 2 = some m := h.2.2.1
/-- other objects, or other Rows, have changed -/
theorem ps.keep {S : Nat → Bool} (h : ps m H) (hg : gi H1) (hk : gk S H H1) (h80 : S 80 = false) (h82 : S 82 = false) (h89 : S 89 = false) : ps m H1 ∧ (∀ i, mu_i H1 80 i = mu_i H 80 i) ∧ gi_sz H1 89 = gi_sz H 89 ∧ gi_sz H1 82 = gi_sz H 82 := by
  obtain ⟨a, b, c, e, f, g⟩ := h
  have s80 := hk.obj (p := 80) (k := 7) rfl h80
  have s82 := hk.obj (p := 82) (k := 10) rfl h82
  have s89 := hk.obj (p := 89) (k := 10) rfl h89
  have e89 : ∀ i, cel H1 89 i = cel H 89 i := fun i => by unfold cel; rw [s89.r]; exact (hk.2.2.2.1 89 1 rfl h89).i i
  have e82 : ∀ i, cel H1 82 i = cel H 82 i := fun i => by unfold cel; rw [s82.r]; exact (hk.2.2.2.1 82 1 rfl h82).i i
  have z89 : gi_sz H1 89 = gi_sz H 89 := by unfold gi_sz; rw [s89.i]
  have z82 : gi_sz H1 82 = gi_sz H 82 := by unfold gi_sz; rw [s82.i]
  refine ⟨⟨hg, b, by rw [s80.r]; exact c, fun i hi => ?_, ?_, ?_⟩, s80.i, z89, z82⟩
  · rw [e89]; rw [z89] at hi; exact e i hi
  · rw [z82, e82]; exact f
  · rw [s80.i, s80.i, z82]; exact g
/-- an int of the Parser is written, but where it stands and the TOKEN's kind -/
theorem ps.si (h : ps m H) {j : Nat} {x : Int32} (h3 : j ≠ 3) (h4 : j ≠ 4) : ps m (mu_si H 80 j x) := by
  obtain ⟨a, b, c, e, f, g⟩ := h
  have hc : ∀ r i, gi_w r = some 2 ∨ gi_w r = some 3 → cel (mu_si H 80 j x) r i = cel H r i := fun r i hr => by
    show mu_i (mu_si H 80 j x) (mu_p (mu_r H r 1)) i = mu_i H (mu_p (mu_r H r 1)) i
    have hne : mu_p (mu_r H r 1) ≠ 80 := by
      rcases hr with hr | hr
      · exact ((a.cell hr).1 80 7 rfl).symm
      · exact ((a.cell hr).1 80 7 rfl).symm
    rw [mu_i_si, if_neg (fun z => hne z.1)]
  refine ⟨a.si (k := 7) rfl rfl, b, c, fun i hi => ?_, ?_, ?_⟩
  · rw [hc 89 _ (Or.inl rfl)]; exact e i hi
  · show 1 ≤ gi_sz H 82 ∧ ¬ cel (mu_si H 80 j x) 82 _ < 114
    rw [hc 82 _ (Or.inr rfl)]; exact f
  · rw [mu_i_si, if_neg (fun z => h3 z.2.symm), mu_i_si, if_neg (fun z => h4 z.2.symm)]
    exact g
theorem pt.si (h : ps m H) {j : Nat} {x : Int32} : pt m B H (mu_si H 80 j x) := by
  have hw : ∀ r, r ≠ 80 → gi_sz (mu_si H 80 j x) r = gi_sz H r := fun r hr => by
    unfold gi_sz
    rw [mu_i_si, if_neg (fun z => hr z.1)]
  refine ⟨gk.si h.1 (k := 7) rfl (decide_eq_true (Or.inl rfl)), fun _ => rfl, fun i hi => ?_, Nat.le_max_left _ _, rfl⟩
  have hne : m + 1 + 2 * i ≠ 80 := by rcases h.2.1 with e | e <;> omega
  rw [hw _ hne]
  exact ⟨Nat.le_refl _, Nat.le_max_left _ _⟩
theorem ps_pot_si (h : ps m H) {j : Nat} {x : Int32} (h3 : j ≠ 3) : ps_pot m (mu_si H 80 j x) + (if j = 6 then ps_mp (mu_i H 80 6) else 0) = ps_pot m H + (if j = 6 then ps_mp x else 0) := by
  have hm := h.2.1
  have hw : ∀ r, r ≠ 80 → gi_sz (mu_si H 80 j x) r = gi_sz H r := fun r hr => by
    unfold gi_sz
    rw [mu_i_si, if_neg (fun z => hr z.1)]
  unfold ps_pot
  rw [hw (m + 1) (by omega), hw (m + 3) (by omega), hw (m + 5) (by omega), hw (m + 7) (by omega), hw (m + 9) (by omega), hw (m + 11) (by omega), hw (m + 13) (by omega), hw (m + 15) (by omega), hw (m + 17) (by omega), hw (m + 19) (by omega), hw (m + 21) (by omega), hw 89 (by decide), hw 82 (by decide), mu_i_si, mu_i_si, if_neg (show ¬ ((80 : Nat) = 80 ∧ 3 = j) from fun z => h3 z.2.symm)]
  by_cases h6 : j = 6
  · subst h6
    rw [if_pos ⟨rfl, rfl⟩, if_pos rfl, if_pos rfl]
    omega
  · rw [if_neg (fun z => h6 z.2.symm), if_neg h6, if_neg h6]
/-- the potential by the mode's part alone -/
theorem ps_pot6 (h : ps m H) (x : Int32) : ps_pot m (mu_si H 80 6 x) + ps_mp (mu_i H 80 6) = ps_pot m H + ps_mp x := ps_pot_si h (j := 6) (by decide)
theorem ps_potj (h : ps m H) {j : Nat} (x : Int32) (h3 : j ≠ 3) (h6 : j ≠ 6) : ps_pot m (mu_si H 80 j x) = ps_pot m H := by
  have := ps_pot_si h (j := j) (x := x) h3
  rw [if_neg h6, if_neg h6] at this
  exact this
/-- what a step leaves of the Parser's own ints and of its stack's height -/
def pk (H H1 : mu_H) : Prop := (∀ j, 6 ≤ j → mu_i H1 80 j = mu_i H 80 j) ∧ gi_sz H1 89 = gi_sz H 89
theorem pk.refl (H : mu_H) : pk H H := ⟨fun _ _ => rfl, rfl⟩
theorem pk.trans (h : pk H H1) (h' : pk H1 H2) : pk H H2 := ⟨fun j hj => (h'.1 j hj).trans (h.1 j hj), h'.2.trans h.2⟩
/-- a table's row is written -/
theorem ps_set (h : ps m H) {r W j : Nat} {row v : Int32} (hr : gi_w r = some W) (hm : m < r ∧ r ≤ m + 22) : ps m (rw_set H r W (gi_sz H r) row j v) ∧ pt m B H (rw_set H r W (gi_sz H r) row j v) ∧ (∀ i, mu_i (rw_set H r W (gi_sz H r) row j v) 80 i = mu_i H 80 i) ∧ gi_sz (rw_set H r W (gi_sz H r) row j v) 89 = gi_sz H 89 ∧ ps_pot m (rw_set H r W (gi_sz H r) row j v) = ps_pot m H := by
  have hm2 := h.2.1
  obtain ⟨g1, g2⟩ := h.1.set (j := j) (row := row) (v := v) hr
  have hk : gk (fun p => Nat.beq p r) H (rw_set H r W (gi_sz H r) row j v) := gk.set h.1 hr (Nat.beq_refl r)
  have hf : ∀ p, p ≠ r → Nat.beq p r = false := fun p hp => by
    cases hx : Nat.beq p r with
    | false => rfl
    | true => exact absurd (Nat.eq_of_beq_eq_true hx) hp
  obtain ⟨k1, k2, k3, k4⟩ := h.keep g1 hk (hf 80 (by omega)) (hf 82 (by omega)) (hf 89 (by omega))
  have hz : ∀ r' W', gi_w r' = some W' → gi_sz (rw_set H r W (gi_sz H r) row j v) r' = gi_sz H r' := fun r' W' hw => by
    unfold gi_sz
    exact congrArg _ (g2 r' 2 (by have : mu_k H r' = 10 := (h.1.w hw).1.2.2; omega))
  have hc : ∀ r', gi_cap (rw_set H r W (gi_sz H r) row j v) r' = gi_cap H r' := fun r' => by
    unfold gi_cap mu_n
    rw [rw_set_r, (rw_set_eq H r W (gi_sz H r) row j v).2.1]
  refine ⟨k1, ⟨hk.mono (fun p hp => ?_), fun i => rw_set_r _ _ _ _ _ _ _ _ _, fun i hi => ?_, ?_⟩, k2, k3, ?_⟩
  · have e := Nat.eq_of_beq_eq_true hp
    exact decide_eq_true (Or.inr (Or.inr (Or.inr (Or.inr (by omega)))))
  · rw [hz _ _ (ps_wm hm2 hi), hc]
    exact ⟨Nat.le_refl _, Nat.le_max_left _ _⟩
  · exact ⟨by rw [hc]; exact Nat.le_max_left _ _, hc 86⟩
  · unfold ps_pot
    rw [hz (m + 1) _ h.w0, hz (m + 3) _ h.w1, hz (m + 5) _ h.w2, hz (m + 7) _ h.w3, hz (m + 9) _ h.w4, hz (m + 11) _ h.w5, hz (m + 13) _ h.w6, hz (m + 15) _ h.w7, hz (m + 17) _ h.w8, hz (m + 19) _ h.w9, hz (m + 21) _ h.w10, k3, k4, k2, k2]
end ParserState
