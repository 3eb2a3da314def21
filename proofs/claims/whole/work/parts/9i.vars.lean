/-! THE PARSER ONCE MORE: names, VARS, items -/
/-- the last VAR, and its TYPE -/
def lastv (s : Ts) (v y : Nat) : Prop := v + 1 = (s 3).1 ∧ v < 2147483648 ∧ sp s ((s 1).1 - 1) 2 ≤ v ∧ (s 3).2 v 1 = nI y ∧ 1 ≤ (s 1).1
section Vars
variable {s : Ts} {v y c : Nat} {x a : Int32}
theorem lastv_new (h : CT s) (hb : (s 3).1 < 2147483648) (h1 : 1 ≤ (s 1).1) : lastv (tp 3 s a 0 0 0) (s 3).1 0 ∧ (tp 3 s a 0 0 0 3).2 (s 3).1 2 = 0 ∧ (tp 3 s a 0 0 0 3).2 (s 3).1 3 = 0 := by
  have x : ex s (tp 3 s a 0 0 0) := ex_tp (by decide)
  refine ⟨⟨tp_n.symm, hb, ?_, by rw [tp_new (show 1 < 6 by decide)]; rfl, h1⟩, by rw [tp_new (show 2 < 6 by decide)]; rfl, by rw [tp_new (show 3 < 6 by decide)]; rfl⟩
  show sp (tp 3 s a 0 0 0) ((s 1).1 - 1) 2 ≤ (s 3).1
  rw [x.spq (by omega)]
  exact h.1.last (c := 2) (by decide) (by decide)
theorem txv_hit (h : lastv s v y) (hc : c < 6) : (tx 3 s (nI v) c x 3).2 v c = x := by
  rw [tx_at]
  exact tset_hit (by have := h.1; omega) hc h.2.1
theorem txv_ne {c' : Nat} (hc : c' ≠ c) : (tx 3 s (nI v) c x 3).2 v c' = (s 3).2 v c' := by
  rw [tx_at]
  exact tset_ne (fun _ => hc)
theorem txv_n : (tx 3 s (nI v) c x 3).1 = (s 3).1 := by rw [tx_at, tset_n]
theorem txv_lt (h : lastv s v y) {i k : Nat} (hi : i < v) : (tx 3 s (nI v) c x 3).2 i k = (s 3).2 i k := by
  rw [tx_at]
  exact tset_ne (fun z => by rw [nI_clamp h.2.1] at z; omega)
theorem txv_last {y' : Nat} (h : lastv s v y) (hy : (tx 3 s (nI v) c x 3).2 v 1 = nI y') : lastv (tx 3 s (nI v) c x) v y' := by
  refine ⟨by rw [txv_n]; exact h.1, h.2.1, ?_, hy, h.2.2.2.2⟩
  have e : ex s (tx 3 s (nI v) c x) := ex_tx (by decide) (by decide) (by decide)
  show sp (tx 3 s (nI v) c x) ((s 1).1 - 1) 2 ≤ v
  rw [e.spq (by have := h.2.2.2.2; omega)]
  exact h.2.2.1
theorem Cl_tx (h : lastv s v y) (hh : ls2 (s 3) v + (if (tx 3 s (nI v) c x 3).2 v 1 = 2 then ((tx 3 s (nI v) c x 3).2 v 3).toNatClampNeg else 0) ≤ (s 4).1) : Cl (tx 3 s (nI v) c x) := by
  show ls2 (tx 3 s (nI v) c x 3) (tx 3 s (nI v) c x 3).1 ≤ (s 4).1
  rw [txv_n, ← h.1]
  show ls2 (tx 3 s (nI v) c x 3) v + _ ≤ _
  rw [ls2_congr (t := s 3) (fun i hi => ⟨txv_lt h hi, txv_lt h hi⟩)]
  exact hh
theorem CT.ls (h : CT s) (hl : lastv s v y) : ls2 (s 3) v ≤ (s 4).1 := by
  have := h.2.2.2.2.2
  unfold Cl at this
  rw [← hl.1] at this
  exact Nat.le_trans (Nat.le_add_right _ _) this
theorem nI_ne2 {k : Nat} (hk : k ≤ 3) (h : k ≠ 2) : ¬ nI k = 2 := by
  have : k = 0 ∨ k = 1 ∨ k = 3 := by omega
  rcases this with z | z | z <;> subst z <;> decide
/-- the TYPE of the last VAR is set -/
theorem CT.vty (h : CT s) (hl : lastv s v 0) (h2 : (s 3).2 v 2 = 0) (h3 : (s 3).2 v 3 = 0) (hy : y ≤ 3) : CT (tx 3 s (nI v) 1 (nI y)) ∧ lastv (tx 3 s (nI v) 1 (nI y)) v y ∧ (tx 3 s (nI v) 1 (nI y) 3).2 v 2 = 0 ∧ (tx 3 s (nI v) 1 (nI y) 3).2 v 3 = 0 := by
  have e2 : (tx 3 s (nI v) 1 (nI y) 3).2 v 2 = 0 := (txv_ne (by decide)).trans h2
  have e3 : (tx 3 s (nI v) 1 (nI y) 3).2 v 3 = 0 := (txv_ne (by decide)).trans h3
  refine ⟨h.vset hl.1 hl.2.1 hl.2.2.1 ⟨y, hy, txv_hit hl (by decide), fun _ => ⟨0, 0, e2, e3, Nat.zero_le _⟩, fun _ => ⟨0, 0, e2, e3, Nat.zero_le _, fun g h1 h2 => by omega⟩⟩ (Cl_tx hl ?_), txv_last hl (txv_hit hl (by decide)), e2, e3⟩
  rw [e3]
  have := h.ls hl
  split
  · show ls2 (s 3) v + 0 ≤ _
    exact this
  · exact this
/-- a bound of a RANGE, or what does not matter -/
theorem CT.vany (h : CT s) (hl : lastv s v 1) (hc : c ≠ 1) : CT (tx 3 s (nI v) c x) ∧ lastv (tx 3 s (nI v) c x) v 1 := by
  have e1 : (tx 3 s (nI v) c x 3).2 v 1 = nI 1 := (txv_ne (fun z => hc z.symm)).trans hl.2.2.2.1
  refine ⟨h.vset hl.1 hl.2.1 hl.2.2.1 ⟨1, by decide, e1, fun z => by omega, fun z => by omega⟩ (Cl_tx hl ?_), txv_last hl e1⟩
  rw [e1, if_neg (by decide)]
  exact h.ls hl
/-- where the values of a LIST begin -/
theorem CT.vla (h : CT s) (hl : lastv s v 2) (h3 : (s 3).2 v 3 = 0) : CT (tx 3 s (nI v) 2 (nI (s 4).1)) ∧ lastv (tx 3 s (nI v) 2 (nI (s 4).1)) v 2 ∧ (tx 3 s (nI v) 2 (nI (s 4).1) 3).2 v 2 = nI (s 4).1 ∧ (tx 3 s (nI v) 2 (nI (s 4).1) 3).2 v 3 = 0 ∧ ls2 (tx 3 s (nI v) 2 (nI (s 4).1) 3) v ≤ (s 4).1 := by
  have e1 : (tx 3 s (nI v) 2 (nI (s 4).1) 3).2 v 1 = nI 2 := (txv_ne (by decide)).trans hl.2.2.2.1
  have e2 : (tx 3 s (nI v) 2 (nI (s 4).1) 3).2 v 2 = nI (s 4).1 := txv_hit hl (by decide)
  have e3 : (tx 3 s (nI v) 2 (nI (s 4).1) 3).2 v 3 = 0 := (txv_ne (by decide)).trans h3
  refine ⟨h.vset hl.1 hl.2.1 hl.2.2.1 ⟨2, by decide, e1, fun _ => ⟨(s 4).1, 0, e2, e3, Nat.le_refl _⟩, fun z => by omega⟩ (Cl_tx hl ?_), txv_last hl e1, e2, e3, ?_⟩
  · rw [e3, e1, if_pos (show nI 2 = 2 from rfl)]
    exact h.ls hl
  · rw [ls2_congr (t := s 3) (fun i hi => ⟨txv_lt hl hi, txv_lt hl hi⟩)]
    exact h.ls hl
/-- how many values a LIST has -/
theorem CT.vlb (h : CT s) (hl : lastv s v 2) {a0 : Nat} (h2 : (s 3).2 v 2 = nI a0) (ha : a0 ≤ (s 4).1) (hb : (s 4).1 < 2147483648) (hs : ls2 (s 3) v ≤ a0) : CT (tx 3 s (nI v) 3 (nI ((s 4).1 - a0))) := by
  have e1 : (tx 3 s (nI v) 3 (nI ((s 4).1 - a0)) 3).2 v 1 = nI 2 := (txv_ne (by decide)).trans hl.2.2.2.1
  have e2 : (tx 3 s (nI v) 3 (nI ((s 4).1 - a0)) 3).2 v 2 = nI a0 := (txv_ne (by decide)).trans h2
  have e3 : (tx 3 s (nI v) 3 (nI ((s 4).1 - a0)) 3).2 v 3 = nI ((s 4).1 - a0) := txv_hit hl (by decide)
  refine h.vset hl.1 hl.2.1 hl.2.2.1 ⟨2, by decide, e1, fun _ => ⟨a0, (s 4).1 - a0, e2, e3, ?_⟩, fun z => by omega⟩ (Cl_tx hl ?_)
  · show a0 + ((s 4).1 - a0) ≤ (s 4).1
    omega
  · rw [e3, e1, if_pos (show nI 2 = 2 from rfl), nI_clamp (by omega)]
    omega
/-- the name of an INSTANCE's MODULE -/
theorem CT.vmo (h : CT s) (hl : lastv s v 3) (h2 : (s 3).2 v 2 = 0) (h3 : (s 3).2 v 3 = 0) : CT (tx 3 s (nI v) 4 x) ∧ lastv (tx 3 s (nI v) 4 x) v 3 ∧ (tx 3 s (nI v) 4 x 3).2 v 3 = 0 := by
  have e1 : (tx 3 s (nI v) 4 x 3).2 v 1 = nI 3 := (txv_ne (by decide)).trans hl.2.2.2.1
  have e2 : (tx 3 s (nI v) 4 x 3).2 v 2 = 0 := (txv_ne (by decide)).trans h2
  have e3 : (tx 3 s (nI v) 4 x 3).2 v 3 = 0 := (txv_ne (by decide)).trans h3
  refine ⟨h.vset hl.1 hl.2.1 hl.2.2.1 ⟨3, by decide, e1, fun z => by omega, fun _ => ⟨0, 0, e2, e3, Nat.zero_le _, fun g h1 h2 => by omega⟩⟩ (Cl_tx hl ?_), txv_last hl e1, e3⟩
  rw [e1, if_neg (by decide)]
  exact h.ls hl
/-- where what is given to an INSTANCE begins -/
theorem CT.vga (h : CT s) (hl : lastv s v 3) (h3 : (s 3).2 v 3 = 0) : CT (tx 3 s (nI v) 2 (nI (s 5).1)) ∧ lastv (tx 3 s (nI v) 2 (nI (s 5).1)) v 3 ∧ (tx 3 s (nI v) 2 (nI (s 5).1) 3).2 v 2 = nI (s 5).1 ∧ (tx 3 s (nI v) 2 (nI (s 5).1) 3).2 v 3 = 0 := by
  have e1 : (tx 3 s (nI v) 2 (nI (s 5).1) 3).2 v 1 = nI 3 := (txv_ne (by decide)).trans hl.2.2.2.1
  have e2 : (tx 3 s (nI v) 2 (nI (s 5).1) 3).2 v 2 = nI (s 5).1 := txv_hit hl (by decide)
  have e3 : (tx 3 s (nI v) 2 (nI (s 5).1) 3).2 v 3 = 0 := (txv_ne (by decide)).trans h3
  refine ⟨h.vset hl.1 hl.2.1 hl.2.2.1 ⟨3, by decide, e1, fun z => by omega, fun _ => ⟨(s 5).1, 0, e2, e3, Nat.le_refl _, fun g h1 h2 => by omega⟩⟩ (Cl_tx hl ?_), txv_last hl e1, e2, e3⟩
  rw [e1, if_neg (by decide)]
  exact h.ls hl
/-- what is given to an INSTANCE is begun -/
theorem cy_given (h : CT s) (hb : (s 0).1 ≤ 16000000) (hl : lastv s v 3) (h2 : (s 3).2 v 2 = nI (s 5).1) (h3 : (s 3).2 v 3 = 0) (h0 : (s 11).1 = 0) : cy (tp 11 s (nI 42) (nI v) 0 0) (s 0).1 [] false := by
  have hg : gvn (tp 11 s (nI 42) (nI v) 0 0) := by
    refine ⟨v, (s 5).1, ?_, hl.2.1, hl.1, hl.2.2.1, hl.2.2.2.1, h2, h3, Nat.le_refl _, fun g h1 h2 => ?_⟩
    · have := tp_new (s := s) (j := 11) (a := nI 42) (b := nI v) (c := 0) (e := 0) (k := 1) (by decide)
      rw [h0] at this
      exact this
    · have : g < (s 5).1 := h2
      omega
  obtain ⟨g1, g2⟩ := cx_start (s := s) (c := 42) (v := nI v) hl.2.2.2.2 h0 (by decide) (fun _ => hg)
  exact ⟨h.stack, g1, hb, fun z => absurd z (by decide), fun _ => by rw [g2]; decide⟩
/-- another item is begun -/
theorem cy_item {k : Nat} {w : Int32} (h : CT s) (hb : (s 0).1 ≤ 16000000) (h1 : 1 ≤ (s 1).1) (h0 : (s 11).1 = 0) (hk : k = 40 ∨ k = 41) : cy (tp 11 s (nI k) w 0 0) (s 0).1 [] false := by
  obtain ⟨g1, g2⟩ := cx_start (s := s) (c := k) (v := w) h1 h0 (by omega) (fun z => by omega)
  exact ⟨h.stack, g1, hb, fun z => absurd z (by decide), fun _ => by rw [g2]; omega⟩
theorem cy_line {w : Int32} (h : CT s) (hb : (s 0).1 ≤ 16000000) (h1 : 1 ≤ (s 1).1) (h0 : (s 11).1 = 0) : cy (tp 11 s (nI 43) w 0 0) (s 0).1 [] true := by
  obtain ⟨g1, g2⟩ := cx_start (s := s) (c := 43) (v := w) h1 h0 (by omega) (fun z => by omega)
  exact ⟨h.stack, g1, hb, fun _ => Or.inl g2, fun z => absurd z (by decide)⟩
end Vars
