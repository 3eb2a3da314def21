/-! WHAT THE PARSER WRITES: what it does with the stack and the code -/
def tu (s : Ts) (c v : Int32) : Ts := fu s 11 (trn (s 11) c v)
/-- the content is fine, an item is open; ch: a CHOICE is next or has just ended -/
def cy (s : Ts) (fr : Nat) (x : List Bool) (ch : Bool) : Prop := CT s ∧ cx s fr x ∧ (s 0).1 ≤ 16000000 ∧ (ch = true → tq s = 43 ∨ tq s = 53) ∧ (ch = false → tq s ≠ 43 ∧ tq s ≠ 53)
section Acts
variable {s : Ts} {fr : Nat} {x x' : List Bool} {ch : Bool}
theorem CT.stack (h : CT s) {t : Tb} : CT (fu s 11 t) := h.same (fun j hj => fu_ne _ _ (by omega))
theorem CT.cl (h : CT s) {op arg : Int32} (hk : okc op arg) : CT (td (tp 0 s op arg 0 0)) := (h.emit hk).stack
theorem okc_lt {k : Nat} {arg : Int32} (h4 : 4 ≤ k) (h29 : k ≤ 29) : okc (nI k) arg := ⟨k, by omega, rfl, fun z => by omega, fun z => by omega⟩
theorem okc_many {k a : Nat} (hk : k = 30 ∨ k = 31 ∨ k = 33 ∨ k = 34) (h1 : 1 ≤ a) (h2 : a ≤ 16777216) : okc (nI k) (nI a) := ⟨k, by omega, rfl, fun z => by omega, fun _ => ⟨a, h1, h2, rfl⟩⟩
theorem rep2_len : ∀ a, (rep2 a).length = 2 * a
  | 0 => rfl
  | a + 1 => by
    show (rep2 a).length + 1 + 1 = _
    rw [rep2_len a]
    omega
theorem want_len {q k : Nat} (hq : 47 ≤ q) (h51 : q ≠ 51) (h53 : q ≤ 53) : k ≤ (want q k).length := by
  have h : q = 47 ∨ q = 48 ∨ q = 49 ∨ q = 50 ∨ q = 52 ∨ q = 53 := by omega
  rcases h with z | z | z | z | z | z <;> subst z <;> unfold want
  · simp only [List.length_replicate, Nat.reduceLeDiff, Nat.reduceEqDiff, and_true, and_false, false_or, or_self, if_false, if_true, or_false, false_and, true_and]; omega
  · simp only [List.length_replicate, Nat.reduceLeDiff, Nat.reduceEqDiff, and_true, and_false, false_or, or_self, if_false, if_true, or_false, false_and, true_and]; omega
  · simp only [List.length_replicate, Nat.reduceLeDiff, Nat.reduceEqDiff, and_true, and_false, false_or, or_self, if_false, if_true, or_false, false_and, true_and]; omega
  · simp only [List.length_replicate, Nat.reduceLeDiff, Nat.reduceEqDiff, and_true, and_false, false_or, or_self, if_false, if_true, or_false, false_and, true_and]; omega
  · simp only [rep2_len, Nat.reduceLeDiff, Nat.reduceEqDiff, and_true, and_false, false_or, or_self, if_false, if_true, or_false, false_and, true_and]; omega
  · simp only [List.length_cons, rep2_len, Nat.reduceLeDiff, Nat.reduceEqDiff, and_true, and_false, false_or, or_self, if_false, if_true, or_false, false_and, true_and]; omega
theorem cy.note (h : cy s fr x ch) (hq : 47 ≤ tq s) (h51 : tq s ≠ 51) (h53 : tq s ≤ 53) : tn s = nI (tm s) ∧ tm s ≤ 16000000 := by
  refine ⟨h.2.1.top.2.2.1.2.1 hq, ?_⟩
  have h1 := kst_len h.2.1.2.2.1
  rw [flat_top h.2.1.2.1.1] at h1
  have h2 : tm s ≤ (want (tq s) (tm s)).length := want_len hq h51 h53
  simp only [List.length_append] at h1
  have h3 : (want (so (s 11) ((s 11).1 - 1)) ((s 11).2 ((s 11).1 - 1) 1).toNatClampNeg).length = (want (tq s) (tm s)).length := rfl
  have := h.2.2.1
  omega
theorem cy.two (h : cy s fr x ch) (hq : tq s < 40 ∨ 43 < tq s) : 2 ≤ (s 11).1 ∧ sok (so (s 11) ((s 11).1 - 2)) (tq s) := h.2.1.top.2.2.2.2 hq
theorem cy.many (h : cy s fr x ch) (hq : 47 ≤ tq s) (h51 : tq s ≠ 51) (h53 : tq s ≤ 53) : tn s + 1 = nI (tm s + 1) ∧ (tn s + 1).toNatClampNeg = tm s + 1 := by
  obtain ⟨h1, h2⟩ := h.note hq h51 h53
  have e : tn s + 1 = nI (tm s + 1) := by
    have := nI_1 (tm s)
    rw [← this, ← h1]
  exact ⟨e, by rw [e]; exact nI_clamp (by omega)⟩
/-- how a row below stands, by what stands above -/
theorem sok_e {p q : Nat} (h : sok p q) (hq : q ≤ 49) : p ≠ 43 ∧ p ≠ 53 := by
  unfold sok at h
  omega
theorem sok_c {p q : Nat} (h : sok p q) (hq : 50 ≤ q) : p = 43 ∨ p = 53 := by
  unfold sok at h
  omega
theorem cy.leaf (h : cy s fr [] false) {o : Nat} {arg : Int32} (ho : o ≤ 1) (hk : o = 0 → arg = 0 ∨ arg = 1) (hb : (s 0).1 + 1 ≤ 16000000) : cy (tp 0 s (nI o) arg 0 0) fr [false] false := by
  obtain ⟨h1, h2, h3, -, h5⟩ := h
  obtain ⟨g1, g2⟩ := h2.leaf (arg := arg) ho
  exact ⟨h1.emit ⟨o, by omega, rfl, hk, fun z => by omega⟩, g1, by rw [tp_n]; exact hb, fun z => absurd z (by decide), fun z => by rw [g2]; exact h5 z⟩
theorem cy.push (h : cy s fr x ch) {w : Nat} {v : Int32} (hx : x = want w v.toNatClampNeg) (hw : w < 54) (hs : ch = false → tq s ≠ 43 ∧ tq s ≠ 53 → sok (tq s) w) (hs2 : ch = true → (tq s = 43 ∨ tq s = 53) → sok (tq s) w) (hn : nok w v) (hw2 : w ≠ 43 ∧ w ≠ 53) : cy (tp 11 s (nI w) v 0 0) fr [] false := by
  obtain ⟨h1, h2, h3, h4, h5⟩ := h
  subst hx
  obtain ⟨g1, g2⟩ := h2.push hw (by cases ch with | false => exact hs rfl (h5 rfl) | true => exact hs2 rfl (h4 rfl)) hn
  exact ⟨h1.stack, g1, h3, fun z => absurd z (by decide), fun z => by rw [g2]; exact hw2⟩
theorem cy.pbin (h : cy s fr [false] false) {q : Nat} {v : Int32} (hq : (4 ≤ q ∧ q ≤ 8) ∨ (16 ≤ q ∧ q ≤ 26)) (hv : v = 0 ∨ v = 1) : cy (tp 11 s (nI q) v 0 0) fr [] false :=
  h.push (by unfold want; rw [if_pos (by omega)]) (by omega) (fun _ z => Or.inl ⟨by omega, z.1, z.2⟩) (fun z => absurd z (by decide)) ⟨fun z => by omega, fun z => by omega, fun _ => hv⟩ (by omega)
theorem cy.pun (h : cy s fr [] false) {q : Nat} {v : Int32} (hq : (9 ≤ q ∧ q ≤ 15) ∨ q = 27) (hv : v = 0 ∨ v = 1) : cy (tp 11 s (nI q) v 0 0) fr [] false :=
  h.push (by unfold want; rw [if_neg (by omega), if_neg (by omega), if_neg (by omega), if_neg (by omega), if_neg (by omega), if_neg (by omega), if_neg (by omega)]) (by omega) (fun _ z => Or.inl ⟨by omega, z.1, z.2⟩) (fun z => absurd z (by decide)) ⟨fun z => by omega, fun z => by omega, fun _ => hv⟩ (by omega)
theorem cy.p44 (h : cy s fr [] false) : cy (tp 11 s (nI 44) 0 0 0) fr [] false :=
  h.push rfl (by omega) (fun _ z => Or.inl ⟨by omega, z.1, z.2⟩) (fun z => absurd z (by decide)) ⟨fun z => by omega, fun z => by omega, fun z => by omega⟩ (by omega)
theorem cy.p45 (h : cy s fr [] false) {v : Int32} (hv : v = 28 ∨ v = 29) : cy (tp 11 s (nI 45) v 0 0) fr [] false :=
  h.push rfl (by omega) (fun _ z => Or.inl ⟨by omega, z.1, z.2⟩) (fun z => absurd z (by decide)) ⟨fun _ => hv, fun z => by omega, fun z => by omega⟩ (by omega)
theorem cy.p47 (h : cy s fr [false] false) : cy (tp 11 s (nI 47) 0 0 0) fr [] false :=
  h.push rfl (by omega) (fun _ z => Or.inl ⟨by omega, z.1, z.2⟩) (fun z => absurd z (by decide)) ⟨fun z => by omega, fun _ => rfl, fun z => by omega⟩ (by omega)
theorem cy.p48 (h : cy s fr [] false) : cy (tp 11 s (nI 48) 0 0 0) fr [] false :=
  h.push rfl (by omega) (fun _ z => Or.inl ⟨by omega, z.1, z.2⟩) (fun z => absurd z (by decide)) ⟨fun z => by omega, fun _ => rfl, fun z => by omega⟩ (by omega)
theorem cy.p50 (h : cy s fr [] true) {q : Nat} (hq : q = 50 ∨ q = 51 ∨ q = 52) : cy (tp 11 s (nI q) 0 0 0) fr [] false :=
  h.push (by rcases hq with z | z | z <;> subst z <;> rfl) (by omega) (fun z => absurd z (by decide)) (fun _ z => Or.inr ⟨by omega, z⟩) ⟨fun z => by omega, fun _ => rfl, fun z => by omega⟩ (by omega)
/-- an operator takes its parts, its row is dropped -/
theorem cy.close (h : cy s fr x ch) {o : Nat} {arg : Int32} {c2 : Bool} (hq : tq s < 40 ∨ 43 < tq s) (hk : okc (nI o) arg) (ho : o < 54) (ho2 : o ≠ 2 ∧ o ≠ 3) (hb : (s 0).1 + 1 ≤ 16000000) (hx : x ++ want (tq s) (tm s) = kin o arg.toNatClampNeg) (hc2 : c2 = decide (50 ≤ tq s)) : cy (td (tp 0 s (nI o) arg 0 0)) fr [decide (32 ≤ o)] c2 := by
  obtain ⟨n2, hs⟩ := h.two hq
  obtain ⟨g1, g2⟩ := h.2.1.close (arg := arg) n2 ho ho2 hx
  refine ⟨h.1.cl hk, g1, ?_, fun z => ?_, fun z => ?_⟩
  · show (tp 0 s (nI o) arg 0 0 0).1 ≤ _
    rw [tp_n]
    exact hb
  · rw [g2]
    rw [hc2] at z
    exact sok_c hs (of_decide_eq_true z)
  · rw [g2]
    rw [hc2] at z
    have := of_decide_eq_false z
    exact sok_e hs (by omega)
theorem cy.unw (h : cy s fr [false] false) {arg : Int32} (h4 : 4 ≤ tq s) (h27 : tq s ≤ 27) (hb : (s 0).1 + 1 ≤ 16000000) : cy (td (tp 0 s (tt s) arg 0 0)) fr [false] false := by
  rw [h.2.1.top.1]
  have := h.close (o := tq s) (arg := arg) (c2 := false) (by omega) (okc_lt h4 (by omega)) (by omega) (by omega) hb ?_ (decide_eq_false (by omega)).symm
  · rw [decide_eq_false (by omega)] at this
    exact this
  · unfold want kin
    rw [if_neg (show ¬ tq s ≤ 3 by omega)]
    by_cases hu : (9 ≤ tq s ∧ tq s ≤ 15) ∨ tq s = 27 ∨ tq s = 32
    · rw [if_pos hu, if_neg (by omega), if_neg (by omega), if_neg (by omega), if_neg (by omega), if_neg (by omega), if_neg (by omega), if_neg (by omega)]
      rfl
    · rw [if_neg hu, if_pos (by omega), if_neg (by omega), if_neg (by omega), if_neg (by omega), if_neg (by omega)]
      rfl
/-- ( ) has ended -/
theorem cy.par (h : cy s fr [false] false) (hq : tq s = 44) : cy (td s) fr [false] false := by
  obtain ⟨n2, hs⟩ := h.two (by omega)
  obtain ⟨g1, g2⟩ := h.2.1.drop n2
  refine ⟨h.1.stack, ?_, h.2.2.1, fun z => absurd z (by decide), fun _ => ?_⟩
  · rw [hq] at g1
    exact g1
  · rw [g2]
    exact sok_e hs (by omega)
theorem cy.tur (h : cy s fr x ch) {c : Nat} {v : Int32} (hq : 43 < tq s) (hc : c < 54) (hs : (50 ≤ c ∧ c ≤ 53 ∧ 50 ≤ tq s) ∨ (44 ≤ c ∧ c ≤ 49 ∧ tq s ≤ 49)) (hn : nok c v) (hx : x ++ want (tq s) (tm s) = want c v.toNatClampNeg) (c2 : Bool) (hc2 : c2 = decide (c = 53)) : cy (tu s (nI c) v) fr [] c2 := by
  obtain ⟨n2, hs1⟩ := h.two (by omega)
  obtain ⟨g1, g2⟩ := h.2.1.turn (x' := []) (c := c) (v := v) n2 hc (by unfold sok at hs1 ⊢; omega) hn hx
  refine ⟨h.1.stack, g1, h.2.2.1, fun z => ?_, fun z => ?_⟩
  · rw [hc2] at z
    have hcc := of_decide_eq_true z
    exact Or.inr (g2.trans hcc)
  · rw [hc2] at z
    have hcc := of_decide_eq_false z
    show tq (fu s 11 (trn (s 11) (nI c) v)) ≠ 43 ∧ tq (fu s 11 (trn (s 11) (nI c) v)) ≠ 53
    rw [g2]
    omega
theorem rep_cons {k : Nat} : [false] ++ List.replicate k false = List.replicate (k + 1) false := rfl
theorem cy.until (h : cy s fr [false] false) (hq : tq s = 45) : cy (tu s (nI 46) (tn s)) fr [] false :=
  h.tur (by omega) (by omega) (Or.inr (by omega)) ⟨fun _ => h.2.1.top.2.2.1.1 (Or.inl hq), fun z => by omega, fun z => by omega⟩ (by rw [hq]; rfl) false rfl
theorem cy.cond (h : cy s fr [false] false) (hq : tq s = 48) : cy (tu s (nI 49) (tn s)) fr [] false := by
  obtain ⟨h1, h2⟩ := h.note (by omega) (by omega) (by omega)
  exact h.tur (by omega) (by omega) (Or.inr (by omega)) ⟨fun z => by omega, fun _ => h1, fun z => by omega⟩ (by rw [hq]; rfl) false rfl
theorem cy.pcond (h : cy s fr [false] false) (hq : tq s = 52) : cy (tu s (nI 53) (tn s)) fr [] true := by
  obtain ⟨h1, h2⟩ := h.note (by omega) (by omega) (by omega)
  exact h.tur (by omega) (by omega) (Or.inl (by omega)) ⟨fun z => by omega, fun _ => h1, fun z => by omega⟩ (by rw [hq]; rfl) true rfl
theorem cy.comma (h : cy s fr [false] false) (hq : tq s = 47 ∨ tq s = 50) : cy (tu s (tt s) (tn s + 1)) fr [] false := by
  obtain ⟨h1, h2⟩ := h.many (by omega) (by omega) (by omega)
  rw [h.2.1.top.1]
  refine h.tur (by omega) (by omega) (by omega) ⟨fun z => by omega, fun _ => by rw [h2]; exact h1, fun z => by omega⟩ ?_ false (decide_eq_false (by omega)).symm
  rw [h2]
  rcases hq with hq | hq <;> rw [hq] <;> rfl
theorem cy.again (h : cy s fr [false] false) (hq : tq s = 49) : cy (tu s (nI 48) (tn s + 1)) fr [] false := by
  obtain ⟨h1, h2⟩ := h.many (by omega) (by omega) (by omega)
  refine h.tur (by omega) (by omega) (Or.inr (by omega)) ⟨fun z => by omega, fun _ => by rw [h2]; exact h1, fun z => by omega⟩ ?_ false rfl
  rw [h2, hq]
  show [false] ++ List.replicate (2 * tm s + 1) false = List.replicate (2 * (tm s + 1)) false
  rw [rep_cons, Nat.mul_add]
theorem cy.pagain (h : cy s fr [true] true) (hq : tq s = 53) : cy (tu s (nI 52) (tn s + 1)) fr [] false := by
  obtain ⟨h1, h2⟩ := h.many (by omega) (by omega) (by omega)
  refine h.tur (by omega) (by omega) (Or.inl (by omega)) ⟨fun z => by omega, fun _ => by rw [h2]; exact h1, fun z => by omega⟩ ?_ false rfl
  rw [h2, hq]
  rfl
theorem cy.goal (h : cy s fr [false] false) (hq : tq s = 46) (hb : (s 0).1 + 1 ≤ 16000000) : cy (td (tp 0 s (tn s) 0 0 0)) fr [false] false := by
  rcases h.2.1.top.2.2.1.1 (Or.inr hq) with e | e <;> rw [e]
  · exact h.close (o := 28) (arg := 0) (by omega) (okc_lt (by decide) (by decide)) (by decide) (by decide) hb (by rw [hq]; rfl) (by rw [hq]; rfl)
  · exact h.close (o := 29) (arg := 0) (by omega) (okc_lt (by decide) (by decide)) (by decide) (by decide) hb (by rw [hq]; rfl) (by rw [hq]; rfl)
theorem cy.lend (h : cy s fr [false] false) (hq : tq s = 47) (hb : (s 0).1 + 1 ≤ 16000000) : cy (td (tp 0 s (nI 30) (tn s + 1) 0 0)) fr [false] false := by
  obtain ⟨h1, h2⟩ := h.many (by omega) (by omega) (by omega)
  have h3 := (h.note (by omega) (by omega) (by omega)).2
  exact h.close (o := 30) (by omega) (by rw [h1]; exact okc_many (by decide) (by omega) (by omega)) (by decide) (by decide) hb (by rw [h2, hq]; rfl) (by rw [hq]; rfl)
theorem cy.send (h : cy s fr [false] false) (hq : tq s = 50) (hb : (s 0).1 + 1 ≤ 16000000) : cy (td (tp 0 s (nI 33) (tn s + 1) 0 0)) fr [true] true := by
  obtain ⟨h1, h2⟩ := h.many (by omega) (by omega) (by omega)
  have h3 := (h.note (by omega) (by omega) (by omega)).2
  exact h.close (o := 33) (by omega) (by rw [h1]; exact okc_many (by decide) (by omega) (by omega)) (by decide) (by decide) hb (by rw [h2, hq]; rfl) (by rw [hq]; rfl)
theorem cy.cend (h : cy s fr [false] false) (hq : tq s = 49) (hb : (s 0).1 + 1 ≤ 16000000) : cy (td (tp 0 s (nI 31) (tn s + 1) 0 0)) fr [false] false := by
  obtain ⟨h1, h2⟩ := h.many (by omega) (by omega) (by omega)
  have h3 := (h.note (by omega) (by omega) (by omega)).2
  refine h.close (o := 31) (by omega) (by rw [h1]; exact okc_many (by decide) (by omega) (by omega)) (by decide) (by decide) hb ?_ (by rw [hq]; rfl)
  rw [h2, hq]
  show [false] ++ List.replicate (2 * tm s + 1) false = List.replicate (2 * (tm s + 1)) false
  rw [rep_cons, Nat.mul_add]
theorem cy.pend (h : cy s fr [true] true) (hq : tq s = 53) (hb : (s 0).1 + 1 ≤ 16000000) : cy (td (tp 0 s (nI 34) (tn s + 1) 0 0)) fr [true] true := by
  obtain ⟨h1, h2⟩ := h.many (by omega) (by omega) (by omega)
  have h3 := (h.note (by omega) (by omega) (by omega)).2
  exact h.close (o := 34) (by omega) (by rw [h1]; exact okc_many (by decide) (by omega) (by omega)) (by decide) (by decide) hb (by rw [h2, hq]; rfl) (by rw [hq]; rfl)
theorem cy.one (h : cy s fr [false] false) (hq : tq s = 51) (hb : (s 0).1 + 1 ≤ 16000000) : cy (td (tp 0 s (nI 32) 0 0 0)) fr [true] true :=
  h.close (o := 32) (arg := 0) (by omega) ⟨32, by omega, rfl, fun z => by omega, fun z => by omega⟩ (by decide) (by decide) hb (by rw [hq]; rfl) (by rw [hq]; rfl)
end Acts
