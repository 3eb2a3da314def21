/-! WHAT THE PARSER WRITES: the item that is open -/
def cref (s : Ts) (p : Nat) : Prop := ((s 0).2 p 0 = 2 ∨ (s 0).2 p 0 = 3) → ∃ r, (s 0).2 p 1 = nI r ∧ sp s ((s 1).1 - 1) 6 ≤ r ∧ r < (s 9).1
/-- what is given to an INSTANCE is being read -/
def gvn (s : Ts) : Prop := ∃ v a, (s 11).2 0 1 = nI v ∧ v < 2147483648 ∧ v + 1 = (s 3).1 ∧ sp s ((s 1).1 - 1) 2 ≤ v ∧ (s 3).2 v 1 = 3 ∧ (s 3).2 v 2 = nI a ∧ (s 3).2 v 3 = 0 ∧ a ≤ (s 5).1 ∧ ∀ g, a ≤ g → g < (s 5).1 → rgr s ((s 1).1 - 1) false (s 5) g 0 1
/-- an item is open: its code from fr on has left what the stack waits for, and x above that -/
def cx (s : Ts) (fr : Nat) (x : List Bool) : Prop := (1 ≤ (s 1).1 ∧ fr ≤ (s 0).1) ∧ sk (s 11) ∧ kst (s 0) fr ((s 0).1 - fr) = some (x ++ flat (s 11) (s 11).1) ∧ (∀ p, fr ≤ p → p < (s 0).1 → cref s p) ∧ (so (s 11) 0 = 42 → gvn s)
/-- the stack's top as a number -/
def tq (s : Ts) : Nat := so (s 11) ((s 11).1 - 1)
def tm (s : Ts) : Nat := (tn s).toNatClampNeg
section Items
variable {s : Ts} {fr : Nat} {x x' : List Bool}
theorem tq_of {k : Nat} (h : tt s = nI k) (hk : k < 54) : tq s = k := by
  show (tt s).toNatClampNeg = k
  rw [h]
  exact nI_cl hk
theorem cx.top (h : cx s fr x) : tt s = nI (tq s) ∧ tq s < 54 ∧ nok (tq s) (tn s) ∧ (40 ≤ tq s → tq s ≤ 43 → (s 11).1 = 1) ∧ ((tq s < 40 ∨ 43 < tq s) → 2 ≤ (s 11).1 ∧ sok (so (s 11) ((s 11).1 - 2)) (tq s)) := by
  obtain ⟨-, ⟨h1, h2, h3⟩, -⟩ := h
  obtain ⟨a, b, c, d⟩ := h3 ((s 11).1 - 1) (by omega)
  refine ⟨a, b, d, fun z1 z2 => ?_, fun z => ?_⟩
  · by_cases hn : (s 11).1 = 1
    · exact hn
    · exfalso
      have := c (by omega)
      unfold tq at z1 z2
      unfold sok at this
      omega
  · have hn : 2 ≤ (s 11).1 := by
      by_cases hn : 2 ≤ (s 11).1
      · exact hn
      · exfalso
        have e : (s 11).1 - 1 = 0 := by omega
        unfold tq at z
        rw [e] at z
        omega
    refine ⟨hn, ?_⟩
    have := c (by omega)
    rw [show (s 11).1 - 1 - 1 = (s 11).1 - 2 by omega] at this
    exact this
/-- the stack is another one -/
theorem cx.stack (h : cx s fr x) {t : Tb} (hk : sk t ∧ ∀ k, t.2 0 k = (s 11).2 0 k) (hf : x' ++ flat t t.1 = x ++ flat (s 11) (s 11).1) : cx (fu s 11 t) fr x' := by
  obtain ⟨h1, h2, h3, h4, h5⟩ := h
  refine ⟨h1, hk.1, ?_, h4, fun z => ?_⟩
  · show kst (s 0) fr ((s 0).1 - fr) = some (x' ++ flat t t.1)
    rw [hf]
    exact h3
  · have z2 : so t 0 = 42 := z
    obtain ⟨v, a, g1, g2⟩ := h5 (by unfold so; rw [← hk.2 0]; exact z2)
    exact ⟨v, a, (hk.2 1).trans g1, g2⟩
/-- an operator behind its parts, the stack another one -/
theorem cx.emit (h : cx s fr x) {o : Nat} {arg : Int32} {R : List Bool} {t : Tb} (ho : o < 54) (ho2 : o ≠ 2 ∧ o ≠ 3) (hL : x ++ flat (s 11) (s 11).1 = kin o arg.toNatClampNeg ++ R) (hk : sk t ∧ ∀ k, t.2 0 k = (s 11).2 0 k) (hf : x' ++ flat t t.1 = decide (32 ≤ o) :: R) : cx (fu (tp 0 s (nI o) arg 0 0) 11 t) fr x' := by
  obtain ⟨⟨h1, h1'⟩, h2, h3, h4, h5⟩ := h
  refine ⟨⟨h1, ?_⟩, hk.1, ?_, fun p hp1 hp2 => ?_, fun z => ?_⟩
  · show fr ≤ (tp 0 s (nI o) arg 0 0 0).1
    rw [tp_n]
    omega
  · show kst (tput 2 (s 0) (nI o) arg 0 0) fr ((tput 2 (s 0) (nI o) arg 0 0).1 - fr) = some (x' ++ flat t t.1)
    rw [hf, kst_put (L := x ++ flat (s 11) (s 11).1) (R := R) (by decide) h1' h3 (by rw [nI_cl ho]; exact hL), nI_cl ho]
  · show ((tp 0 s (nI o) arg 0 0 0).2 p 0 = 2 ∨ (tp 0 s (nI o) arg 0 0 0).2 p 0 = 3) → ∃ r, (tp 0 s (nI o) arg 0 0 0).2 p 1 = nI r ∧ sp s ((s 1).1 - 1) 6 ≤ r ∧ r < (s 9).1
    have hp2 : p < (tp 0 s (nI o) arg 0 0 0).1 := hp2
    rw [tp_n] at hp2
    by_cases hp3 : p < (s 0).1
    · rw [tp_lt hp3, tp_lt hp3]
      exact h4 p hp1 hp3
    · have : p = (s 0).1 := by omega
      subst this
      rw [tp_new (show 0 < 2 by decide)]
      intro z
      exfalso
      have e : (nI o).toNatClampNeg = o := nI_cl ho
      rcases z with z | z
      · have z : nI o = 2 := z
        rw [z] at e
        exact ho2.1 e.symm
      · have z : nI o = 3 := z
        rw [z] at e
        exact ho2.2 e.symm
  · have z2 : so t 0 = 42 := z
    obtain ⟨v, a, g1, g2, g3, g4, g5, g6, g7, g8, g9⟩ := h5 (by unfold so; rw [← hk.2 0]; exact z2)
    refine ⟨v, a, (hk.2 1).trans g1, g2, g3, g4, g5, g6, g7, g8, fun g hg1 hg2 => ?_⟩
    obtain ⟨p, q, e1, e2, e3⟩ := g9 g hg1 hg2
    exact ⟨p, q, e1, e2, (ex_tp (s := s) (j := 0) (a := nI o) (b := arg) (c := 0) (e := 0) (by decide)).rgk (show (s 1).1 - 1 < (s 1).1 by omega) e3⟩
theorem cx.push {w : Nat} {v : Int32} (h : cx s fr (want w v.toNatClampNeg)) (hw : w < 54) (hs : sok (tq s) w) (hn : nok w v) : cx (tp 11 s (nI w) v 0 0) fr [] ∧ tq (tp 11 s (nI w) v 0 0) = w := by
  refine ⟨h.stack (t := tput 2 (s 11) (nI w) v 0 0) (h.2.1.push hw hs hn) ?_, ?_⟩
  · rw [List.nil_append]
    show flat (tput 2 (s 11) (nI w) v 0 0) ((s 11).1 + 1) = _
    rw [flat_push, nI_cl hw]
  · show ((tp 11 s (nI w) v 0 0 11).2 ((tp 11 s (nI w) v 0 0 11).1 - 1) 0).toNatClampNeg = w
    rw [tp_n, Nat.add_sub_cancel, tp_new (show 0 < 2 by decide)]
    exact nI_cl hw
theorem cx.drop (h : cx s fr x) (h2 : 2 ≤ (s 11).1) : cx (td s) fr (x ++ want (tq s) (tm s)) ∧ tq (td s) = so (s 11) ((s 11).1 - 2) := by
  refine ⟨h.stack (t := tcut (s 11) ((s 11).1 - 1)) (h.2.1.cut h2) ?_, ?_⟩
  · show (x ++ want (tq s) (tm s)) ++ flat (tcut (s 11) ((s 11).1 - 1)) ((s 11).1 - 1) = x ++ flat (s 11) (s 11).1
    rw [flat_cut, flat_top (t := s 11) (by omega), List.append_assoc]
    rfl
  · show ((if (s 11).1 - 1 - 1 < (s 11).1 - 1 then (s 11).2 ((s 11).1 - 1 - 1) 0 else 0)).toNatClampNeg = ((s 11).2 ((s 11).1 - 2) 0).toNatClampNeg
    rw [if_pos (by omega)]
    rfl
theorem cx.turn (h : cx s fr x) {c : Nat} {v : Int32} (h2 : 2 ≤ (s 11).1) (hc : c < 54) (hs : sok (so (s 11) ((s 11).1 - 2)) c) (hn : nok c v) (hx : x ++ want (tq s) (tm s) = x' ++ want c v.toNatClampNeg) : cx (fu s 11 (trn (s 11) (nI c) v)) fr x' ∧ tq (fu s 11 (trn (s 11) (nI c) v)) = c := by
  refine ⟨h.stack (h.2.1.turn h2 hc hs hn) ?_, ?_⟩
  · show x' ++ flat (trn (s 11) (nI c) v) (s 11).1 = x ++ flat (s 11) (s 11).1
    rw [flat_turn (by omega), flat_top (t := s 11) (by omega), nI_cl hc, ← List.append_assoc, ← List.append_assoc, ← hx]
    rfl
  · show ((trn (s 11) (nI c) v).2 ((s 11).1 - 1) 0).toNatClampNeg = c
    rw [turn_0 (by omega)]
    exact nI_cl hc
/-- an operator takes its parts, its row is dropped -/
theorem cx.close (h : cx s fr x) {o : Nat} {arg : Int32} (h2 : 2 ≤ (s 11).1) (ho : o < 54) (ho2 : o ≠ 2 ∧ o ≠ 3) (hx : x ++ want (tq s) (tm s) = kin o arg.toNatClampNeg) : cx (td (tp 0 s (nI o) arg 0 0)) fr [decide (32 ≤ o)] ∧ tq (td (tp 0 s (nI o) arg 0 0)) = so (s 11) ((s 11).1 - 2) := by
  refine ⟨h.emit (t := tcut (s 11) ((s 11).1 - 1)) (R := flat (s 11) ((s 11).1 - 1)) ho ho2 ?_ (h.2.1.cut h2) ?_, ?_⟩
  · rw [flat_top (t := s 11) (by omega), ← List.append_assoc, ← hx]
    rfl
  · show [decide (32 ≤ o)] ++ flat (tcut (s 11) ((s 11).1 - 1)) ((s 11).1 - 1) = _
    rw [flat_cut]
    rfl
  · show ((if (s 11).1 - 1 - 1 < (s 11).1 - 1 then (s 11).2 ((s 11).1 - 1 - 1) 0 else 0)).toNatClampNeg = ((s 11).2 ((s 11).1 - 2) 0).toNatClampNeg
    rw [if_pos (by omega)]
    rfl
theorem td_tp0 {a b c e : Int32} : tp 0 (td s) a b c e = td (tp 0 s a b c e) := by
  funext i
  unfold tp td
  by_cases h0 : i = 0
  · subst h0; rfl
  · by_cases h1 : i = 11
    · subst h1; rfl
    · rw [fu_ne _ _ h0, fu_ne _ _ h1, fu_ne _ _ h1, fu_ne _ _ h0]
/-- a leaf that names nothing -/
theorem cx.leaf (h : cx s fr []) {o : Nat} {arg : Int32} (ho : o ≤ 1) : cx (tp 0 s (nI o) arg 0 0) fr [false] ∧ tq (tp 0 s (nI o) arg 0 0) = tq s := by
  have e : fu (tp 0 s (nI o) arg 0 0) 11 (s 11) = tp 0 s (nI o) arg 0 0 := by
    funext i
    by_cases h1 : i = 11
    · subst h1; rfl
    · exact fu_ne _ _ h1
  refine ⟨?_, rfl⟩
  rw [← e]
  refine h.emit (R := flat (s 11) (s 11).1) (by omega) ⟨by omega, by omega⟩ ?_ ⟨h.2.1, fun _ => rfl⟩ ?_
  · unfold kin
    rw [if_pos (by omega)]
  · rw [decide_eq_false (by omega)]
    rfl
/-- a leaf that names something: its NAMES are kept behind it -/
theorem cx.name (h : cx s fr []) (hc : Cm s) {o : Nat} {s' : Ts} (ho : o = 2 ∨ o = 3) (hb : (s 9).1 < 2147483648) (e0 : s' 0 = tput 2 (s 0) (nI o) (nI (s 9).1) 0 0) (e9 : (s' 9).1 = (s 9).1 + 1) (e10 : (s 10).1 ≤ (s' 10).1) (e : ∀ j, j ≠ 0 → j ≠ 9 → j ≠ 10 → s' j = s j) : cx s' fr [false] ∧ tq s' = tq s := by
  have e1 := e 1 (by decide) (by decide) (by decide)
  have e11 := e 11 (by decide) (by decide) (by decide)
  have e3 := e 3 (by decide) (by decide) (by decide)
  have e5 := e 5 (by decide) (by decide) (by decide)
  have x : ex s s' := by
    refine ⟨fun j => ?_, e1, fun p c hp => ?_, fun p c _ => by rw [e5]⟩
    · by_cases h0 : j = 0
      · subst h0
        rw [e0]
        exact Nat.le_succ _
      · by_cases h9 : j = 9
        · subst h9; omega
        · by_cases h10 : j = 10
          · subst h10; exact e10
          · rw [e j h0 h9 h10]
            exact Nat.le_refl _
    · rw [e0]
      exact if_neg (by omega)
  obtain ⟨⟨h1, h1'⟩, h2, h3, h4, h5⟩ := h
  have hK : (s 1).1 - 1 < (s 1).1 := by omega
  have ho5 : (nI o).toNatClampNeg = o := nI_cl (by omega)
  refine ⟨⟨⟨by rw [e1]; exact h1, Nat.le_trans h1' (x.1 0)⟩, by rw [e11]; exact h2, ?_, fun p hp1 hp2 => ?_, fun z => ?_⟩, by unfold tq; rw [e11]⟩
  · rw [e0, e11, kst_put (L := [] ++ flat (s 11) (s 11).1) (R := flat (s 11) (s 11).1) (by decide) h1' h3 ?_, ho5, decide_eq_false (by omega)]
    · rfl
    · rw [ho5]
      unfold kin
      rw [if_pos (by omega)]
  · unfold cref
    rw [e1, x.spq hK, e9]
    by_cases hp3 : p < (s 0).1
    · rw [x.2.2.1 p 0 hp3, x.2.2.1 p 1 hp3]
      intro z
      obtain ⟨r, r1, r2, r3⟩ := h4 p hp1 hp3 z
      exact ⟨r, r1, r2, by omega⟩
    · rw [e0] at hp2 ⊢
      have hp2 : p < (s 0).1 + 1 := hp2
      have : p = (s 0).1 := by omega
      subst this
      intro _
      refine ⟨(s 9).1, if_pos rfl, hc.last (c := 6) (by decide) (by decide), by omega⟩
  · rw [e11] at z
    obtain ⟨v, a, g1, g2, g3, g4, g5, g6, g7, g8, g9⟩ := h5 z
    refine ⟨v, a, by rw [e11]; exact g1, g2, by rw [e3]; exact g3, by rw [e1, x.spq hK]; exact g4, by rw [e3]; exact g5, by rw [e3]; exact g6, by rw [e3]; exact g7, by rw [e5]; exact g8, fun g hg1 hg2 => ?_⟩
    rw [e5] at hg2
    obtain ⟨p, q, f1, f2, f3⟩ := g9 g hg1 hg2
    exact ⟨p, q, by rw [e5]; exact f1, by rw [e5]; exact f2, by rw [e1]; exact x.rgk hK f3⟩
/-- an item has ended: its code is closed -/
theorem cx.closed {kd : Bool} (h : cx s fr [kd]) (h40 : 40 ≤ tq s) (h43 : tq s ≤ 43) : (s 11).1 = 1 ∧ rg s ((s 1).1 - 1) kd fr (s 0).1 := by
  have hn := h.top.2.2.2.1 h40 h43
  obtain ⟨⟨h1, h1'⟩, h2, h3, h4, h5⟩ := h
  refine ⟨hn, h1', Nat.le_refl _, ?_, fun p hp1 hp2 ho => ?_⟩
  · rw [h3, hn]
    have e : so (s 11) 0 = tq s := by unfold tq; rw [hn]
    have hw : want (so (s 11) 0) ((s 11).2 0 1).toNatClampNeg = [] := by
      unfold want
      rw [if_neg (by omega), if_neg (by omega), if_neg (by omega), if_neg (by omega), if_neg (by omega), if_neg (by omega), if_neg (by omega)]
    show some ([kd] ++ (want (so (s 11) 0) ((s 11).2 0 1).toNatClampNeg ++ [])) = _
    rw [hw]
    rfl
  · obtain ⟨r, r1, r2, r3⟩ := h4 p hp1 hp2 ho
    refine ⟨r, r1, r2, ?_⟩
    unfold sp
    rw [if_neg (by omega)]
    exact r3
/-- an item is begun -/
theorem cx_start {c : Nat} {v : Int32} (h1 : 1 ≤ (s 1).1) (h0 : (s 11).1 = 0) (hc : 40 ≤ c ∧ c ≤ 43) (hg : c = 42 → gvn (tp 11 s (nI c) v 0 0)) : cx (tp 11 s (nI c) v 0 0) (s 0).1 [] ∧ tq (tp 11 s (nI c) v 0 0) = c := by
  have n1 : (tp 11 s (nI c) v 0 0 11).1 = 1 := by rw [tp_n, h0]
  have z0 : (tp 11 s (nI c) v 0 0 11).2 0 0 = nI c := by
    have := tp_new (s := s) (j := 11) (a := nI c) (b := v) (c := 0) (e := 0) (k := 0) (by decide)
    rw [h0] at this
    exact this
  have z1 : so (tp 11 s (nI c) v 0 0 11) 0 = c := by unfold so; rw [z0]; exact nI_cl (by omega)
  refine ⟨⟨⟨h1, Nat.le_refl _⟩, ⟨by omega, by omega, fun i hi => ?_⟩, ?_, fun p hp1 hp2 => ?_, fun z => hg (by omega)⟩, ?_⟩
  · have : i = 0 := by omega
    subst this
    rw [z1]
    exact ⟨z0, by omega, fun z => by omega, fun z => by omega, fun z => by omega, fun z => by omega⟩
  · show kst (s 0) (s 0).1 ((s 0).1 - (s 0).1) = _
    rw [Nat.sub_self, n1]
    show some [] = some ([] ++ (want (so (tp 11 s (nI c) v 0 0 11) 0) _ ++ []))
    rw [z1]
    have hw : ∀ k, want c k = [] := fun k => by
      unfold want
      rw [if_neg (by omega), if_neg (by omega), if_neg (by omega), if_neg (by omega), if_neg (by omega), if_neg (by omega), if_neg (by omega)]
    rw [hw]
    rfl
  · have : p < (s 0).1 := hp2
    omega
  · unfold tq
    rw [n1]
    exact z1
/-- one more thing is given, and another follows -/
theorem cx.given (h : cx s fr [false]) (hq : tq s = 42) : cx (tp 5 s (nI fr) (nI (s 0).1) 0 0) (s 0).1 [] ∧ tq (tp 5 s (nI fr) (nI (s 0).1) 0 0) = 42 := by
  obtain ⟨hn, hr⟩ := h.closed (by omega) (by omega)
  obtain ⟨⟨h1, h1'⟩, h2, h3, h4, h5⟩ := h
  have e : so (s 11) 0 = tq s := by unfold tq; rw [hn]
  have x : ex s (tp 5 s (nI fr) (nI (s 0).1) 0 0) := ex_tp (by decide)
  have hK : (s 1).1 - 1 < (s 1).1 := by omega
  refine ⟨⟨⟨h1, Nat.le_refl _⟩, h2, ?_, fun p hp1 hp2 => ?_, fun _ => ?_⟩, hq⟩
  · show kst (s 0) (s 0).1 ((s 0).1 - (s 0).1) = some ([] ++ flat (s 11) (s 11).1)
    rw [Nat.sub_self, hn]
    show some [] = some ([] ++ (want (so (s 11) 0) _ ++ []))
    have hw : ∀ k, want 42 k = [] := fun k => rfl
    rw [e, hq, hw]
    rfl
  · have : p < (s 0).1 := hp2
    omega
  · obtain ⟨v, a, g1, g2, g3, g4, g5, g6, g7, g8, g9⟩ := h5 (by omega)
    refine ⟨v, a, g1, g2, g3, g4, g5, g6, g7, by rw [tp_n]; omega, fun g hg1 hg2 => ?_⟩
    rw [tp_n] at hg2
    by_cases hg3 : g < (s 5).1
    · obtain ⟨p, q, f1, f2, f3⟩ := g9 g hg1 hg3
      exact ⟨p, q, by rw [tp_lt hg3]; exact f1, by rw [tp_lt hg3]; exact f2, x.rgk hK f3⟩
    · have : g = (s 5).1 := by omega
      subst this
      exact ⟨fr, (s 0).1, by rw [tp_new (show 0 < 2 by decide)]; rfl, by rw [tp_new (show 1 < 2 by decide)]; rfl, x.rgk hK hr⟩
end Items
