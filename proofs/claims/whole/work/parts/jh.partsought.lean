/-! SPQ of the parts of a SPEC that is shown -/
section PartsSought
variable {Y : Ts} {a j n N k s R i0 nn : Nat} {es rs : Nat → Int32} {C : Nat → Nat} {A B : Nat → Prop} {S : Nat → Int32} {o b p : Nat} {al x : Int32} {L : List Bool}
theorem jok_tmd (h : jok S o b p al x) (ht : tmd o) : ∀ q, b ≤ q → q < b + p → S q = 1 ∨ S q = 9 := by
  rcases h with h | h | h | h | h | h
  · exact h.2.2.2
  · exact absurd ht h.1.1
  · have := h.1
    rcases ht with t | t | t <;> omega
  · have := h.1
    rcases ht with t | t | t <;> omega
  · have := h.1
    rcases ht with t | t | t <;> omega
  · have := h.1
    rcases ht with t | t | t <;> omega
theorem one_false (h : L.length = 1) (hn : ¬ true ∈ L) : L = [false] := by
  match L, h with
  | [y], _ =>
    cases y
    · rfl
    · exact absurd (List.mem_singleton.mpr rfl) hn
theorem ctn_shift {q : Nat} : ∀ k, (∀ i, i < k → A i → B (i + q)) → ctn A k ≤ ctn B (k + q)
  | 0, _ => Nat.zero_le _
  | k + 1, h => by
    have ih := ctn_shift k (fun i hi => h i (by omega))
    rw [show k + 1 + q = k + q + 1 by omega]
    show ctn A k + @ite Nat (A k) (Classical.propDecidable _) 1 0 ≤ ctn B (k + q) + @ite Nat (B (k + q)) (Classical.propDecidable _) 1 0
    by_cases c : A k
    · rw [if_pos c, if_pos (h k (by omega) c)]
      omega
    · rw [if_neg c]
      omega
theorem SBC.sl (h : SBC Y a j N) : ∀ n, j + n ≤ N → ∀ k, k < tpz Y a j → stk Y rs a (j + n) k = stk Y rs a j k
  | 0, _, _, _ => rfl
  | n + 1, hn, k, hk => by
    have ih := SBC.sl h n (by omega) k hk
    have h1 := h.2.1 (j + n) (by omega)
    have h2 := h.2.2 (j + n + 1) (by omega) (by omega)
    rw [tpz_s] at h2
    show (if k = tpz Y a (j + n) - plen (oc Y (a + (j + n))) (oa Y (a + (j + n))) then _ else stk Y rs a (j + n) k) = _
    rw [if_neg (by omega)]
    exact ih
theorem SPQ.root (h : SPQ Y es R C a (nn + 1) i0 0) : bse Y a nn = 0 ∧ (∀ n, n < nn + 1 → oc Y (a + n) < 32) ∧ a + nn + 1 ≤ (Y 0).1 := by
  obtain ⟨rs, cst, ⟨⟨hr, -, -⟩, -, -⟩, -⟩ := h
  have r3 := hr.2.2.1
  rw [Nat.add_sub_cancel_left] at r3
  have t1 : 1 = tpz Y a (nn + 1) := kst_tp r3
  have e : tpz Y a (nn + 1) = bse Y a nn + 1 := rfl
  exact ⟨by omega, fun n hn => (rg_n (n := n) hr (by omega)).2 rfl, by have := hr.2.1; omega⟩
/-- the part of an operator with one part -/
theorem SPQ.un (h : SPQ Y es R C a (nn + 1) i0 0) (ho : plen (oc Y (a + nn)) (oa Y (a + nn)) = 1) (htm : tmd (oc Y (a + nn))) : SPQ Y es R C a nn i0 0 := by
  have hb := h.root.1
  obtain ⟨rs, cst, ⟨⟨hr, hs, hi⟩, ⟨hY, hC, h1, hin⟩, h120⟩, hle, hroot, hc, hc0, hC26⟩ := h
  have hpl := (rg_n (n := nn) hr (by omega)).1
  obtain ⟨r1, r2, r3, r4⟩ := hr
  rw [Nat.add_sub_cancel_left] at r3
  have e : bse Y a nn = tpz Y a nn - plen (oc Y (a + nn)) (oa Y (a + nn)) := rfl
  have hn1 := tpz_b Y a nn
  obtain ⟨L', e1⟩ := kst_le r3 (show nn ≤ nn + 1 by omega)
  have hL : L' = [false] := one_false ((kst_tp e1).trans (by omega)) (kst_true r3 (x := 1) (n := nn) rfl e1)
  refine ⟨rs, cst, ⟨⟨⟨by omega, by omega, by rw [Nat.add_sub_cancel_left, e1, hL], fun p p1 p2 => r4 p p1 (by omega)⟩, fun n hn => hs n (by omega), hi⟩, ⟨hY, hC, by omega, hin⟩, fun n hn => h120 n (by omega)⟩, fun n hn => hle n (by omega), ?_, fun n hn => hc n (by omega), hc0, by omega⟩
  exact jok_tmd ((hs nn (by omega)).2.2 (by omega)) htm 0 (by omega) (by omega)
/-- the two parts of E [ ] -/
theorem SPQ.eu (h : SPQ Y es R C a (nn + 1) i0 0) (ho : plen (oc Y (a + nn)) (oa Y (a + nn)) = 2) (htm : tmd (oc Y (a + nn))) : ∃ j, EUP Y a nn j ∧ SPQ Y es R C a j i0 1 ∧ SPQ Y es R C (a + j) (nn - j) i0 0 := by
  have hb := h.root.1
  obtain ⟨rs, cst, ⟨⟨hr, hs, hi⟩, ⟨hY, hC, h1, hin⟩, h120⟩, hle, hroot, hc, hc0, hC26⟩ := h
  have hpl := fun n hn => (rg_n (n := n) hr (show n < a + (nn + 1) - a by omega)).1
  have hp2 := hpl nn (by omega)
  obtain ⟨r1, r2, r3, r4⟩ := hr
  rw [Nat.add_sub_cancel_left] at r3
  have e : bse Y a nn = tpz Y a nn - plen (oc Y (a + nn)) (oa Y (a + nn)) := rfl
  obtain ⟨j, j1, j2, j3⟩ := part_ex (Y := Y) (a := a) (n := nn) (by omega)
  have hB : SBC Y a j nn := ⟨by omega, fun q hq => hpl q (by omega), fun q q1 q2 => by have := j3 q q1 q2; omega⟩
  have hen : j + (nn - j) = nn := by omega
  have et := hB.tp (nn - j) (by omega)
  rw [hen] at et
  have hjb := tpz_b Y a j
  obtain ⟨LN, eN⟩ := kst_le r3 (show nn ≤ nn + 1 by omega)
  have hLN := kst_true r3 (x := 1) (n := nn) rfl eN
  obtain ⟨L', e1⟩ := kst_le r3 (show j ≤ nn + 1 by omega)
  have hL : L' = [false] := one_false ((kst_tp e1).trans (by omega)) (kst_true r3 (x := nn + 1 - j) (n := j) (by omega) e1)
  obtain ⟨L2, e2, e3⟩ := hB.ks eN e1 (nn - j) (by omega)
  rw [hen] at e3
  have hL2 : L2 = [false] := one_false ((kst_tp e2).trans (by omega)) (fun y => kst_true r3 (x := 1) (n := nn) rfl e3 (List.mem_append_left _ y))
  have hjk := jok_tmd ((hs nn (by omega)).2.2 (by omega)) htm
  have hdown : ∀ n, n ≤ nn + 1 → cst n ≤ cst 0 := by
    intro n
    induction n with
    | zero => exact fun _ => Nat.le_refl _
    | succ n ih => exact fun hn => by have := ih (by omega); have := hc n (by omega); omega
  refine ⟨j, ⟨by omega, j1, j2, j3⟩, ⟨rs, cst, ⟨⟨⟨by omega, by omega, by rw [Nat.add_sub_cancel_left, e1, hL], fun p p1 p2 => r4 p p1 (by omega)⟩, fun n hn => hs n (by omega), hi⟩, ⟨hY, hC, by omega, Nat.le_refl _⟩, fun n hn => h120 n (by omega)⟩, fun n hn => hle n (by omega), ?_, fun n hn => hc n (by omega), hc0, by omega⟩, ⟨fun n => rs (j + n), fun n => cst (j + n), ⟨⟨⟨by omega, by omega, by rw [Nat.add_sub_cancel_left, e2, hL2], fun p p1 p2 => r4 p (by omega) (by omega)⟩, hB.srt (fun n hn => hs n (by omega)) (by omega), hi⟩, ⟨hY, hC, by omega, hin⟩, fun n hn k hk => ?_⟩, fun n hn => ?_, ?_, fun n hn => ?_, ?_, by omega⟩⟩
  · have z := hB.sl (rs := rs) (nn - j) (by omega) 0 (by omega)
    rw [hen] at z
    rw [← z]
    exact hjk 0 (by omega) (by omega)
  · have ht := hB.tp n (by omega)
    exact Nat.le_trans (ctn_shift k (fun i hi y => (hB.tm n (by omega) i (by omega)).mp y)) (h120 (j + n) (by omega) (k + tpz Y a j) (by omega))
  · rw [Nat.add_assoc a j n]
    exact hle (j + n) (by omega)
  · have z := hB.sk (rs := rs) (nn - j) (by omega) 0 (by omega)
    rw [hen] at z
    rw [z]
    exact hjk (0 + tpz Y a j) (by omega) (by omega)
  · rw [Nat.add_assoc a j n]
    exact hc (j + n) (by omega)
  · have := hdown j (by omega)
    exact Nat.le_trans (Nat.add_le_add_right (show cst (j + 0) ≤ cst 0 from this) 24) hc0
end PartsSought
