/-! A truth that is an outer |: it is true where one of its sides is (printed from f0q by substitution) -/
section SplitO
variable {U : Ud} {Y : Ts} {a j N n k i0 P m s t : Nat} {lv rs : Nat → Int32} {al : Int32} {es : Nat → Int32} {f od : Nat → Nat}
theorem or_split (hK : KNV m U Y P f od es) (hi : i0 < (Y 11).1) (h : rg Y (im Y i0) false a (a + (n + 1))) (ho : oc Y (a + n) = 6) (hs : SRT Y es i0 1 a rs (n + 1)) (hst : stk Y rs a (n + 1) 0 = 1) : ∃ j, 0 < j ∧ j < n ∧ tpz Y a n = 2 ∧ tpz Y a j + 1 = tpz Y a n ∧ (∀ q, j < q → q ≤ n → tpz Y a n ≤ tpz Y a q) ∧ (rg Y (im Y i0) false a (a + j) ∧ SRT Y es i0 1 a rs j ∧ stk Y rs a j 0 = 1) ∧ (rg Y (im Y i0) false (a + j) (a + n) ∧ SRT Y es i0 1 (a + j) (fun q => rs (j + q)) (n - j) ∧ stk Y (fun q => rs (j + q)) (a + j) (n - j) 0 = 1) ∧ ∀ s t, (¬ trs Y U f P od i0 a (n + 1) s t = 0 ↔ ¬ trs Y U f P od i0 a j s t = 0 ∨ ¬ trs Y U f P od i0 (a + j) (n - j) s t = 0) := by
  have hpl : plen (oc Y (a + n)) (oa Y (a + n)) = 2 := by rw [ho]; rfl
  obtain ⟨j, j0, j1, h2, hj1, j3, hS, r1, r2⟩ := two_parts h hpl
  have hT := hS.tp (n - j) (by omega)
  rw [show j + (n - j) = n by omega] at hT
  have hE := rg_E h
  have hEn : ∀ q, q < n → oc Y (a + q) < 32 := fun q hq => hE q (by omega)
  -- SORTS of the sides
  have hrn : rs n = 1 := by
    have y : stk Y rs a (n + 1) 0 = rs n := if_pos (by rw [h2, hpl])
    rw [← y]
    exact hst
  have hsd : ∀ q, q < 2 → stk Y rs a n q = 1 := by
    obtain ⟨-, -, y3⟩ := hs n (by omega)
    have y := y3 (by omega)
    rw [hpl, h2, ho, hrn] at y
    rcases y with ⟨z1, -⟩ | ⟨-, -, z3⟩ | ⟨z1, -⟩ | ⟨z1, -⟩ | ⟨z1, -⟩ | ⟨z1, -⟩
    · exact absurd z1 (by unfold tmd; decide)
    · rcases z3 with ⟨-, z4⟩ | ⟨z4, -⟩
      · exact fun q hq => z4 q (by omega) (by omega)
      · exact absurd z4 (by decide)
    · exact absurd z1 (by decide)
    · exact absurd z1 (by decide)
    · exact absurd z1 (by decide)
    · exact absurd z1 (by decide)
  have hk0 : stk Y rs a j 0 = 1 := by
    have key : ∀ q, j + q ≤ n → stk Y rs a (j + q) 0 = stk Y rs a j 0 := by
      intro q
      induction q with
      | zero => intro _; rfl
      | succ q ih =>
        intro hq
        have y1 := hS.2.1 (j + q) (by omega)
        have y2 := hS.2.2 (j + q + 1) (by omega) (by omega)
        rw [tpz_s] at y2
        show (if 0 = tpz Y a (j + q) - plen (oc Y (a + (j + q))) (oa Y (a + (j + q))) then _ else stk Y rs a (j + q) 0) = _
        rw [if_neg (by omega)]
        exact ih (by omega)
    have y := key (n - j) (by omega)
    rw [show j + (n - j) = n by omega, hsd 0 (by omega)] at y
    exact y.symm
  have hk1 : stk Y (fun q => rs (j + q)) (a + j) (n - j) 0 = 1 := by
    rw [hS.sk (n - j) (by omega) 0 (by omega), show j + (n - j) = n by omega, hj1]
    exact hsd 1 (by omega)
  have s1 : SRT Y es i0 1 a rs j := fun q hq => hs q (by omega)
  have s2 : SRT Y es i0 1 (a + j) (fun q => rs (j + q)) (n - j) := hS.srt (N := n) (fun q hq => hs q (by omega)) (by omega)
  refine ⟨j, j0, j1, h2, by omega, j3, ⟨r1, s1, hk0⟩, ⟨r2, s2, hk1⟩, fun s t => ?_⟩
  have b1 := trs_01 (s := s) (t := t) hK r1 s1 (by decide) hk0
  have r2' : rg Y (im Y i0) false (a + j) (a + j + (n - j)) := by rw [show a + j + (n - j) = a + n by omega]; exact r2
  have b2 := trs_01 (s := s) (t := t) hK r2' s2 (by decide) hk1
  have e0 : trs Y U f P od i0 a (n + 1) s t = trs Y U f P od i0 a j s t ||| trs Y U f P od i0 (a + j) (n - j) s t := by
    unfold trs
    obtain ⟨lv, hlv⟩ : ∃ lv, lv = lvl Y (vst U f P s) (vst U f P t) (evz Y od (vst U f P s)) i0 := ⟨_, rfl⟩
    rw [← hlv]
    have e1 : svz Y lv a (n + 1) 0 = ro (svz Y lv a n) (nI 6) 0 2 := by
      show (if 0 = tpz Y a n - plen (oc Y (a + n)) (oa Y (a + n)) then (if oc Y (a + n) ≤ 3 then lv (a + n) else if oc Y (a + n) = 32 ∨ oc Y (a + n) = 33 then nI (snz Y a n) else ro (svz Y lv a n) (nI (oc Y (a + n))) (tpz Y a n - plen (oc Y (a + n)) (oa Y (a + n))) (tpz Y a n)) else svz Y lv a n 0) = _
      rw [hpl, h2, ho, if_pos rfl, if_neg (by decide), if_neg (by decide)]
    rw [e1]
    have e2 : ro (svz Y lv a n) (nI 6) 0 2 = svz Y lv a n 0 ||| svz Y lv a n 1 := rfl
    have e3 := hS.lo (lv := lv) (n - j) (by omega) 0 (by omega)
    rw [show j + (n - j) = n by omega] at e3
    have e4 := hS.sv (lv := lv) hEn (n - j) (by omega) 0 (by omega)
    rw [show j + (n - j) = n by omega, hj1] at e4
    rw [e2, e3, e4]
  rw [e0]
  rcases b1 with y | y <;> rcases b2 with y2 | y2 <;> rw [y, y2] <;> decide
end SplitO
