/-! LEAST PATHS: breadth first finds them -/
/-- a path of n steps from st through Th to To -/
def PTH (G : Nat → Nat → Prop) (Th To : Nat → Prop) (st n : Nat) (w : Nat → Nat) : Prop := 1 ≤ n ∧ w 0 = st ∧ (∀ j, j < n → G (w j) (w (j + 1))) ∧ (∀ j, 0 < j → j < n → Th (w j)) ∧ To (w n)
/-- where two paths differ first, the second is the greater one -/
def LXG (n : Nat) (w w' : Nat → Nat) : Prop := ∃ j, j ≤ n ∧ (∀ i, i < j → w' i = w i) ∧ w j < w' j
/-- none is shorter, and of those of its length it is the first -/
def LEA (G : Nat → Nat → Prop) (Th To : Nat → Prop) (st n : Nat) (w : Nat → Nat) : Prop := PTH G Th To st n w ∧ ∀ n' w', PTH G Th To st n' w' → n ≤ n' ∧ (n' = n → (∀ j, j ≤ n → w' j = w j) ∨ LXG n w w')
/-- breadth first as data: dn of the queue have been looked at -/
def LPD (G : Nat → Nat → Prop) (Th To : Nat → Prop) (st : Nat) (qu pp dp : Nat → Nat) (tl dn : Nat) : Prop :=
  (0 < tl ∧ qu 0 = st ∧ dp 0 = 0) ∧
  (∀ i j, i < tl → j < tl → qu i = qu j → i = j) ∧
  (∀ i, 0 < i → i < tl → Th (qu i) ∧ ¬ To (qu i) ∧ pp i < i ∧ pp i < dn ∧ G (qu (pp i)) (qu i) ∧ dp i = dp (pp i) + 1) ∧
  (∀ i j, 0 < i → i < j → j < tl → pp i < pp j ∨ (pp i = pp j ∧ qu i < qu j)) ∧
  ∀ i, i < dn → i < tl → ∀ t, G (qu i) t → Th t ∨ To t → ¬ To t ∧ (t = st ∨ ∃ j, 0 < j ∧ j < tl ∧ qu j = t ∧ pp j ≤ i)
/-- what has not been queued -/
def USN (To : Nat → Prop) (st : Nat) (qu : Nat → Nat) (tl s : Nat) : Prop := ¬ (s = st ∧ ¬ To st) ∧ ∀ i, 0 < i → i < tl → ¬ qu i = s
/-- the places in the queue along the way to k -/
def WYQ (pp dp a : Nat → Nat) (tl k : Nat) : Prop := a 0 = 0 ∧ a (dp k) = k ∧ ∀ j, j < dp k → 0 < a (j + 1) ∧ a (j + 1) < tl ∧ pp (a (j + 1)) = a j
section Least
variable {G : Nat → Nat → Prop} {Th To : Nat → Prop} {st tl dn k t n : Nat} {qu pp dp a W ls : Nat → Nat}
theorem LPD.mono (h : LPD G Th To st qu pp dp tl dn) : ∀ j, j < tl → ∀ i, i ≤ j → dp i ≤ dp j := by
  obtain ⟨⟨h0, hq0, hd0⟩, hinj, hc, hd, he⟩ := h
  intro j
  induction j using Nat.strongRecOn with
  | ind j ih =>
    intro hj i hi
    by_cases i0 : i = 0
    · rw [i0, hd0]; exact Nat.zero_le _
    · by_cases ij : i = j
      · rw [ij]; exact Nat.le_refl _
      · obtain ⟨-, -, y1, -, -, y2⟩ := hc i (by omega) (by omega)
        obtain ⟨-, -, z1, -, -, z2⟩ := hc j (by omega) hj
        have y3 : pp i ≤ pp j := by rcases hd i j (by omega) (by omega) hj with w | w <;> omega
        have := ih (pp j) z1 (by omega) (pp i) y3
        omega
theorem LPD.chain (h : LPD G Th To st qu pp dp tl dn) : ∀ k, k < tl → ∃ a, WYQ pp dp a tl k := by
  obtain ⟨⟨h0, hq0, hd0⟩, hinj, hc, hd, he⟩ := h
  intro k
  induction k using Nat.strongRecOn with
  | ind k ih =>
    intro hk
    by_cases k0 : k = 0
    · refine ⟨fun _ => 0, rfl, k0.symm, fun j hj => ?_⟩
      rw [k0, hd0] at hj
      exact absurd hj (Nat.not_lt_zero j)
    · obtain ⟨-, -, z1, -, -, z2⟩ := hc k (by omega) hk
      obtain ⟨a, a0, a1, a2⟩ := ih (pp k) z1 (by omega)
      refine ⟨fun j => if j = dp k then k else a j, ?_, if_pos rfl, fun j hj => ?_⟩
      · show (if 0 = dp k then k else a 0) = 0
        rw [if_neg (by omega)]; exact a0
      · show 0 < (if j + 1 = dp k then k else a (j + 1)) ∧ (if j + 1 = dp k then k else a (j + 1)) < tl ∧ pp (if j + 1 = dp k then k else a (j + 1)) = (if j = dp k then k else a j)
        have e2 : (if j = dp k then k else a j) = a j := if_neg (by omega)
        rw [e2]
        by_cases y : j + 1 = dp k
        · rw [if_pos y]
          exact ⟨by omega, hk, by rw [show j = dp (pp k) by omega]; exact a1.symm⟩
        · rw [if_neg y]
          exact a2 j (by omega)
theorem LPD.along (h : LPD G Th To st qu pp dp tl dn) (ha : WYQ pp dp a tl k) : ∀ d j, j + d = dp k → a j ≤ k ∧ (0 < d → a j < k) := by
  obtain ⟨⟨h0, hq0, hd0⟩, hinj, hc, hd, he⟩ := h
  obtain ⟨a0, a1, a2⟩ := ha
  intro d
  induction d with
  | zero =>
    intro j hj
    rw [show j = dp k by omega, a1]
    exact ⟨Nat.le_refl _, fun y => absurd y (Nat.lt_irrefl 0)⟩
  | succ d ih =>
    intro j hj
    have y := (ih (j + 1) (by omega)).1
    obtain ⟨z1, z2, z3⟩ := a2 j (by omega)
    have z4 := (hc _ z1 z2).2.2.1
    rw [z3] at z4
    exact ⟨by omega, fun _ => by omega⟩
/-- the first one of the goal ends a LEAST PATH -/
theorem LPD.found (h : LPD G Th To st qu pp dp tl k) (hk : k < tl) (ha : WYQ pp dp a tl k) (hg : G (qu k) t) (ht : To t) (hmin : ∀ s, s < t → G (qu k) s → ¬ To s) (hW1 : ∀ j, j ≤ dp k → W j = qu (a j)) (hW2 : W (dp k + 1) = t) : LEA G Th To st (dp k + 1) W := by
  have hmono := h.mono
  have halong := h.along ha
  obtain ⟨⟨h0, hq0, hd0⟩, hinj, hc, hd, he⟩ := h
  obtain ⟨a0, a1, a2⟩ := ha
  refine ⟨⟨by omega, by rw [hW1 0 (Nat.zero_le _), a0, hq0], fun j hj => ?_, fun j j0 hj => ?_, by rw [hW2]; exact ht⟩, fun n' w' hp => ?_⟩
  · by_cases y : j = dp k
    · rw [y, hW2, hW1 _ (Nat.le_refl _), a1]; exact hg
    · obtain ⟨z1, z2, z3⟩ := a2 j (by omega)
      rw [hW1 j (by omega), hW1 (j + 1) (by omega), ← z3]
      exact (hc _ z1 z2).2.2.2.2.1
  · obtain ⟨z1, z2, z3⟩ := a2 (j - 1) (by omega)
    rw [show j - 1 + 1 = j by omega] at z1 z2
    rw [hW1 j (by omega)]
    exact (hc _ z1 z2).1
  · obtain ⟨p0, p1, p2, p3, p4⟩ := hp
    have hpos : ∀ j, j < n' → j ≤ dp k → ∃ b, b < tl ∧ qu b = w' j ∧ dp b ≤ j := by
      intro j
      induction j with
      | zero => intro _ _; exact ⟨0, h0, by rw [hq0, p1], by rw [hd0]; exact Nat.le_refl _⟩
      | succ j ih =>
        intro j1 j2
        obtain ⟨b, b1, b2, b3⟩ := ih (by omega) (by omega)
        have b4 : b < k := Decidable.byContradiction (fun y => by have := hmono b b1 k (by omega); omega)
        have hg2 := p2 j (by omega)
        rw [← b2] at hg2
        obtain ⟨-, y | ⟨i, i1, i2, i3, i4⟩⟩ := he b b4 b1 _ hg2 (Or.inl (p3 (j + 1) (by omega) j1))
        · exact ⟨0, h0, by rw [hq0]; exact y.symm, by rw [hd0]; exact Nat.zero_le _⟩
        · refine ⟨i, i2, i3, ?_⟩
          have y1 := (hc i i1 i2).2.2.2.2.2
          have y2 := hmono b b1 (pp i) i4
          omega
    have hlen : dp k + 1 ≤ n' := Decidable.byContradiction (fun hn => by
      obtain ⟨b, b1, b2, b3⟩ := hpos (n' - 1) (by omega) (by omega)
      have b4 : b < k := Decidable.byContradiction (fun y => by have := hmono b b1 k (by omega); omega)
      have hg2 := p2 (n' - 1) (by omega)
      rw [← b2, show n' - 1 + 1 = n' by omega] at hg2
      exact (he b b4 b1 _ hg2 (Or.inr p4)).1 p4)
    refine ⟨hlen, fun hn => ?_⟩
    have hlex : ∀ j, j ≤ dp k → (∃ i, i ≤ j ∧ (∀ i', i' < i → w' i' = W i') ∧ W i < w' i) ∨ ∃ b, b < tl ∧ qu b = w' j ∧ (b < a j ∨ (b = a j ∧ ∀ i, i ≤ j → w' i = W i)) := by
      intro j
      induction j with
      | zero =>
        intro _
        exact Or.inr ⟨0, h0, by rw [hq0, p1], Or.inr ⟨a0.symm, fun i hi => by rw [show i = 0 by omega, p1, hW1 0 (Nat.zero_le _), a0, hq0]⟩⟩
      | succ j ih =>
        intro hj
        rcases ih (by omega) with ⟨i, i1, i2, i3⟩ | ⟨b, b1, b2, b3⟩
        · exact Or.inl ⟨i, by omega, i2, i3⟩
        · obtain ⟨z1, z2, z3⟩ := a2 j (by omega)
          have z4 := (halong (dp k - j) j (by omega)).2 (by omega)
          have b4 : b < k := by rcases b3 with y | y <;> omega
          have hg2 := p2 j (by omega)
          rw [← b2] at hg2
          obtain ⟨-, y | ⟨i, i1, i2, i3, i4⟩⟩ := he b b4 b1 _ hg2 (Or.inl (p3 (j + 1) (by omega) (by omega)))
          · exact Or.inr ⟨0, h0, by rw [hq0]; exact y.symm, Or.inl z1⟩
          · rcases Nat.lt_or_ge i (a (j + 1)) with y | y
            · exact Or.inr ⟨i, i2, i3, Or.inl y⟩
            · rcases Nat.eq_or_lt_of_le y with y2 | y2
              · -- the same place: it must be the same way
                rcases b3 with b5 | ⟨b5, b6⟩
                · rw [← y2, z3] at i4
                  omega
                · refine Or.inr ⟨i, i2, i3, Or.inr ⟨y2.symm, fun i' hi' => ?_⟩⟩
                  by_cases e : i' = j + 1
                  · rw [e, hW1 (j + 1) hj, y2]; exact i3.symm
                  · exact b6 i' (by omega)
              · rcases hd _ i z1 y2 i2 with y3 | ⟨y3, y4⟩
                · rw [z3] at y3
                  rcases b3 with b5 | ⟨b5, b6⟩ <;> omega
                · rw [z3] at y3
                  rcases b3 with b5 | ⟨b5, b6⟩
                  · omega
                  · refine Or.inl ⟨j + 1, Nat.le_refl _, fun i' hi' => b6 i' (by omega), ?_⟩
                    rw [hW1 (j + 1) hj, ← i3]
                    exact y4
    rcases hlex (dp k) (Nat.le_refl _) with ⟨i, i1, i2, i3⟩ | ⟨b, b1, b2, b3⟩
    · exact Or.inr ⟨i, by omega, i2, i3⟩
    · have hg2 := p2 (dp k) (by omega)
      rw [← b2] at hg2
      rw [hn] at p4
      rcases b3 with b4 | ⟨b4, b5⟩
      · rw [a1] at b4
        exact absurd p4 (he b b4 b1 _ hg2 (Or.inr p4)).1
      · rw [b4, a1] at hg2
        have y1 : t ≤ w' (dp k + 1) := Decidable.byContradiction (fun y => hmin _ (by omega) hg2 p4)
        rcases Nat.eq_or_lt_of_le y1 with y2 | y2
        · refine Or.inl (fun j hj => ?_)
          by_cases e : j = dp k + 1
          · rw [e, hW2]; exact y2.symm
          · exact b5 j (by omega)
        · exact Or.inr ⟨dp k + 1, Nat.le_refl _, fun i hi => b5 i (by omega), by rw [hW2]; exact y2⟩
/-- one more has been looked at -/
theorem LPD.step (h : LPD G Th To st qu pp dp tl k) (hk : k < tl) (hasc : ∀ i j, i < j → j < n → ls i < ls j) (hls : ∀ s, (∃ i, i < n ∧ ls i = s) ↔ G (qu k) s ∧ (Th s ∨ To s) ∧ USN To st qu tl s) (hno : ∀ i, i < n → ¬ To (ls i)) :
    LPD G Th To st (fun i => if i < tl then qu i else ls (i - tl)) (fun i => if i < tl then pp i else k) (fun i => if i < tl then dp i else dp k + 1) (tl + n) (k + 1) := by
  obtain ⟨⟨h0, hq0, hd0⟩, hinj, hc, hd, he⟩ := h
  have hold : ∀ i, i < tl → (fun i => if i < tl then qu i else ls (i - tl)) i = qu i ∧ (fun i => if i < tl then pp i else k) i = pp i ∧ (fun i => if i < tl then dp i else dp k + 1) i = dp i := fun i hi => ⟨if_pos hi, if_pos hi, if_pos hi⟩
  have hnew : ∀ i, ¬ i < tl → (fun i => if i < tl then qu i else ls (i - tl)) i = ls (i - tl) ∧ (fun i => if i < tl then pp i else k) i = k ∧ (fun i => if i < tl then dp i else dp k + 1) i = dp k + 1 := fun i hi => ⟨if_neg hi, if_neg hi, if_neg hi⟩
  generalize (fun i => if i < tl then qu i else ls (i - tl)) = qn at hold hnew ⊢
  generalize (fun i => if i < tl then pp i else k) = pn at hold hnew ⊢
  generalize (fun i => if i < tl then dp i else dp k + 1) = dn at hold hnew ⊢
  have hnin : ∀ i j, i < tl → j < n → ¬ qu i = ls j := fun i j hi hj e => by
    obtain ⟨-, -, y1, y2⟩ := (hls (ls j)).mp ⟨j, hj, rfl⟩
    by_cases i0 : i = 0
    · rw [i0, hq0] at e
      exact y1 ⟨e.symm, by rw [e]; exact hno j hj⟩
    · exact y2 i (by omega) hi e
  refine ⟨⟨by omega, by rw [(hold 0 h0).1]; exact hq0, by rw [(hold 0 h0).2.2]; exact hd0⟩, fun i j hi hj e => ?_, fun i i0 hi => ?_, fun i j i0 hij hj => ?_, fun i hi1 hi2 t hg hth => ?_⟩
  · by_cases y1 : i < tl <;> by_cases y2 : j < tl
    · rw [(hold i y1).1, (hold j y2).1] at e; exact hinj i j y1 y2 e
    · rw [(hold i y1).1, (hnew j y2).1] at e; exact absurd e (hnin i _ y1 (by omega))
    · rw [(hnew i y1).1, (hold j y2).1] at e; exact absurd e.symm (hnin j _ y2 (by omega))
    · rw [(hnew i y1).1, (hnew j y2).1] at e
      rcases Nat.lt_or_ge (i - tl) (j - tl) with z | z
      · have := hasc _ _ z (by omega); omega
      · rcases Nat.lt_or_ge (j - tl) (i - tl) with z2 | z2
        · have := hasc _ _ z2 (by omega); omega
        · omega
  · by_cases y : i < tl
    · obtain ⟨c1, c2, c3, c4, c5, c6⟩ := hc i i0 y
      rw [(hold i y).1, (hold i y).2.1, (hold i y).2.2, (hold (pp i) (by omega)).1, (hold (pp i) (by omega)).2.2]
      exact ⟨c1, c2, c3, by omega, c5, c6⟩
    · rw [(hnew i y).1, (hnew i y).2.1, (hnew i y).2.2, (hold k hk).1, (hold k hk).2.2]
      obtain ⟨y1, y2, -⟩ := (hls (ls (i - tl))).mp ⟨i - tl, by omega, rfl⟩
      have y3 := hno (i - tl) (by omega)
      exact ⟨y2.resolve_right y3, y3, by omega, by omega, y1, rfl⟩
  · by_cases y1 : i < tl <;> by_cases y2 : j < tl
    · rw [(hold i y1).1, (hold j y2).1, (hold i y1).2.1, (hold j y2).2.1]; exact hd i j i0 hij y2
    · rw [(hold i y1).2.1, (hnew j y2).2.1]; exact Or.inl (hc i i0 y1).2.2.2.1
    · omega
    · rw [(hnew i y1).1, (hnew j y2).1, (hnew i y1).2.1, (hnew j y2).2.1]; exact Or.inr ⟨rfl, hasc _ _ (by omega) (by omega)⟩
  · have hi3 : i < tl := by omega
    rw [(hold i hi3).1] at hg
    by_cases y : i < k
    · obtain ⟨e1, e2 | ⟨j, j1, j2, j3, j4⟩⟩ := he i y hi3 t hg hth
      · exact ⟨e1, Or.inl e2⟩
      · exact ⟨e1, Or.inr ⟨j, j1, by omega, by rw [(hold j j2).1]; exact j3, by rw [(hold j j2).2.1]; exact j4⟩⟩
    · have ik : i = k := by omega
      rw [ik] at hg
      by_cases hu : USN To st qu tl t
      · obtain ⟨j, j1, j2⟩ := (hls t).mpr ⟨hg, hth, hu⟩
        refine ⟨by rw [← j2]; exact hno j j1, Or.inr ⟨tl + j, by omega, by omega, ?_, ?_⟩⟩
        · rw [(hnew (tl + j) (by omega)).1, show tl + j - tl = j by omega]; exact j2
        · rw [(hnew (tl + j) (by omega)).2.1]; omega
      · by_cases z : t = st ∧ ¬ To st
        · exact ⟨by rw [z.1]; exact z.2, Or.inl z.1⟩
        · obtain ⟨j, j1, j2, j3⟩ : ∃ j, 0 < j ∧ j < tl ∧ qu j = t := Classical.byContradiction (fun w => hu ⟨z, fun j j1 j2 j3 => w ⟨j, j1, j2, j3⟩⟩)
          have j4 := hc j j1 j2
          exact ⟨by rw [← j3]; exact j4.2.1, Or.inr ⟨j, j1, by omega, by rw [(hold j j2).1]; exact j3, by rw [(hold j j2).2.1]; omega⟩⟩
/-- what has the followers of one that has been looked at need not be looked at -/
theorem LPD.skip (h : LPD G Th To st qu pp dp tl dn) (m : Nat) (hm : dn ≤ m) (hs : ∀ i, dn ≤ i → i < m → ∃ j, j < dn ∧ j < tl ∧ ∀ t, G (qu i) t → G (qu j) t) : LPD G Th To st qu pp dp tl m := by
  obtain ⟨h0, hinj, hc, hd, he⟩ := h
  refine ⟨h0, hinj, fun i i0 hi => ?_, hd, fun i hi1 hi2 t hg hth => ?_⟩
  · obtain ⟨c1, c2, c3, c4, c5, c6⟩ := hc i i0 hi
    exact ⟨c1, c2, c3, by omega, c5, c6⟩
  · by_cases y : i < dn
    · exact he i y hi2 t hg hth
    · obtain ⟨j, j1, j2, j3⟩ := hs i (by omega) hi1
      obtain ⟨e1, e2 | ⟨i', j1', j2', j3', j4'⟩⟩ := he j j1 j2 t (j3 t hg) hth
      · exact ⟨e1, Or.inl e2⟩
      · exact ⟨e1, Or.inr ⟨i', j1', j2', j3', by omega⟩⟩
theorem LPD.init (G : Nat → Nat → Prop) (Th To : Nat → Prop) (st : Nat) : LPD G Th To st (fun _ => st) (fun _ => 0) (fun _ => 0) 1 0 :=
  ⟨⟨by decide, rfl, rfl⟩, fun i j hi hj _ => by omega, fun i i0 hi => absurd hi (by omega), fun i j i0 hij hj => absurd hj (by omega), fun i hi => absurd hi (Nat.not_lt_zero i)⟩
/-- all has been looked at, and no way has been found -/
theorem LPD.none (h : LPD G Th To st qu pp dp tl tl) : ¬ PTH G Th To st n W := fun hp => by
  obtain ⟨⟨h0, hq0, hd0⟩, hinj, hc, hd, he⟩ := h
  obtain ⟨p0, p1, p2, p3, p4⟩ := hp
  have hpos : ∀ j, j < n → ∃ b, b < tl ∧ qu b = W j := by
    intro j
    induction j with
    | zero => intro _; exact ⟨0, h0, by rw [hq0, p1]⟩
    | succ j ih =>
      intro j1
      obtain ⟨b, b1, b2⟩ := ih (by omega)
      have hg2 := p2 j (by omega)
      rw [← b2] at hg2
      obtain ⟨-, y | ⟨i, i1, i2, i3, i4⟩⟩ := he b b1 b1 _ hg2 (Or.inl (p3 (j + 1) (by omega) j1))
      · exact ⟨0, h0, by rw [hq0]; exact y.symm⟩
      · exact ⟨i, i2, i3⟩
  obtain ⟨b, b1, b2⟩ := hpos (n - 1) (by omega)
  have hg2 := p2 (n - 1) (by omega)
  rw [← b2, show n - 1 + 1 = n by omega] at hg2
  exact (he b b1 b1 _ hg2 (Or.inr p4)).1 p4
theorem LPD.deep (h : LPD G Th To st qu pp dp tl dn) : ∀ k, k < tl → dp k ≤ k := by
  obtain ⟨⟨h0, hq0, hd0⟩, hinj, hc, hd, he⟩ := h
  intro k
  induction k using Nat.strongRecOn with
  | ind k ih =>
    intro hk
    by_cases k0 : k = 0
    · rw [k0, hd0]; exact Nat.le_refl _
    · obtain ⟨-, -, z1, -, -, z2⟩ := hc k (by omega) hk
      have := ih (pp k) z1 (by omega)
      omega
end Least
