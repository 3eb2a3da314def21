/-! A SET AS IT IS WRITTEN: a list, runs, bits -/
section Written
variable {ls el el' : Nat → Nat} {n i r w x st tt : Nat} {V : Int64} {fc gc : Nat → Int64} {S : Nat → Bool}
/-- what is in a list -/
def lmz (ls : Nat → Nat) : Nat → Nat → Bool
  | 0, _ => false
  | n + 1, x => lmz ls n x || decide (ls n = x)
theorem lmz_iff : ∀ n, lmz ls n x = true ↔ ∃ i, i < n ∧ ls i = x
  | 0 => ⟨fun z => (by cases z), fun ⟨_, h, _⟩ => absurd h (Nat.not_lt_zero _)⟩
  | n + 1 => by
    show (lmz ls n x || decide (ls n = x)) = true ↔ _
    rw [Bool.or_eq_true, lmz_iff n, decide_eq_true_iff]
    constructor
    · rintro (⟨i, h1, h2⟩ | h)
      · exact ⟨i, by omega, h2⟩
      · exact ⟨n, by omega, h⟩
    · rintro ⟨i, h1, h2⟩
      by_cases e : i = n
      · exact Or.inr (e ▸ h2)
      · exact Or.inl ⟨i, by omega, h2⟩
theorem lmz_congr (h : ∀ i, i < n → ls i = el i) : lmz ls n = lmz el n := by
  funext x
  rw [Bool.eq_iff_iff, lmz_iff, lmz_iff]
  constructor
  · rintro ⟨i, h1, h2⟩
    exact ⟨i, h1, (h i h1).symm.trans h2⟩
  · rintro ⟨i, h1, h2⟩
    exact ⟨i, h1, (h i h1).trans h2⟩
/-- how many runs the first i have -/
def rnz (ls : Nat → Nat) : Nat → Nat
  | 0 => 0
  | i + 1 => if i = 0 ∨ ¬ ls i = ls (i - 1) + 1 then rnz ls i + 1 else rnz ls i
/-- their firsts and lasts -/
def rel (ls : Nat → Nat) : Nat → Nat → Nat
  | 0, _ => 0
  | i + 1, p => if p = 2 * rnz ls (i + 1) - 1 then ls i else if (i = 0 ∨ ¬ ls i = ls (i - 1) + 1) ∧ p = 2 * rnz ls (i + 1) - 2 then ls i else rel ls i p
theorem rnz_new (h : i = 0 ∨ ¬ ls i = ls (i - 1) + 1) : rnz ls (i + 1) = rnz ls i + 1 := if_pos h
theorem rnz_old (h0 : ¬ i = 0) (h : ls i = ls (i - 1) + 1) : rnz ls (i + 1) = rnz ls i := if_neg (fun z => z.elim h0 (fun y => y h))
theorem rnz_pos : ∀ i, 1 ≤ i → 1 ≤ rnz ls i
  | 0, h => absurd h (by omega)
  | i + 1, _ => by
    by_cases h : i = 0 ∨ ¬ ls i = ls (i - 1) + 1
    · rw [rnz_new h]; omega
    · have e : rnz ls (i + 1) = rnz ls i := if_neg h
      rw [e]
      exact rnz_pos i (by omega)
theorem rnz_le : ∀ i, rnz ls i ≤ i
  | 0 => Nat.le_refl _
  | i + 1 => by
    have ih := rnz_le i
    show (if i = 0 ∨ ¬ ls i = ls (i - 1) + 1 then rnz ls i + 1 else rnz ls i) ≤ i + 1
    split <;> omega
theorem rel_new (h : i = 0 ∨ ¬ ls i = ls (i - 1) + 1) (p : Nat) : rel ls (i + 1) p = if p = 2 * rnz ls i + 1 ∨ p = 2 * rnz ls i then ls i else rel ls i p := by
  show (if p = 2 * rnz ls (i + 1) - 1 then ls i else if (i = 0 ∨ ¬ ls i = ls (i - 1) + 1) ∧ p = 2 * rnz ls (i + 1) - 2 then ls i else rel ls i p) = _
  rw [rnz_new h]
  by_cases h1 : p = 2 * rnz ls i + 1
  · rw [if_pos (by omega), if_pos (Or.inl h1)]
  · rw [if_neg (by omega)]
    by_cases h2 : p = 2 * rnz ls i
    · rw [if_pos ⟨h, by omega⟩, if_pos (Or.inr h2)]
    · rw [if_neg (fun z => by omega), if_neg (fun z => z.elim h1 h2)]
theorem rel_old (h0 : ¬ i = 0) (h : ls i = ls (i - 1) + 1) (p : Nat) : rel ls (i + 1) p = if p = 2 * rnz ls i - 1 then ls i else rel ls i p := by
  show (if p = 2 * rnz ls (i + 1) - 1 then ls i else if (i = 0 ∨ ¬ ls i = ls (i - 1) + 1) ∧ p = 2 * rnz ls (i + 1) - 2 then ls i else rel ls i p) = _
  rw [rnz_old h0 h]
  by_cases h1 : p = 2 * rnz ls i - 1
  · rw [if_pos h1, if_pos h1]
  · rw [if_neg h1, if_neg h1, if_neg (fun z => z.1.elim h0 (fun y => y h))]
theorem rel_lt (hb : ∀ i, ls i < 65536) (p : Nat) : ∀ i, rel ls i p < 65536
  | 0 => by show 0 < 65536; decide
  | i + 1 => by
    have := hb i
    have ih := rel_lt hb p i
    show (if p = 2 * rnz ls (i + 1) - 1 then ls i else if (i = 0 ∨ ¬ ls i = ls (i - 1) + 1) ∧ p = 2 * rnz ls (i + 1) - 2 then ls i else rel ls i p) < 65536
    split
    · exact this
    · split
      · exact this
      · exact ih
/-- the runs of a rising list -/
def RIz (ls : Nat → Nat) (i : Nat) : Prop := (∀ r, r < rnz ls i → rel ls i (2 * r) ≤ rel ls i (2 * r + 1)) ∧ (∀ r, r + 1 < rnz ls i → rel ls i (2 * r + 1) < rel ls i (2 * r + 2)) ∧ (1 ≤ i → rel ls i (2 * rnz ls i - 1) = ls (i - 1)) ∧ ∀ x, (∃ j, j < i ∧ ls j = x) ↔ ∃ r, r < rnz ls i ∧ rel ls i (2 * r) ≤ x ∧ x ≤ rel ls i (2 * r + 1)
theorem RIz_all (hr : ∀ i j, i < j → j < n → ls i < ls j) : ∀ i, i ≤ n → RIz ls i
  | 0, _ => ⟨fun r h => absurd h (Nat.not_lt_zero _), fun r h => absurd h (Nat.not_lt_zero _), fun h => absurd h (by omega), fun x => ⟨fun ⟨_, h, _⟩ => absurd h (Nat.not_lt_zero _), fun ⟨_, h, _⟩ => absurd h (Nat.not_lt_zero _)⟩⟩
  | i + 1, hi => by
    obtain ⟨a, b, c, e⟩ := RIz_all hr i (by omega)
    by_cases h : i = 0 ∨ ¬ ls i = ls (i - 1) + 1
    · have eR := rnz_new h
      have q1 : ∀ p, p < 2 * rnz ls i → rel ls (i + 1) p = rel ls i p := fun p hp => by rw [rel_new h, if_neg (by omega)]
      have q2 : rel ls (i + 1) (2 * rnz ls i) = ls i := by rw [rel_new h, if_pos (Or.inr rfl)]
      have q3 : rel ls (i + 1) (2 * rnz ls i + 1) = ls i := by rw [rel_new h, if_pos (Or.inl rfl)]
      have hp : 1 ≤ rnz ls i → 1 ≤ i := fun z => Nat.le_trans z (rnz_le i)
      refine ⟨fun r hr' => ?_, fun r hr' => ?_, fun _ => ?_, fun x => ⟨?_, ?_⟩⟩
      · rw [eR] at hr'
        by_cases e1 : r = rnz ls i
        · rw [e1, q2, q3]; exact Nat.le_refl _
        · rw [q1 _ (by omega), q1 _ (by omega)]; exact a r (by omega)
      · rw [eR] at hr'
        by_cases e1 : r + 1 = rnz ls i
        · rw [q1 _ (by omega), show 2 * r + 2 = 2 * rnz ls i by omega, q2, show 2 * r + 1 = 2 * rnz ls i - 1 by omega, c (hp (by omega))]
          have := hp (by omega)
          exact hr _ _ (by omega) (by omega)
        · rw [q1 _ (by omega), q1 _ (by omega)]; exact b r (by omega)
      · rw [eR, show 2 * (rnz ls i + 1) - 1 = 2 * rnz ls i + 1 by omega, q3]; rfl
      · rintro ⟨j, hj, hx⟩
        by_cases e1 : j = i
        · refine ⟨rnz ls i, by omega, ?_⟩
          rw [q2, q3, ← hx, e1]
          exact ⟨Nat.le_refl _, Nat.le_refl _⟩
        · obtain ⟨r, h1, h2, h3⟩ := (e x).mp ⟨j, by omega, hx⟩
          refine ⟨r, by omega, ?_⟩
          rw [q1 _ (by omega), q1 _ (by omega)]
          exact ⟨h2, h3⟩
      · rintro ⟨r, h1, h2, h3⟩
        rw [eR] at h1
        by_cases e1 : r = rnz ls i
        · rw [e1, q2] at h2
          rw [e1, q3] at h3
          exact ⟨i, by omega, by omega⟩
        · rw [q1 _ (by omega)] at h2
          rw [q1 _ (by omega)] at h3
          obtain ⟨j, h4, h5⟩ := (e x).mpr ⟨r, by omega, h2, h3⟩
          exact ⟨j, by omega, h5⟩
    · have h0 : ¬ i = 0 := fun z => h (Or.inl z)
      have hs : ls i = ls (i - 1) + 1 := Decidable.byContradiction (fun z => h (Or.inr z))
      have eR := rnz_old h0 hs
      have hR := rnz_pos (ls := ls) i (by omega)
      have c1 := c (by omega)
      have q1 : ∀ p, ¬ p = 2 * rnz ls i - 1 → rel ls (i + 1) p = rel ls i p := fun p hp => by rw [rel_old h0 hs, if_neg hp]
      have q2 : rel ls (i + 1) (2 * rnz ls i - 1) = ls i := by rw [rel_old h0 hs, if_pos rfl]
      have a1 := a (rnz ls i - 1) (by omega)
      rw [show 2 * (rnz ls i - 1) + 1 = 2 * rnz ls i - 1 by omega, c1] at a1
      refine ⟨fun r hr' => ?_, fun r hr' => ?_, fun _ => ?_, fun x => ⟨?_, ?_⟩⟩
      · rw [eR] at hr'
        rw [q1 (2 * r) (by omega)]
        by_cases e1 : r = rnz ls i - 1
        · rw [show 2 * r + 1 = 2 * rnz ls i - 1 by omega, q2, e1]; omega
        · rw [q1 _ (by omega)]; exact a r hr'
      · rw [eR] at hr'
        rw [q1 _ (by omega), q1 _ (by omega)]; exact b r hr'
      · rw [eR, q2]; rfl
      · rintro ⟨j, hj, hx⟩
        by_cases e1 : j = i
        · refine ⟨rnz ls i - 1, by omega, ?_⟩
          rw [q1 _ (by omega), show 2 * (rnz ls i - 1) + 1 = 2 * rnz ls i - 1 by omega, q2, ← hx, e1]
          exact ⟨by omega, Nat.le_refl _⟩
        · obtain ⟨r, h1, h2, h3⟩ := (e x).mp ⟨j, by omega, hx⟩
          refine ⟨r, by omega, ?_⟩
          rw [q1 (2 * r) (by omega)]
          by_cases e2 : r = rnz ls i - 1
          · rw [show 2 * r + 1 = 2 * rnz ls i - 1 by omega, q2]
            rw [show 2 * r + 1 = 2 * rnz ls i - 1 by omega, c1] at h3
            exact ⟨h2, by omega⟩
          · rw [q1 _ (by omega)]
            exact ⟨h2, h3⟩
      · rintro ⟨r, h1, h2, h3⟩
        rw [eR] at h1
        rw [q1 (2 * r) (by omega)] at h2
        by_cases e2 : r = rnz ls i - 1
        · rw [show 2 * r + 1 = 2 * rnz ls i - 1 by omega, q2] at h3
          by_cases e3 : x = ls i
          · exact ⟨i, by omega, e3.symm⟩
          · obtain ⟨j, h4, h5⟩ := (e x).mpr ⟨r, h1, h2, by rw [show 2 * r + 1 = 2 * rnz ls i - 1 by omega, c1]; omega⟩
            exact ⟨j, by omega, h5⟩
        · rw [q1 _ (by omega)] at h3
          obtain ⟨j, h4, h5⟩ := (e x).mpr ⟨r, h1, h2, h3⟩
          exact ⟨j, by omega, h5⟩
theorem RIz_up (h : RIz ls n) (r : Nat) : ∀ k, r + k < rnz ls n → rel ls n (2 * r) ≤ rel ls n (2 * (r + k)) ∧ rel ls n (2 * r + 1) ≤ rel ls n (2 * (r + k) + 1)
  | 0, _ => ⟨Nat.le_refl _, Nat.le_refl _⟩
  | k + 1, hk => by
    obtain ⟨h1, h2⟩ := RIz_up h r k (by omega)
    have h3 := h.2.1 (r + k) (by omega)
    have h4 := h.1 (r + k) (by omega)
    have h5 := h.1 (r + (k + 1)) hk
    rw [show 2 * (r + k) + 2 = 2 * (r + (k + 1)) by omega] at h3
    exact ⟨by omega, by omega⟩
/-- a set that is carried to another place -/
theorem mrk1_congr (h : mrk gc tt 1 n S) (hp : ∀ p, p < n → nmzU fc st p = nmzU gc tt p) : mrk fc st 1 n S := by
  refine ⟨fun i j hi hj => ?_, fun x => ?_⟩
  · have := h.1 i j hi hj
    rw [hp (1 * i) (by omega), hp (1 * j) (by omega), hp (1 * i + 1 - 1) (by omega), hp (1 * j + 1 - 1) (by omega)]
    exact this
  · rw [h.2 x]
    constructor
    · rintro ⟨i, h1, h2, h3⟩
      exact ⟨i, h1, by rw [hp (1 * i) (by omega)]; exact h2, by rw [hp (1 * i + 1 - 1) (by omega)]; exact h3⟩
    · rintro ⟨i, h1, h2, h3⟩
      rw [hp (1 * i) (by omega)] at h2
      rw [hp (1 * i + 1 - 1) (by omega)] at h3
      exact ⟨i, h1, h2, h3⟩
theorem mrk2_congr (h : mrk gc tt 2 n S) (hp : ∀ p, p < 2 * n → nmzU fc st p = nmzU gc tt p) : mrk fc st 2 n S := by
  refine ⟨fun i j hi hj => ?_, fun x => ?_⟩
  · have := h.1 i j hi hj
    rw [hp (2 * i) (by omega), hp (2 * j) (by omega), hp (2 * i + 2 - 1) (by omega), hp (2 * j + 2 - 1) (by omega)]
    exact this
  · rw [h.2 x]
    constructor
    · rintro ⟨i, h1, h2, h3⟩
      exact ⟨i, h1, by rw [hp (2 * i) (by omega)]; exact h2, by rw [hp (2 * i + 2 - 1) (by omega)]; exact h3⟩
    · rintro ⟨i, h1, h2, h3⟩
      rw [hp (2 * i) (by omega)] at h2
      rw [hp (2 * i + 2 - 1) (by omega)] at h3
      exact ⟨i, h1, h2, h3⟩
theorem stz_carry (h : stz gc tt S) (e0 : hsz fc st = hsz gc tt) (e1 : hfm fc st = hfm gc tt) (e2 : hln fc st = hln gc tt) (hw : ∀ k, 1 ≤ k → k ≤ hln gc tt → fc (st % 8192 + k) = gc (tt % 8192 + k)) (hb : st % 8192 + hln gc tt < 8192) : stz fc st S := by
  obtain ⟨h1, h2, h3, h4, h5⟩ := h
  have hn : ∀ p, p / 4 < hln gc tt → nmzU fc st p = nmzU gc tt p := fun p hp => by
    unfold nmzU
    rw [Nat.add_assoc, hw (1 + p / 4) (by omega) (by omega), Nat.add_assoc]
  refine ⟨by rw [e1]; exact h1, by rw [e2]; exact ⟨hb, h2.2⟩, fun z => ?_, fun z => ?_, fun z x => ?_⟩
  · rw [e1] at z
    obtain ⟨a, b, c⟩ := h3 z
    rw [e0, e2]
    refine ⟨a, fun i j hi hj => ?_, mrk1_congr c (fun p hp => hn p (by omega))⟩
    rw [hn i (by omega), hn j (by omega)]
    exact b i j hi hj
  · rw [e1] at z
    obtain ⟨a, b⟩ := h4 z
    rw [e2]
    refine ⟨fun i hi => ?_, mrk2_congr b (fun p hp => hn p (by omega))⟩
    rw [hn _ (by omega), hn _ (by omega)]
    exact a i hi
  · rw [e1] at z
    rw [e2, h5 z x]
    constructor
    · rintro ⟨a, b⟩
      refine ⟨a, ?_⟩
      rw [Nat.add_assoc, hw (1 + x / 64) (by omega) (by omega), ← Nat.add_assoc]
      exact b
    · rintro ⟨a, b⟩
      refine ⟨a, ?_⟩
      rw [Nat.add_assoc, hw (1 + x / 64) (by omega) (by omega), ← Nat.add_assoc] at b
      exact b
/-- the three forms -/
theorem stz_list (hr : ∀ i j, i < j → j < n → ls i < ls j) (h0 : hfm fc st = 0) (h1 : hsz fc st = n) (h2 : n ≤ 4 * hln fc st) (h3 : st % 8192 + hln fc st < 8192) (h4 : hln fc st ≤ 256) (hn : ∀ i, i < n → nmzU fc st i = ls i) : stz fc st (lmz ls n) := by
  have hle : ∀ i j, i ≤ j → j < n → ls i ≤ ls j := fun i j hi hj => by
    by_cases e : i = j
    · rw [e]; exact Nat.le_refl _
    · exact Nat.le_of_lt (hr i j (by omega) hj)
  refine ⟨by rw [h0]; decide, ⟨h3, h4⟩, fun _ => ?_, fun z => absurd (h0.symm.trans z) (by decide), fun z => absurd (h0.symm.trans z) (by decide)⟩
  rw [h1]
  refine ⟨h2, fun i j hi hj => by rw [hn i (by omega), hn j hj]; exact hr i j hi hj, fun i j hi hj => ?_, fun x => ?_⟩
  · rw [hn (1 * i) (by omega), hn (1 * j) (by omega), hn (1 * i + 1 - 1) (by omega), hn (1 * j + 1 - 1) (by omega)]
    have := hle i j hi hj
    rw [show 1 * i = i by omega, show 1 * j = j by omega]
    exact ⟨this, this⟩
  · rw [lmz_iff]
    constructor
    · rintro ⟨i, a, b⟩
      refine ⟨i, a, ?_⟩
      rw [hn (1 * i) (by omega), hn (1 * i + 1 - 1) (by omega), show 1 * i = i by omega, b]
      exact ⟨Nat.le_refl _, by rw [show i + 1 - 1 = i by omega, b]; exact Nat.le_refl _⟩
    · rintro ⟨i, a, b, c⟩
      rw [hn (1 * i) (by omega), show 1 * i = i by omega] at b
      rw [hn (1 * i + 1 - 1) (by omega), show 1 * i + 1 - 1 = i by omega] at c
      exact ⟨i, a, by omega⟩
theorem stz_runs (hr : ∀ i j, i < j → j < n → ls i < ls j) (hn1 : 1 ≤ n) (h0 : hfm fc st = 1) (h1 : hln fc st = (rnz ls n + 1) / 2) (h3 : st % 8192 + hln fc st < 8192) (h4 : hln fc st ≤ 256) (hn : ∀ p, p < 4 * hln fc st → nmzU fc st p = if p < 2 * rnz ls n then rel ls n p else rel ls n (p - 2)) : stz fc st (lmz ls n) := by
  have hI := RIz_all hr n (Nat.le_refl _)
  have hp := rnz_pos (ls := ls) n hn1
  have q1 : ∀ i, i < 2 * hln fc st → ∃ r, r < rnz ls n ∧ (r = i ∨ (i = rnz ls n ∧ r + 1 = i)) ∧ nmzU fc st (2 * i) = rel ls n (2 * r) ∧ nmzU fc st (2 * i + 1) = rel ls n (2 * r + 1) := fun i hi => by
    by_cases e : i < rnz ls n
    · exact ⟨i, e, Or.inl rfl, by rw [hn _ (by omega), if_pos (by omega)], by rw [hn _ (by omega), if_pos (by omega)]⟩
    · exact ⟨i - 1, by omega, Or.inr ⟨by omega, by omega⟩, by rw [hn _ (by omega), if_neg (by omega), show 2 * i - 2 = 2 * (i - 1) by omega], by rw [hn _ (by omega), if_neg (by omega), show 2 * i + 1 - 2 = 2 * (i - 1) + 1 by omega]⟩
  refine ⟨by rw [h0]; decide, ⟨h3, h4⟩, fun z => absurd (h0.symm.trans z) (by decide), fun _ => ⟨fun i hi => ?_, fun i j hi hj => ?_, fun x => ?_⟩, fun z => absurd (h0.symm.trans z) (by decide)⟩
  · obtain ⟨r, a, _, b, c⟩ := q1 i hi
    rw [b, c]
    exact hI.1 r a
  · obtain ⟨r, a, a2, b, c⟩ := q1 i (by omega)
    obtain ⟨s, a', a2', b', c'⟩ := q1 j hj
    rw [show 2 * i + 2 - 1 = 2 * i + 1 by omega, show 2 * j + 2 - 1 = 2 * j + 1 by omega, b, c, b', c']
    have := RIz_up hI r (s - r) (by omega)
    rw [show r + (s - r) = s by omega] at this
    exact this
  · rw [lmz_iff, hI.2.2.2 x]
    constructor
    · rintro ⟨r, a, b, c⟩
      refine ⟨r, by omega, ?_⟩
      rw [show 2 * r + 2 - 1 = 2 * r + 1 by omega, hn _ (by omega), if_pos (by omega), hn _ (by omega), if_pos (by omega)]
      exact ⟨b, c⟩
    · rintro ⟨i, a, b, c⟩
      obtain ⟨r, d1, _, d2, d3⟩ := q1 i a
      rw [d2] at b
      rw [show 2 * i + 2 - 1 = 2 * i + 1 by omega, d3] at c
      exact ⟨r, d1, b, c⟩
theorem stz_bits (hr : ∀ i j, i < j → j < n → ls i < ls j) (hn1 : 1 ≤ n) (h0 : hfm fc st = 2) (h1 : hln fc st = ls (n - 1) / 64 + 1) (h3 : st % 8192 + hln fc st < 8192) (h4 : hln fc st ≤ 256) (hn : ∀ t, t / 64 < hln fc st → (btz (fc (st % 8192 + 1 + t / 64)) (t % 64) = true ↔ lmz ls n t = true)) : stz fc st (lmz ls n) := by
  refine ⟨by rw [h0]; decide, ⟨h3, h4⟩, fun z => absurd (h0.symm.trans z) (by decide), fun z => absurd (h0.symm.trans z) (by decide), fun _ x => ?_⟩
  constructor
  · intro z
    have hx : x / 64 < hln fc st := by
      obtain ⟨i, a, b⟩ := (lmz_iff n).mp z
      have : ls i ≤ ls (n - 1) := by
        by_cases e : i = n - 1
        · rw [e]; exact Nat.le_refl _
        · exact Nat.le_of_lt (hr i (n - 1) (by omega) (by omega))
      rw [h1]
      omega
    exact ⟨hx, (hn x hx).mpr z⟩
  · rintro ⟨a, b⟩
    exact (hn x a).mp b
/-- the words of a list, as they are written -/
theorem pw_lt {k : Nat} (hx : x < 65536) (hk : k ≤ 48) : x * 2 ^ k < 2 ^ 64 := by
  have h1 : x * 2 ^ k < 65536 * 2 ^ k := Nat.mul_lt_mul_of_pos_right hx (Nat.two_pow_pos _)
  have h2 : 65536 * 2 ^ k = 2 ^ (16 + k) := by rw [Nat.pow_add]
  have h3 : 2 ^ (16 + k) ≤ 2 ^ 64 := Nat.pow_le_pow_right (by omega) (by omega)
  omega
theorem enl_s (he : ∀ i, el i < 65536) (hV : tnz V = pk4 el (i / 4) (min 4 (i - 4 * (i / 4)))) : tnz (V ||| ((nI (el i)).toInt64 <<< ((nI (16 * (i % 4))).toInt64 &&& 63))) = pk4 el (i / 4) (min 4 (i + 1 - 4 * (i / 4))) := by
  have e1 : min 4 (i - 4 * (i / 4)) = i % 4 := by omega
  have e2 : min 4 (i + 1 - 4 * (i / 4)) = i % 4 + 1 := by omega
  rw [e1] at hV
  rw [e2]
  have hx := i2l_val (n := el i) (by have := he i; omega)
  rw [or_shl (k := 16 * (i % 4)) (by omega) (by rw [hV]; exact pk4_lt he _) (by rw [hx]; exact pw_lt (he i) (by omega)), hV, hx]
  show _ = pk4 el (i / 4) (i % 4) + el (4 * (i / 4) + i % 4) * 2 ^ (16 * (i % 4))
  rw [show 4 * (i / 4) + i % 4 = i by omega]
theorem pk4_congr : ∀ k, (∀ j, j < k → el (4 * w + j) = el' (4 * w + j)) → pk4 el w k = pk4 el' w k
  | 0, _ => rfl
  | k + 1, h => by
    show pk4 el w k + el (4 * w + k) * 2 ^ (16 * k) = pk4 el' w k + el' (4 * w + k) * 2 ^ (16 * k)
    rw [pk4_congr k (fun j hj => h j (by omega)), h k (by omega)]
theorem pk4_2 {k : Nat} : pk4 el w (k + 2) = pk4 el w k + (el (4 * w + k) + el (4 * w + k + 1) * 65536) * 2 ^ (16 * k) := by
  show pk4 el w k + el (4 * w + k) * 2 ^ (16 * k) + el (4 * w + (k + 1)) * 2 ^ (16 * (k + 1)) = _
  rw [show 16 * (k + 1) = 16 + 16 * k by omega, Nat.pow_add, Nat.add_mul, ← Nat.mul_assoc, show (2 : Nat) ^ 16 = 65536 by decide, Nat.add_assoc, Nat.add_assoc]
theorem enr_new (he : ∀ i, el i < 65536) (hx : x < 65536) (hV : tnz V = pk4 el (r / 2) (min 4 (2 * r - 4 * (r / 2)))) (h0 : ∀ p, p < 2 * r → el' p = el p) (h1 : el' (2 * r) = x) (h2 : el' (2 * r + 1) = x) : tnz (V ||| (((nI x).toInt64 ||| ((nI x).toInt64 <<< ((16 : Int32).toInt64 &&& 63))) <<< ((nI (32 * (r % 2))).toInt64 &&& 63))) = pk4 el' (r / 2) (min 4 (2 * (r + 1) - 4 * (r / 2))) := by
  have e1 : min 4 (2 * r - 4 * (r / 2)) = 2 * (r % 2) := by omega
  have e2 : min 4 (2 * (r + 1) - 4 * (r / 2)) = 2 * (r % 2) + 2 := by omega
  rw [e1] at hV
  have ex := i2l_val (n := x) (by omega)
  have ey : tnz ((nI x).toInt64 ||| ((nI x).toInt64 <<< ((16 : Int32).toInt64 &&& 63))) = x + x * 65536 := by
    have := or_shl (w := (nI x).toInt64) (x := (nI x).toInt64) (k := 16) (by decide) (by rw [ex]; exact hx) (by rw [ex]; exact pw_lt hx (by decide))
    rw [ex] at this
    exact this
  have hz : (x + x * 65536) * 2 ^ (32 * (r % 2)) < 2 ^ 64 := by
    have h3 : x + x * 65536 < 2 ^ 32 := by omega
    have h4 : (x + x * 65536) * 2 ^ (32 * (r % 2)) < 2 ^ 32 * 2 ^ (32 * (r % 2)) := Nat.mul_lt_mul_of_pos_right h3 (Nat.two_pow_pos _)
    rw [← Nat.pow_add] at h4
    exact Nat.lt_of_lt_of_le h4 (Nat.pow_le_pow_right (by omega) (by omega))
  rw [or_shl (k := 32 * (r % 2)) (by omega) (by rw [hV, show 32 * (r % 2) = 16 * (2 * (r % 2)) by omega]; exact pk4_lt he _) (by rw [ey]; exact hz), hV, ey, e2, pk4_2, show 4 * (r / 2) + 2 * (r % 2) = 2 * r by omega, h1, h2, show 16 * (2 * (r % 2)) = 32 * (r % 2) by omega]
  rw [pk4_congr (el := el) (el' := el') (2 * (r % 2)) (fun j hj => (h0 _ (by omega)).symm)]
theorem ladd_val {a b : Int64} (h : tnz a + tnz b < 2 ^ 64) : tnz (a + b) = tnz a + tnz b := by
  unfold tnz at h ⊢
  rw [Int64.toBitVec_add, BitVec.toNat_add, Nat.mod_eq_of_lt h]
theorem enr_old (he : ∀ i, el' i < 65536) (hV : tnz V = pk4 el (r / 2) (2 * (r % 2) + 2)) (h0 : ∀ p, ¬ p = 2 * r + 1 → el' p = el p) (h1 : el' (2 * r + 1) = el (2 * r + 1) + 1) : tnz (V + ((1 : Int64) <<< ((nI (16 + 32 * (r % 2))).toInt64 &&& 63))) = pk4 el' (r / 2) (2 * (r % 2) + 2) := by
  have hp : 2 ^ (16 + 32 * (r % 2)) < 2 ^ 64 := Nat.pow_lt_pow_right (by decide) (by omega)
  have e1 : tnz ((1 : Int64) <<< ((nI (16 + 32 * (r % 2))).toInt64 &&& 63)) = 2 ^ (16 + 32 * (r % 2)) := by
    have := shl_val (x := 1) (k := 16 + 32 * (r % 2)) (by omega) (by rw [show tnz 1 = 1 from by decide, Nat.one_mul]; exact hp)
    rw [this, show tnz 1 = 1 from by decide, Nat.one_mul]
  have e2 : pk4 el' (r / 2) (2 * (r % 2) + 2) = tnz V + 2 ^ (16 + 32 * (r % 2)) := by
    rw [hV, pk4_2, pk4_2, show 4 * (r / 2) + 2 * (r % 2) = 2 * r by omega, h1, h0 (2 * r) (by omega), pk4_congr (el := el') (el' := el) (2 * (r % 2)) (fun j hj => h0 _ (by omega)), show 16 * (2 * (r % 2)) = 32 * (r % 2) by omega, Nat.pow_add, Nat.add_mul (el (2 * r + 1)), Nat.one_mul, ← Nat.add_assoc (el (2 * r)), Nat.add_mul (el (2 * r) + el (2 * r + 1) * 65536), ← Nat.add_assoc]
  have e3 : pk4 el' (r / 2) (2 * (r % 2) + 2) < 2 ^ 64 := Nat.lt_of_lt_of_le (pk4_lt he _) (Nat.pow_le_pow_right (by omega) (by omega))
  rw [ladd_val (by rw [e1]; omega), e1, e2]
theorem enr_end (he : ∀ i, el i < 65536) (hV : tnz V = pk4 el w 2) (h0 : ∀ j, j < 2 → el' (4 * w + j) = el (4 * w + j)) (h1 : ∀ j, j < 2 → el' (4 * w + 2 + j) = el (4 * w + j)) : tnz (V ||| (V <<< ((32 : Int32).toInt64 &&& 63))) = pk4 el' w 4 := by
  have hlt : tnz V < 2 ^ 32 := by rw [hV]; exact pk4_lt he 2
  have := or_shl (w := V) (x := V) (k := 32) (by decide) hlt (by
    have : tnz V * 2 ^ 32 < 2 ^ 32 * 2 ^ 32 := Nat.mul_lt_mul_of_pos_right hlt (Nat.two_pow_pos _)
    rw [← Nat.pow_add] at this
    exact this)
  refine this.trans ?_
  have e2 : pk4 el w 2 = el (4 * w) + el (4 * w + 1) * 65536 := by
    rw [pk4_2 (k := 0)]
    show 0 + (el (4 * w) + el (4 * w + 1) * 65536) * 1 = _
    omega
  have e3 : pk4 el' w 2 = pk4 el w 2 := pk4_congr 2 h0
  have h10 : el' (4 * w + 2) = el (4 * w) := h1 0 (by decide)
  have h11 : el' (4 * w + 2 + 1) = el (4 * w + 1) := h1 1 (by decide)
  rw [hV, pk4_2 (k := 2), e3, h10, h11, ← e2]
theorem l_shr6 (h : x < 2147483648) : ((nI x).toInt64 >>> ((6 : Int32).toInt64 &&& 63)).toInt32 = nI (x / 64) := by
  refine Int32.toInt_inj.mp ?_
  have e1 : ((nI x).toInt64 >>> ((6 : Int32).toInt64 &&& 63)).toBitVec.toInt = ((x / 64 : Nat) : Int) := by
    rw [Int64.toBitVec_shiftRight, show (((6 : Int32).toInt64 &&& 63).toBitVec.smod 64) = BitVec.ofNat 64 6 by decide, BitVec.sshiftRight_eq', BitVec.toInt_sshiftRight]
    have e1 : (nI x).toInt64.toBitVec.toInt = (x : Int) := by
      show (nI x).toInt64.toInt = _
      rw [Int32.toInt_toInt64]
      exact nI_toInt h
    rw [e1, BitVec.toNat_ofNat, Nat.mod_eq_of_lt (by decide), Int.shiftRight_eq_div_pow]
    rfl
  rw [Int64.toInt_toInt32, nI_toInt (by omega)]
  show ((((nI x).toInt64 >>> ((6 : Int32).toInt64 &&& 63)).toBitVec.toInt).bmod (2 ^ 32)) = _
  rw [e1]
  exact Int.bmod_eq_of_le (by omega) (by omega)
theorem l2i_i2l {a : Int32} : a.toInt64.toInt32 = a := by
  refine Int32.toInt_inj.mp ?_
  rw [Int64.toInt_toInt32, Int32.toInt_toInt64]
  have h1 := Int32.le_toInt a
  have h2 := Int32.toInt_lt a
  exact Int.bmod_eq_of_le (by omega) (by omega)
/-- the loops of encode -/
def rmI (k : Nat) : Int32 := nI k - 1
theorem rmI_1 {k : Nat} : rmI k + 1 = nI k := by
  unfold rmI
  rw [Int32.sub_add_cancel]
theorem rmI_n {k : Nat} (h : 1 ≤ k) : rmI k = nI (k - 1) := nI_sub (a := k) (b := 1) h
theorem rmI_s {k l : Nat} (h : l = k + 1) : nI k = rmI l := by rw [rmI_n (by omega), h]; rfl
theorem rnz_mono {j : Nat} : ∀ k, rnz ls j ≤ rnz ls (j + k)
  | 0 => Nat.le_refl _
  | k + 1 => by
    have ih := rnz_mono (j := j) k
    show rnz ls j ≤ (if j + k = 0 ∨ ¬ ls (j + k) = ls (j + k - 1) + 1 then rnz ls (j + k) + 1 else rnz ls (j + k))
    split <;> omega
theorem rnz_mono2 {j k : Nat} (h : j ≤ k) : rnz ls j ≤ rnz ls k := by
  have := rnz_mono (ls := ls) (j := j) (k - j)
  rw [show j + (k - j) = k by omega] at this
  exact this
variable {U : Ud} {L : Nat → Int64} {ln v : Nat}
theorem en_in {y : Int64} (hw : w < ln) : (upL (upM U 117 1 (fun _ => (0 : Int64)) (ln + 1 - 1)) 117 0 y).2.2.2.2.1 117 (1 + w) = 0 := by
  rw [upL_at]
  show (if 1 + w = 0 then y else (upM U 117 1 (fun _ => (0 : Int64)) (ln + 1 - 1)).2.2.2.2.1 117 (1 + w)) = 0
  rw [if_neg (by omega)]
  exact if_pos ⟨rfl, by omega, by omega⟩
theorem en_h0 {y : Int64} {k : Nat} (hk : 1 ≤ k) (h : tnz (L 0) = v) : tnz ((fun q => if q = k then y else L q) 0) = v := by
  show tnz (if 0 = k then y else L 0) = v
  rw [if_neg (by omega)]
  exact h
theorem en_L (hb : ∀ i, ls i < 65536) (hE : ∀ w, w < ln → tnz (L (1 + w)) = pk4 ls w (min 4 (i - 4 * w))) (w : Nat) (hw : w < ln) : tnz ((fun q => if q = 1 + i / 4 then L (1 + i / 4) ||| ((nI (ls i)).toInt64 <<< ((nI (16 * (i % 4))).toInt64 &&& 63)) else L q) (1 + w)) = pk4 ls w (min 4 (i + 1 - 4 * w)) := by
  show tnz (if 1 + w = 1 + i / 4 then L (1 + i / 4) ||| ((nI (ls i)).toInt64 <<< ((nI (16 * (i % 4))).toInt64 &&& 63)) else L (1 + w)) = _
  by_cases e : w = i / 4
  · rw [if_pos (by omega), e]
    exact enl_s hb (hE (i / 4) (by omega))
  · rw [if_neg (by omega), hE w hw]
    congr 1
    omega
theorem btz_one1 {y : Int64} {q : Nat} (hx : x < 2147483648) (hq : q < 64) : btz (y ||| ((1 : Int64) <<< ((nI x).toInt64 &&& 63))) q = true ↔ btz y q = true ∨ q = x % 64 := by
  rw [btz_or, Bool.or_eq_true, btz_shl hx hq, btz_1, Bool.and_eq_true, decide_eq_true_iff, decide_eq_true_iff]
  constructor
  · rintro (h | h)
    · exact Or.inl h
    · exact Or.inr (by omega)
  · rintro (h | h)
    · exact Or.inl h
    · exact Or.inr ⟨by omega, by omega⟩
theorem en_B (hb : ∀ i, ls i < 65536) (hE : ∀ t, t / 64 < ln → (btz (L (1 + t / 64)) (t % 64) = true ↔ lmz ls i t = true)) (t : Nat) (ht : t / 64 < ln) : btz ((fun q => if q = 1 + ls i / 64 then L (1 + ls i / 64) ||| ((1 : Int64) <<< ((nI (ls i)).toInt64 &&& 63)) else L q) (1 + t / 64)) (t % 64) = true ↔ lmz ls (i + 1) t = true := by
  show btz (if 1 + t / 64 = 1 + ls i / 64 then L (1 + ls i / 64) ||| ((1 : Int64) <<< ((nI (ls i)).toInt64 &&& 63)) else L (1 + t / 64)) (t % 64) = true ↔ (lmz ls i t || decide (ls i = t)) = true
  rw [Bool.or_eq_true, decide_eq_true_iff, ← hE t ht]
  have hbi := hb i
  by_cases e : t / 64 = ls i / 64
  · rw [if_pos (by omega), e, btz_one1 (by omega) (Nat.mod_lt _ (by decide))]
    constructor
    · rintro (h | h)
      · exact Or.inl h
      · exact Or.inr (by omega)
    · rintro (h | h)
      · exact Or.inl h
      · exact Or.inr (by omega)
  · rw [if_neg (by omega)]
    constructor
    · exact Or.inl
    · rintro (h | h)
      · exact h
      · exact absurd (by rw [h]) e
theorem en_R1 (hb : ∀ i, ls i < 65536) (hE : ∀ w, w < ln → tnz (L (1 + w)) = pk4 (rel ls i) w (min 4 (2 * rnz ls i - 4 * w))) (hn : i = 0 ∨ ¬ ls i = ls (i - 1) + 1) (w : Nat) (hw : w < ln) : tnz ((fun q => if q = 1 + rnz ls i / 2 then L (1 + rnz ls i / 2) ||| (((nI (ls i)).toInt64 ||| ((nI (ls i)).toInt64 <<< ((16 : Int32).toInt64 &&& 63))) <<< ((nI (32 * (rnz ls i % 2))).toInt64 &&& 63)) else L q) (1 + w)) = pk4 (rel ls (i + 1)) w (min 4 (2 * rnz ls (i + 1) - 4 * w)) := by
  show tnz (if 1 + w = 1 + rnz ls i / 2 then L (1 + rnz ls i / 2) ||| (((nI (ls i)).toInt64 ||| ((nI (ls i)).toInt64 <<< ((16 : Int32).toInt64 &&& 63))) <<< ((nI (32 * (rnz ls i % 2))).toInt64 &&& 63)) else L (1 + w)) = _
  rw [rnz_new hn]
  have q0 : ∀ p, p < 2 * rnz ls i → rel ls (i + 1) p = rel ls i p := fun p hp => by rw [rel_new hn, if_neg (by omega)]
  by_cases e : w = rnz ls i / 2
  · rw [if_pos (by omega), e]
    exact enr_new (fun p => rel_lt hb p i) (hb i) (hE _ (by omega)) q0 (by rw [rel_new hn, if_pos (Or.inr rfl)]) (by rw [rel_new hn, if_pos (Or.inl rfl)])
  · rw [if_neg (by omega), hE w hw]
    by_cases e2 : w < rnz ls i / 2
    · rw [show min 4 (2 * rnz ls i - 4 * w) = 4 by omega, show min 4 (2 * (rnz ls i + 1) - 4 * w) = 4 by omega]
      exact pk4_congr 4 (fun j hj => (q0 _ (by omega)).symm)
    · rw [show min 4 (2 * rnz ls i - 4 * w) = 0 by omega, show min 4 (2 * (rnz ls i + 1) - 4 * w) = 0 by omega]
      rfl
theorem en_R2 (hb : ∀ i, ls i < 65536) (hr : RIz ls i) (hE : ∀ w, w < ln → tnz (L (1 + w)) = pk4 (rel ls i) w (min 4 (2 * rnz ls i - 4 * w))) (h0 : ¬ i = 0) (hn : ls i = ls (i - 1) + 1) (w : Nat) (hw : w < ln) : tnz ((fun q => if q = 1 + (rnz ls i - 1) / 2 then L (1 + (rnz ls i - 1) / 2) + ((1 : Int64) <<< ((nI (16 + 32 * ((rnz ls i - 1) % 2))).toInt64 &&& 63)) else L q) (1 + w)) = pk4 (rel ls (i + 1)) w (min 4 (2 * rnz ls (i + 1) - 4 * w)) := by
  show tnz (if 1 + w = 1 + (rnz ls i - 1) / 2 then L (1 + (rnz ls i - 1) / 2) + ((1 : Int64) <<< ((nI (16 + 32 * ((rnz ls i - 1) % 2))).toInt64 &&& 63)) else L (1 + w)) = _
  rw [rnz_old h0 hn]
  have hp := rnz_pos (ls := ls) i (by omega)
  have q0 : ∀ p, ¬ p = 2 * (rnz ls i - 1) + 1 → rel ls (i + 1) p = rel ls i p := fun p hp => by rw [rel_old h0 hn, if_neg (by omega)]
  have q1 : rel ls (i + 1) (2 * (rnz ls i - 1) + 1) = rel ls i (2 * (rnz ls i - 1) + 1) + 1 := by
    have c := hr.2.2.1 (by omega)
    rw [show 2 * rnz ls i - 1 = 2 * (rnz ls i - 1) + 1 by omega] at c
    rw [c, rel_old h0 hn, if_pos (by omega), hn]
  by_cases e : w = (rnz ls i - 1) / 2
  · rw [if_pos (by omega), e, show min 4 (2 * rnz ls i - 4 * ((rnz ls i - 1) / 2)) = 2 * ((rnz ls i - 1) % 2) + 2 by omega]
    refine enr_old (fun p => rel_lt hb p (i + 1)) ?_ q0 q1
    rw [hE _ (by omega), show min 4 (2 * rnz ls i - 4 * ((rnz ls i - 1) / 2)) = 2 * ((rnz ls i - 1) % 2) + 2 by omega]
  · rw [if_neg (by omega), hE w hw]
    by_cases e2 : w < (rnz ls i - 1) / 2
    · rw [show min 4 (2 * rnz ls i - 4 * w) = 4 by omega]
      exact pk4_congr 4 (fun j hj => (q0 _ (by omega)).symm)
    · rw [show min 4 (2 * rnz ls i - 4 * w) = 0 by omega]
      rfl
theorem en_hd (h0 : tnz (L 0) = n + v * 32768 + ln * 131072) (hn : n ≤ 16384) (hv : v < 4) (hl : ln ≤ 256) : hsz L 0 = n ∧ hfm L 0 = v ∧ hln L 0 = ln := by
  unfold hsz hfm hln
  rw [show 0 % 8192 = 0 from rfl, h0]
  exact hd_fields (by omega) hv (by omega)
theorem st_enL (hr : ∀ i j, i < j → j < n → ls i < ls j) (hb : ∀ i, ls i < 65536) (hn : n ≤ 16384) (hl : ln ≤ 256) (hln : n ≤ 4 * ln) (h0 : tnz (L 0) = n + 0 * 32768 + ln * 131072) (hE : ∀ w, w < ln → tnz (L (1 + w)) = pk4 ls w (min 4 (n - 4 * w))) : stz L 0 (lmz ls n) := by
  obtain ⟨e0, e1, e2⟩ := en_hd h0 hn (by decide) hl
  refine stz_list hr e1 e0 (by rw [e2]; exact hln) (by rw [e2]; omega) (by rw [e2]; exact hl) (fun i hi => ?_)
  show tnz (L (1 + i / 4)) / 2 ^ (16 * (i % 4)) % 65536 = ls i
  rw [hE _ (by omega), pk4_at hb _ (by omega), show 4 * (i / 4) + i % 4 = i by omega]
theorem st_enB (hr : ∀ i j, i < j → j < n → ls i < ls j) (hn1 : 1 ≤ n) (hn : n ≤ 16384) (hl : ln ≤ 256) (hln : ln = ls (n - 1) / 64 + 1) (h0 : tnz (L 0) = n + 2 * 32768 + ln * 131072) (hE : ∀ t, t / 64 < ln → (btz (L (1 + t / 64)) (t % 64) = true ↔ lmz ls n t = true)) : stz L 0 (lmz ls n) := by
  obtain ⟨e0, e1, e2⟩ := en_hd h0 hn (by decide) hl
  refine stz_bits hr hn1 e1 (by rw [e2]; exact hln) (by rw [e2]; omega) (by rw [e2]; exact hl) (fun t ht => ?_)
  rw [e2] at ht
  exact hE t ht
theorem st_enR (hr : ∀ i j, i < j → j < n → ls i < ls j) (hb : ∀ i, ls i < 65536) (hn1 : 1 ≤ n) (hn : n ≤ 16384) (hl : ln ≤ 256) (hln : ln = (rnz ls n + 1) / 2) (h0 : tnz (L 0) = n + 1 * 32768 + ln * 131072) (hE : ∀ w, w < ln → tnz (L (1 + w)) = pk4 (fun p => if p < 2 * rnz ls n then rel ls n p else rel ls n (p - 2)) w 4) : stz L 0 (lmz ls n) := by
  obtain ⟨e0, e1, e2⟩ := en_hd h0 hn (by decide) hl
  refine stz_runs hr hn1 e1 (by rw [e2]; exact hln) (by rw [e2]; omega) (by rw [e2]; exact hl) (fun p hp => ?_)
  rw [e2] at hp
  show tnz (L (1 + p / 4)) / 2 ^ (16 * (p % 4)) % 65536 = _
  rw [hE _ (by omega), pk4_at (fun i => by show (if i < 2 * rnz ls n then rel ls n i else rel ls n (i - 2)) < 65536; split <;> exact rel_lt hb _ n) _ (by omega), show 4 * (p / 4) + p % 4 = p by omega]
theorem en_Re (hln : ln = (rnz ls n + 1) / 2) (hev : ¬ (rnz ls n - 1) % 2 = 0) (hn1 : 1 ≤ rnz ls n) (hE : ∀ w, w < ln → tnz (L (1 + w)) = pk4 (rel ls n) w (min 4 (2 * rnz ls n - 4 * w))) (w : Nat) (hw : w < ln) : tnz (L (1 + w)) = pk4 (fun p => if p < 2 * rnz ls n then rel ls n p else rel ls n (p - 2)) w 4 := by
  rw [hE w hw, show min 4 (2 * rnz ls n - 4 * w) = 4 by omega]
  exact pk4_congr 4 (fun j hj => (if_pos (by omega)).symm)
theorem en_Ro (hb : ∀ i, ls i < 65536) (hln : ln = (rnz ls n + 1) / 2) (hev : (rnz ls n - 1) % 2 = 0) (hn1 : 1 ≤ rnz ls n) (hE : ∀ w, w < ln → tnz (L (1 + w)) = pk4 (rel ls n) w (min 4 (2 * rnz ls n - 4 * w))) (w : Nat) (hw : w < ln) : tnz ((fun q => if q = ln then L ln ||| (L ln <<< ((32 : Int32).toInt64 &&& 63)) else L q) (1 + w)) = pk4 (fun p => if p < 2 * rnz ls n then rel ls n p else rel ls n (p - 2)) w 4 := by
  show tnz (if 1 + w = ln then L ln ||| (L ln <<< ((32 : Int32).toInt64 &&& 63)) else L (1 + w)) = _
  by_cases e : 1 + w = ln
  · rw [if_pos e, ← e]
    refine enr_end (fun p => rel_lt hb p n) ?_ (fun j hj => if_pos (by omega)) (fun j hj => ?_)
    · rw [hE w hw, show min 4 (2 * rnz ls n - 4 * w) = 2 by omega]
    · show (if 4 * w + 2 + j < 2 * rnz ls n then rel ls n (4 * w + 2 + j) else rel ls n (4 * w + 2 + j - 2)) = _
      rw [if_neg (by omega), show 4 * w + 2 + j - 2 = 4 * w + j by omega]
  · rw [if_neg e, hE w hw, show min 4 (2 * rnz ls n - 4 * w) = 4 by omega]
    exact pk4_congr 4 (fun j hj => (if_pos (by omega)).symm)
theorem i2l_inj {a b : Nat} (ha : a < 2147483648) (hb : b < 2147483648) (h : (nI a).toInt64 = (nI b).toInt64) : a = b := by
  have h1 := congrArg tnz h
  rw [i2l_val ha, i2l_val hb] at h1
  exact h1
theorem and1_n {a : Nat} (ha : a < 2147483648) : nI a &&& 1 = nI (a % 2) := nI_and (w := 1) (by decide) ha
end Written
