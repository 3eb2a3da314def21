/-! SEEKING: where it stands, as data -/
def upo (js : Nat → Option Nat) (k : Nat) (v : Option Nat) : Nat → Option Nat := fun q => if q = k then v else js q
/-- how many pending parts below k have a set -/
def cna (js : Nat → Option Nat) (k : Nat) : Nat := cnb (fun q => (js q).isSome) k
/-- the numbers of the sets: t parts are pending, those below bs have theirs in order -/
def NBR (js : Nat → Option Nat) (into sc bs t : Nat) : Prop :=
  sc = into + cna js t ∧ (∀ k j, k < t → js k = some j → into ≤ j ∧ j < sc) ∧ (∀ k j, k < bs → k < t → js k = some j → j = into + cna js k) ∧ (∀ k j, bs ≤ k → k < t → js k = some j → into + cna js bs ≤ j) ∧ ∀ k k' j, k < t → k' < t → js k = some j → js k' = some j → k = k'
/-- the fields and the items -/
def SKI (V : Ud) (Y : Ts) (a N i0 into n : Nat) (js : Nat → Option Nat) (sc sg : Nat) : Prop :=
  (V.2.1 158 16 = nI (a + n) ∧ V.2.1 158 17 = nI (a + N) ∧ V.2.1 158 18 = nI i0 ∧ V.2.1 158 19 = nI into ∧ V.2.1 158 4 = nI sc ∧ V.2.1 158 20 = nI sg ∧ V.2.1 158 14 = 3) ∧
  (V.1 26).1 = tpz Y a n ∧ ∀ k, k < tpz Y a n → (V.1 26).2 k 0 = nI (a + spz Y a n k) ∧ (V.1 26).2 k 1 = sI (js k)
/-- the sets hold what they are for -/
def CNT (V : Ud) (T : Nat) (E : Nat → Prop) (js : Nat → Option Nat) (t : Nat) (Q : Nat → Nat → Prop) : Prop := ∀ k j, k < t → js k = some j → ∃ q, LSN V 161 j q 256 ∧ ∀ s, s < T → E s → (bts (lgf V 161 j) s = true ↔ Q k s)
section SeekData
variable {js js' : Nat → Option Nat} {into sc sg bs t k k' k0 jl jr x n a N i0 T st0 : Nat} {Y : Ts} {U V : Ud} {E : Nat → Prop} {Q Q' : Nat → Nat → Prop} {v : Option Nat}
theorem upo_at : upo js k v k = v := if_pos rfl
theorem upo_ne (h : ¬ x = k) : upo js k v x = js x := if_neg h
theorem cna_yes (h : ¬ js k = none) : cna js (k + 1) = cna js k + 1 := by
  refine cnb_yes ?_
  cases hj : js k with
  | none => exact absurd hj h
  | some j => rfl
theorem cna_no (h : js k = none) : cna js (k + 1) = cna js k := by
  refine cnb_no ?_
  show ¬ (js k).isSome = true
  rw [h]
  decide
theorem cna_congr : ∀ k, (∀ q, q < k → js' q = js q) → cna js' k = cna js k
  | 0, _ => rfl
  | k + 1, h => by
    have ih := cna_congr k (fun q hq => h q (by omega))
    have hk := h k (by omega)
    by_cases c : js k = none
    · rw [cna_no c, cna_no (hk.trans c), ih]
    · rw [cna_yes c, cna_yes (fun y => c (hk.symm.trans y)), ih]
theorem cna_mono (h : k ≤ k') : cna js k ≤ cna js k' := by
  obtain ⟨d, rfl⟩ := Nat.exists_eq_add_of_le h
  exact cnb_mono d
theorem cna_lt (h : k < k') (hj : ¬ js k = none) : cna js k + 1 ≤ cna js k' := by
  have := cna_mono (js := js) (show k + 1 ≤ k' by omega)
  rw [cna_yes hj] at this
  exact this
theorem cna_upd (h : js k0 = none) : ∀ t, k0 < t → cna (upo js k0 (some x)) t = cna js t + 1
  | 0, ht => absurd ht (Nat.not_lt_zero _)
  | t + 1, ht => by
    by_cases e : t = k0
    · rw [e, cna_no h, cna_yes (by rw [upo_at]; exact fun y => by cases y), cna_congr k0 (fun q hq => upo_ne (by omega))]
    · have ih := cna_upd h t (by omega)
      by_cases c : js t = none
      · rw [cna_no c, cna_no ((upo_ne e).trans c), ih]
      · rw [cna_yes c, cna_yes (fun y => c ((upo_ne e).symm.trans y)), ih]
theorem NBR.lower (h : NBR js into sc t t) (hb : bs ≤ t) : NBR js into sc bs t := by
  obtain ⟨h1, h2, h3, -, h5⟩ := h
  exact ⟨h1, h2, fun k j hk hkt hj => h3 k j hkt hkt hj, fun k j hk hkt hj => by
    have := h3 k j hkt hkt hj
    have := cna_mono (js := js) hk
    omega, h5⟩
theorem NBR.find (h : NBR js into sc bs t) (hk : bs ≤ k0) (hkt : k0 < t) (hn : js k0 = none) : NBR (upo js k0 (some sc)) into (sc + 1) bs t := by
  obtain ⟨h1, h2, h3, h4, h5⟩ := h
  have hc := cna_upd (x := sc) hn t hkt
  have hb : ∀ k, k ≤ k0 → cna (upo js k0 (some sc)) k = cna js k := fun k hk2 => cna_congr k (fun q hq => upo_ne (by omega))
  have hbt := cna_mono (js := js) (show bs ≤ t by omega)
  refine ⟨by omega, fun k j hkk hj => ?_, fun k j hkb hkk hj => ?_, fun k j hkb hkk hj => ?_, fun k k' j hkk hkk' hj hj' => ?_⟩
  · by_cases e : k = k0
    · rw [e, upo_at] at hj
      cases hj
      omega
    · rw [upo_ne e] at hj
      have := h2 k j hkk hj
      omega
  · rw [upo_ne (by omega)] at hj
    rw [hb k (by omega)]
    exact h3 k j hkb hkk hj
  · rw [hb bs hk]
    by_cases e : k = k0
    · rw [e, upo_at] at hj
      cases hj
      omega
    · rw [upo_ne e] at hj
      exact h4 k j hkb hkk hj
  · by_cases e : k = k0
    · by_cases e' : k' = k0
      · omega
      · rw [e, upo_at] at hj
        rw [upo_ne e'] at hj'
        cases hj
        have := h2 k' sc hkk' hj'
        omega
    · by_cases e' : k' = k0
      · rw [e', upo_at] at hj'
        rw [upo_ne e] at hj
        cases hj'
        have := h2 k sc hkk hj
        omega
      · rw [upo_ne e] at hj
        rw [upo_ne e'] at hj'
        exact h5 k k' j hkk hkk' hj hj'
/-- the set that is used again is the first free one of those below -/
theorem NBR.min (h : NBR js into sc bs t) (hp : t = bs + 1 ∨ t = bs + 2) (h1 : js bs = some jl) (h2 : js (t - 1) = some jr) : min jl jr = into + cna js bs := by
  obtain ⟨g1, g2, g3, g4, g5⟩ := h
  have a1 := g4 bs jl (Nat.le_refl _) (by omega) h1
  have a2 := (g2 bs jl (by omega) h1).2
  have c1 := cna_yes (js := js) (k := bs) (by rw [h1]; exact fun y => by cases y)
  rcases hp with rfl | rfl
  · rw [Nat.add_sub_cancel] at h2
    rw [h1] at h2
    cases h2
    show min jl jl = _
    omega
  · have e1 : bs + 2 - 1 = bs + 1 := by omega
    rw [e1] at h2
    have b1 := g4 (bs + 1) jr (by omega) (by omega) h2
    have b2 := (g2 (bs + 1) jr (by omega) h2).2
    have c2 := cna_yes (js := js) (k := bs + 1) (by rw [h2]; exact fun y => by cases y)
    have hne : ¬ jl = jr := fun y => by
      rw [← y] at h2
      have := g5 bs (bs + 1) jl (by omega) (by omega) h1 h2
      omega
    have e2 : cna js (bs + 2) = cna js bs + 2 := by
      show cna js (bs + 1 + 1) = _
      rw [c2, c1]
    show min jl jr = _
    omega
theorem NBR.comb (h : NBR js into sc bs t) (hb : bs ≤ t) : NBR (upo js bs (some (into + cna js bs))) into (into + cna js bs + 1) (bs + 1) (bs + 1) := by
  obtain ⟨h1, h2, h3, h4, h5⟩ := h
  have hc : ∀ k, k ≤ bs → cna (upo js bs (some (into + cna js bs))) k = cna js k := fun k hk => cna_congr k (fun q hq => upo_ne (by omega))
  have key : ∀ k j, k < bs + 1 → upo js bs (some (into + cna js bs)) k = some j → j = into + cna js k := fun k j hk hj => by
    by_cases e : k = bs
    · rw [e, upo_at] at hj
      cases hj
      rw [e]
    · rw [upo_ne e] at hj
      exact h3 k j (by omega) (by omega) hj
  refine ⟨?_, fun k j hk hj => ?_, fun k j hk _ hj => ?_, fun k j hk hk2 => absurd hk2 (by omega), fun k k' j hk hk' hj hj' => ?_⟩
  · rw [cna_yes (by rw [upo_at]; exact fun y => by cases y), hc bs (Nat.le_refl _)]
    omega
  · have := key k j hk hj
    have := cna_mono (js := js) (show k ≤ bs by omega)
    omega
  · rw [hc k (by omega)]
    exact key k j hk hj
  · have e1 := key k j hk hj
    have e2 := key k' j hk' hj'
    have n1 : ¬ upo js bs (some (into + cna js bs)) k = none := fun y => by rw [y] at hj; cases hj
    have n2 : ¬ upo js bs (some (into + cna js bs)) k' = none := fun y => by rw [y] at hj'; cases hj'
    rcases Nat.lt_trichotomy k k' with y | y | y
    · have := cna_lt y n1
      rw [hc k (by omega), hc k' (by omega)] at this
      omega
    · exact y
    · have := cna_lt y n2
      rw [hc k (by omega), hc k' (by omega)] at this
      omega
theorem cna_none (hno : ∀ k, bs ≤ k → k < t → js k = none) : ∀ d, bs + d ≤ t → cna js (bs + d) = cna js bs
  | 0, _ => rfl
  | d + 1, hd => by
    rw [← Nat.add_assoc, cna_no (hno (bs + d) (by omega) (by omega)), cna_none hno d (by omega)]
theorem NBR.skip (h : NBR js into sc t t) (hb : bs ≤ t) (hno : ∀ k, bs ≤ k → k < t → js k = none) : NBR (upo js bs none) into sc (bs + 1) (bs + 1) := by
  obtain ⟨h1, h2, h3, h4, h5⟩ := h
  have hc : ∀ k, k ≤ bs → cna (upo js bs none) k = cna js k := fun k hk => cna_congr k (fun q hq => upo_ne (by omega))
  have hct := cna_none hno (t - bs) (by omega)
  rw [show bs + (t - bs) = t by omega] at hct
  have old : ∀ k j, k < bs + 1 → upo js bs none k = some j → k < bs ∧ js k = some j := fun k j hk hj => by
    by_cases e : k = bs
    · rw [e, upo_at] at hj; cases hj
    · rw [upo_ne e] at hj; exact ⟨by omega, hj⟩
  refine ⟨?_, fun k j hk hj => ?_, fun k j hk _ hj => ?_, fun k j hk hk2 => absurd hk2 (by omega), fun k k' j hk hk' hj hj' => ?_⟩
  · rw [cna_no upo_at, hc bs (Nat.le_refl _)]
    omega
  · obtain ⟨y1, y2⟩ := old k j hk hj
    exact h2 k j (by omega) y2
  · obtain ⟨y1, y2⟩ := old k j hk hj
    rw [hc k (by omega)]
    exact h3 k j (by omega) (by omega) y2
  · obtain ⟨y1, y2⟩ := old k j hk hj
    obtain ⟨y3, y4⟩ := old k' j hk' hj'
    exact h5 k k' j (by omega) (by omega) y2 y4
/-- no more sets than timed parts, below an operator -/
theorem cna_tm (h : ∀ k, k < bs → ¬ js k = none → TMZ Y a n k) : ∀ k, k ≤ bs → cna js k ≤ ctn (TMZ Y a n) k
  | 0, _ => Nat.le_refl _
  | k + 1, hk => by
    have ih := cna_tm h k (by omega)
    show _ ≤ ctn (TMZ Y a n) k + @ite Nat (TMZ Y a n k) (Classical.propDecidable _) 1 0
    by_cases c : js k = none
    · rw [cna_no c]; exact Nat.le_trans ih (Nat.le_add_right _ _)
    · rw [cna_yes c, if_pos (h k (by omega) c)]; exact Nat.add_le_add_right ih 1
/-- the items behind an operator -/
theorem SKI.next {b a1 : Nat} {y : Int32} (h : SKI U Y a N i0 into n js sc sg) (hb : bse Y a n = b) (hle : b ≤ tpz Y a n) (h26 : V.1 26 = U.1 26) (i17 : V.2.1 158 17 = U.2.1 158 17) (i18 : V.2.1 158 18 = U.2.1 158 18) (i19 : V.2.1 158 19 = U.2.1 158 19) (i14 : V.2.1 158 14 = U.2.1 158 14) {sc' sg' : Nat} (i4 : V.2.1 158 4 = nI sc') (i20 : V.2.1 158 20 = nI sg') (hst : st0 = a + spz Y a (n + 1) b) (hv : y = sI v) (ha : a1 = a + (n + 1)) : SKI (SKB V b (nI st0) y a1) Y a N i0 into (n + 1) (upo js b v) sc' sg' := by
  obtain ⟨⟨f1, f2, f3, f4, f5, f6, f7⟩, g1, g2⟩ := h
  have e26 : (SKB V b (nI st0) y a1).1 26 = tput 2 (tcut (U.1 26) b) (nI st0) y 0 0 := by
    show fu (fu V.1 26 (tcut (V.1 26) b)) 26 (tput (wa 26) ((fu V.1 26 (tcut (V.1 26) b)) 26) (nI st0) y 0 0) 26 = _
    rw [fu_at, fu_at, h26]
    rfl
  refine ⟨⟨?_, ?_, ?_, ?_, ?_, ?_, ?_⟩, ?_, fun k hk => ?_⟩
  · rw [← ha]; rfl
  · exact i17.trans f2
  · exact i18.trans f3
  · exact i19.trans f4
  · exact i4
  · exact i20
  · exact i14.trans f7
  · rw [e26, tpz_bs, hb]; rfl
  · rw [e26]
    rw [tpz_bs, hb] at hk
    by_cases e : k = b
    · rw [e]
      refine ⟨?_, ?_⟩
      · show (if b = b then (if 0 < 2 then rw_col (nI st0) y 0 0 0 else 0) else _) = _
        rw [if_pos rfl, if_pos (by decide), hst]
        rfl
      · show (if b = b then (if 1 < 2 then rw_col (nI st0) y 0 0 1 else 0) else _) = _
        rw [if_pos rfl, if_pos (by decide), upo_at, ← hv]
        rfl
    · have e1 : ∀ c, (tput 2 (tcut (U.1 26) b) (nI st0) y 0 0).2 k c = (U.1 26).2 k c := fun c => by
        show (if k = b then _ else (if k < b then (U.1 26).2 k c else 0)) = _
        rw [if_neg e, if_pos (by omega)]
      obtain ⟨y1, y2⟩ := g2 k (by omega)
      rw [e1, e1, upo_ne e, spz_old (by rw [hb]; exact e)]
      exact ⟨y1, y2⟩
end SeekData
