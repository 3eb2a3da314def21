/-! WHAT THE PARSER WRITES: kinds of parts, a closed code -/
def rep2 : Nat → List Bool
  | 0 => []
  | a + 1 => true :: false :: rep2 a
/-- the kinds (an E: false, a CHOICE: true) that an operator takes, the last first -/
def kin (o a : Nat) : List Bool :=
  if o ≤ 3 then [] else if (9 ≤ o ∧ o ≤ 15) ∨ o = 27 ∨ o = 32 then [false]
  else if o = 30 then List.replicate (a + 1) false else if o = 33 then List.replicate a false
  else if o = 31 then List.replicate (2 * a) false else if o = 34 then rep2 a else [false, false]
def ktake (o a : Nat) (L : List Bool) : Option (List Bool) := if (kin o a).isPrefixOf L = true then some (decide (32 ≤ o) :: L.drop (kin o a).length) else none
/-- the kinds that n operators from a on leave -/
def kst (t : Tb) (a : Nat) : Nat → Option (List Bool)
  | 0 => some []
  | n + 1 => (kst t a n).bind (ktake (t.2 (a + n) 0).toNatClampNeg (t.2 (a + n) 1).toNatClampNeg)
section Kinds
theorem ktake_app (o a : Nat) (R : List Bool) : ktake o a (kin o a ++ R) = some (decide (32 ≤ o) :: R) := by
  unfold ktake
  rw [if_pos (List.isPrefixOf_iff_prefix.mpr (List.prefix_append _ _)), List.drop_left]
theorem ktake_len {o a : Nat} {L L' : List Bool} (h : ktake o a L = some L') : L'.length ≤ L.length + 1 := by
  unfold ktake at h
  split at h
  · have e := (Option.some.inj h).symm
    subst e
    simp only [List.length_cons, List.length_drop]
    omega
  · cases h
theorem kst_len {t : Tb} {a : Nat} : ∀ {n : Nat} {L : List Bool}, kst t a n = some L → L.length ≤ n
  | 0, L, h => by
    have e := (Option.some.inj h).symm
    subst e
    exact Nat.le_refl _
  | n + 1, L, h => by
    unfold kst at h
    cases hk : kst t a n with
    | none => rw [hk] at h; cases h
    | some L0 =>
      rw [hk] at h
      have h1 := ktake_len (show ktake _ _ L0 = some L from h)
      have h2 := kst_len hk
      omega
theorem kst_congr {t t' : Tb} {a : Nat} : ∀ {n : Nat}, (∀ i, i < n → t'.2 (a + i) 0 = t.2 (a + i) 0 ∧ t'.2 (a + i) 1 = t.2 (a + i) 1) → kst t' a n = kst t a n
  | 0, _ => rfl
  | n + 1, h => by
    unfold kst
    rw [kst_congr (n := n) (fun i hi => h i (by omega)), (h n (by omega)).1, (h n (by omega)).2]
/-- one operator more -/
theorem kst_put {t : Tb} {a W : Nat} {op arg c e : Int32} {L R : List Bool} (hW : 2 ≤ W) (ha : a ≤ t.1) (h : kst t a (t.1 - a) = some L) (hL : L = kin op.toNatClampNeg arg.toNatClampNeg ++ R) : kst (tput W t op arg c e) a ((tput W t op arg c e).1 - a) = some (decide (32 ≤ op.toNatClampNeg) :: R) := by
  have e1 : (tput W t op arg c e).1 - a = (t.1 - a) + 1 := by show t.1 + 1 - a = _; omega
  rw [e1]
  show (kst (tput W t op arg c e) a (t.1 - a)).bind _ = _
  rw [kst_congr (t := t) (fun i hi => ?_), h]
  · show ktake ((tput W t op arg c e).2 (a + (t.1 - a)) 0).toNatClampNeg ((tput W t op arg c e).2 (a + (t.1 - a)) 1).toNatClampNeg L = _
    have e2 : a + (t.1 - a) = t.1 := by omega
    rw [e2]
    have e3 : (tput W t op arg c e).2 t.1 0 = op := by
      show (if t.1 = t.1 then (if 0 < W then rw_col op arg c e 0 else 0) else t.2 t.1 0) = op
      rw [if_pos rfl, if_pos (by omega)]; rfl
    have e4 : (tput W t op arg c e).2 t.1 1 = arg := by
      show (if t.1 = t.1 then (if 1 < W then rw_col op arg c e 1 else 0) else t.2 t.1 1) = arg
      rw [if_pos rfl, if_pos (by omega)]; rfl
    rw [e3, e4, hL]
    exact ktake_app _ _ _
  · show (if a + i = t.1 then _ else t.2 (a + i) 0) = _ ∧ (if a + i = t.1 then _ else t.2 (a + i) 1) = _
    rw [if_neg (by omega), if_neg (by omega)]
    exact ⟨rfl, rfl⟩
end Kinds
/-- what waits below a row of the stack -/
def want (o k : Nat) : List Bool :=
  if (4 ≤ o ∧ o ≤ 8) ∨ (16 ≤ o ∧ o ≤ 26) ∨ o = 46 then [false]
  else if o = 47 then List.replicate (k + 1) false else if o = 50 then List.replicate k false
  else if o = 48 then List.replicate (2 * k) false else if o = 49 then List.replicate (2 * k + 1) false
  else if o = 52 then rep2 k else if o = 53 then false :: rep2 k else []
def flat (t : Tb) : Nat → List Bool
  | 0 => []
  | i + 1 => want (t.2 i 0).toNatClampNeg (t.2 i 1).toNatClampNeg ++ flat t i
def sok (p q : Nat) : Prop := (((4 ≤ q ∧ q ≤ 27) ∨ (44 ≤ q ∧ q ≤ 49)) ∧ p ≠ 43 ∧ p ≠ 53) ∨ ((50 ≤ q ∧ q ≤ 53) ∧ (p = 43 ∨ p = 53))
def nok (q : Nat) (v : Int32) : Prop := ((q = 45 ∨ q = 46) → v = 28 ∨ v = 29) ∧ (47 ≤ q → v = nI v.toNatClampNeg) ∧ (q ≤ 27 → v = 0 ∨ v = 1)
def so (t : Tb) (i : Nat) : Nat := (t.2 i 0).toNatClampNeg
/-- the stack: an item at its bottom, above it what may stand there -/
def sk (t : Tb) : Prop := 1 ≤ t.1 ∧ (40 ≤ so t 0 ∧ so t 0 ≤ 43) ∧ ∀ i, i < t.1 → t.2 i 0 = nI (so t i) ∧ so t i < 54 ∧ (1 ≤ i → sok (so t (i - 1)) (so t i)) ∧ nok (so t i) (t.2 i 1)
def trn (t : Tb) (c v : Int32) : Tb := (t.1, fun i k => if i = t.1 - 1 ∧ 1 ≤ t.1 then (if k = 0 then c else if k = 1 then v else t.2 i k) else t.2 i k)
section Stack
variable {t : Tb}
theorem flat_congr {t' : Tb} : ∀ {n : Nat}, (∀ i, i < n → t'.2 i 0 = t.2 i 0 ∧ t'.2 i 1 = t.2 i 1) → flat t' n = flat t n
  | 0, _ => rfl
  | n + 1, h => by
    unfold flat
    rw [flat_congr (n := n) (fun i hi => h i (by omega)), (h n (by omega)).1, (h n (by omega)).2]
theorem flat_push {w v : Int32} : flat (tput 2 t w v 0 0) (t.1 + 1) = want w.toNatClampNeg v.toNatClampNeg ++ flat t t.1 := by
  show want ((tput 2 t w v 0 0).2 t.1 0).toNatClampNeg ((tput 2 t w v 0 0).2 t.1 1).toNatClampNeg ++ flat (tput 2 t w v 0 0) t.1 = _
  have e3 : (tput 2 t w v 0 0).2 t.1 0 = w := if_pos rfl
  have e4 : (tput 2 t w v 0 0).2 t.1 1 = v := if_pos rfl
  rw [e3, e4, flat_congr (t := t) (fun i hi => ⟨if_neg (by omega), if_neg (by omega)⟩)]
theorem flat_top (h : 1 ≤ t.1) : flat t t.1 = want (so t (t.1 - 1)) (t.2 (t.1 - 1) 1).toNatClampNeg ++ flat t (t.1 - 1) := by
  obtain ⟨k, hk⟩ : ∃ k, t.1 = k + 1 := ⟨t.1 - 1, by omega⟩
  rw [hk]
  rfl
theorem flat_cut : flat (tcut t (t.1 - 1)) (t.1 - 1) = flat t (t.1 - 1) := flat_congr (fun i hi => ⟨if_pos hi, if_pos hi⟩)
theorem turn_lt {c v : Int32} {i k : Nat} (hi : i < t.1 - 1) : (trn t c v).2 i k = t.2 i k := if_neg (by omega)
theorem turn_0 {c v : Int32} (h : 1 ≤ t.1) : (trn t c v).2 (t.1 - 1) 0 = c := if_pos ⟨rfl, h⟩
theorem turn_1 {c v : Int32} (h : 1 ≤ t.1) : (trn t c v).2 (t.1 - 1) 1 = v := if_pos ⟨rfl, h⟩
theorem flat_turn {c v : Int32} (h : 1 ≤ t.1) : flat (trn t c v) t.1 = want c.toNatClampNeg v.toNatClampNeg ++ flat t (t.1 - 1) := by
  refine (flat_top (t := trn t c v) h).trans ?_
  show want ((trn t c v).2 (t.1 - 1) 0).toNatClampNeg ((trn t c v).2 (t.1 - 1) 1).toNatClampNeg ++ flat (trn t c v) (t.1 - 1) = _
  rw [turn_0 h, turn_1 h, flat_congr (t := t) (fun i hi => ⟨turn_lt hi, turn_lt hi⟩)]
theorem nI_cl {k : Nat} (h : k < 54) : (nI k).toNatClampNeg = k := nI_clamp (by omega)
theorem sk.push {w : Nat} {v : Int32} (h : sk t) (hw : w < 54) (hs : sok (so t (t.1 - 1)) w) (hn : nok w v) : sk (tput 2 t (nI w) v 0 0) ∧ ∀ k, (tput 2 t (nI w) v 0 0).2 0 k = t.2 0 k := by
  obtain ⟨h1, h2, h3⟩ := h
  have lt : ∀ i k, i < t.1 → (tput 2 t (nI w) v 0 0).2 i k = t.2 i k := fun i k hi => if_neg (by omega)
  have e3 : (tput 2 t (nI w) v 0 0).2 t.1 0 = nI w := if_pos rfl
  have e4 : (tput 2 t (nI w) v 0 0).2 t.1 1 = v := if_pos rfl
  have so_lt : ∀ i, i < t.1 → so (tput 2 t (nI w) v 0 0) i = so t i := fun i hi => by unfold so; rw [lt i 0 hi]
  have so_n : so (tput 2 t (nI w) v 0 0) t.1 = w := by unfold so; rw [e3]; exact nI_cl hw
  refine ⟨⟨by show 1 ≤ t.1 + 1; omega, by rw [so_lt 0 (by omega)]; exact h2, fun i hi => ?_⟩, fun k => lt 0 k (by omega)⟩
  by_cases hi2 : i < t.1
  · rw [so_lt i hi2, lt i 0 hi2, lt i 1 hi2]
    refine ⟨(h3 i hi2).1, (h3 i hi2).2.1, fun hi1 => ?_, (h3 i hi2).2.2.2⟩
    rw [so_lt (i - 1) (by omega)]
    exact (h3 i hi2).2.2.1 hi1
  · have hie : i = t.1 := by have : i < t.1 + 1 := hi; omega
    subst hie
    rw [so_n, e3, e4]
    refine ⟨rfl, hw, fun hi1 => ?_, hn⟩
    rw [so_lt (t.1 - 1) (by omega)]
    exact hs
theorem sk.cut (h : sk t) (h2 : 2 ≤ t.1) : sk (tcut t (t.1 - 1)) ∧ ∀ k, (tcut t (t.1 - 1)).2 0 k = t.2 0 k := by
  obtain ⟨h1, hb, h3⟩ := h
  have lt : ∀ i k, i < t.1 - 1 → (tcut t (t.1 - 1)).2 i k = t.2 i k := fun i k hi => if_pos hi
  have so_lt : ∀ i, i < t.1 - 1 → so (tcut t (t.1 - 1)) i = so t i := fun i hi => by unfold so; rw [lt i 0 hi]
  refine ⟨⟨by show 1 ≤ t.1 - 1; omega, by rw [so_lt 0 (by omega)]; exact hb, fun i hi => ?_⟩, fun k => lt 0 k (by omega)⟩
  have hi : i < t.1 - 1 := hi
  rw [so_lt i hi, lt i 0 hi, lt i 1 hi]
  refine ⟨(h3 i (by omega)).1, (h3 i (by omega)).2.1, fun hi1 => ?_, (h3 i (by omega)).2.2.2⟩
  rw [so_lt (i - 1) (by omega)]
  exact (h3 i (by omega)).2.2.1 hi1
theorem sk.turn {c : Nat} {v : Int32} (h : sk t) (h2 : 2 ≤ t.1) (hc : c < 54) (hs : sok (so t (t.1 - 2)) c) (hn : nok c v) : sk (trn t (nI c) v) ∧ ∀ k, (trn t (nI c) v).2 0 k = t.2 0 k := by
  obtain ⟨h1, hb, h3⟩ := h
  have so_lt : ∀ i, i < t.1 - 1 → so (trn t (nI c) v) i = so t i := fun i hi => by unfold so; rw [turn_lt hi]
  have so_n : so (trn t (nI c) v) (t.1 - 1) = c := by unfold so; rw [turn_0 h1]; exact nI_cl hc
  refine ⟨⟨h1, by rw [so_lt 0 (by omega)]; exact hb, fun i hi => ?_⟩, fun k => turn_lt (by omega)⟩
  have hi : i < t.1 := hi
  by_cases hi2 : i < t.1 - 1
  · rw [so_lt i hi2, turn_lt hi2, turn_lt hi2]
    refine ⟨(h3 i hi).1, (h3 i hi).2.1, fun hi1 => ?_, (h3 i hi).2.2.2⟩
    rw [so_lt (i - 1) (by omega)]
    exact (h3 i hi).2.2.1 hi1
  · have hie : i = t.1 - 1 := by omega
    subst hie
    rw [so_n, turn_0 h1, turn_1 h1]
    refine ⟨rfl, hc, fun hi1 => ?_, hn⟩
    rw [so_lt (t.1 - 1 - 1) (by omega)]
    exact hs
/-- two writes make a turn -/
theorem tset_turn {c v : Int32} {row : Int32} (h1 : 1 ≤ t.1) (hn : t.1 < 2147483648) (hr : row = nI (t.1 - 1)) : tset 2 (tset 2 t row 0 c) row 1 v = trn t c v := by
  subst hr
  unfold tset
  rw [if_neg (nI_pos (by omega)), if_neg (nI_pos (by omega)), nI_clamp (by omega), if_pos (show t.1 - 1 < t.1 ∧ 0 < 2 by omega), if_pos (show t.1 - 1 < t.1 ∧ 1 < 2 by omega)]
  refine Prod.ext rfl (funext fun i => funext fun k => ?_)
  show (if i = t.1 - 1 ∧ k = 1 then v else (if i = t.1 - 1 ∧ k = 0 then c else t.2 i k)) = (if i = t.1 - 1 ∧ 1 ≤ t.1 then (if k = 0 then c else if k = 1 then v else t.2 i k) else t.2 i k)
  by_cases hi : i = t.1 - 1
  · rw [if_pos (show i = t.1 - 1 ∧ 1 ≤ t.1 from ⟨hi, h1⟩)]
    by_cases hk1 : k = 1
    · subst hk1
      rw [if_pos ⟨hi, rfl⟩, if_neg (by decide), if_pos rfl]
    · rw [if_neg (fun z => hk1 z.2)]
      by_cases hk0 : k = 0
      · rw [if_pos ⟨hi, hk0⟩, if_pos hk0]
      · rw [if_neg (fun z => hk0 z.2), if_neg hk0, if_neg hk1]
  · rw [if_neg (fun z => hi z.1), if_neg (fun z => hi z.1), if_neg (fun z => hi z.1)]
end Stack
