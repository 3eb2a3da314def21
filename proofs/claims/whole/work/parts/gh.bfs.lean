/-! BREADTH FIRST: what is in the queue is what can be reached -/
/-- what can be reached -/
def RCH (ini : Nat → Prop) (G : Nat → Nat → Prop) (s : Nat) : Prop := ∀ P : Nat → Prop, (∀ x, ini x → P x) → (∀ x y, P x → G x y → P y) → P s
/-- a queue between two visits: what is in it, what is unseen, which rows have been looked at -/
def BFQ (V : Ud) (E ini : Nat → Prop) (G : Nat → Nat → Prop) (rx qu : Nat → Nat) (T R wn tl hh : Nat) : Prop :=
  (V.2.1 147 18 = nI tl ∧ V.2.1 147 17 = nI hh ∧ hh ≤ tl) ∧
  (∀ i, i < tl → (V.2.2.1 147 12).2 i = nI (qu i) ∧ qu i < T ∧ RCH ini G (qu i)) ∧
  (∀ i j, i < tl → j < tl → qu i = qu j → i = j) ∧
  (∀ s, ini s → ∃ i, i < tl ∧ qu i = s) ∧
  (∀ s, s < 64 * wn → (bts (V.2.2.2.2.1 150) s = true ↔ E s ∧ ∀ i, i < tl → ¬ qu i = s)) ∧
  (∃ c, V.2.1 147 16 = nI c ∧ c ≤ wn ∧ ∀ i, i < c → V.2.2.2.2.1 150 i = 0) ∧
  (∀ r, r < R → ((V.2.2.1 147 10).2 (r * 7 + 1) = 0 ∨ (V.2.2.1 147 10).2 (r * 7 + 1) = 1) ∧ (¬ (V.2.2.1 147 10).2 (r * 7 + 1) = 0 ↔ ∃ i, i < hh ∧ rx (qu i) = r)) ∧
  (∀ i, i < hh → ¬ V.2.1 147 15 = nI (rx (qu i)) → ∀ t, G (qu i) t → ∃ j, j < tl ∧ qu j = t) ∧
  (V.2.1 147 15 = -1 ∨ ∃ k, hh = k + 1 ∧ V.2.1 147 15 = nI (rx (qu k)))
section Bfs
variable {U V X : Ud} {E ini : Nat → Prop} {G RW : Nat → Nat → Prop} {rx qu ls ix : Nat → Nat} {T R wn tl hh k n bf bt s t : Nat}
theorem RCH.i0 (h : ini s) : RCH ini G s := fun P h1 _ => h1 s h
theorem RCH.st (h : RCH ini G s) (hg : G s t) : RCH ini G t := fun P h1 h2 => h2 s t (h P h1 h2) hg
theorem btz_xm1 {x : Int64} {b : Nat} (hb : b < 64) : btz (x ^^^ (-1 : Int64)) b = !(btz x b) := by
  have e : btz (x ^^^ (-1 : Int64)) b = (btz x b ^^ btz (-1) b) := by unfold btz; rw [Int64.toBitVec_xor, BitVec.getLsbD_xor]
  rw [e, btz_m1 hb]
  cases btz x b <;> rfl
theorem bts_diff {L A B : Nat → Int64} (h : L (s / 64) = A (s / 64) &&& (B (s / 64) ^^^ (-1 : Int64))) : bts L s = (bts A s && !(bts B s)) := by
  unfold bts
  rw [h, btz_and, btz_xm1 (Nat.mod_lt _ (by decide))]
/-- at the end all that can be reached is in the queue -/
theorem BFQ.fin (h : BFQ V E ini G rx qu T R wn tl hh) (hw : V.2.1 147 15 = -1) (hrb : ∀ i, i < tl → rx (qu i) < 2147483648) (hend : hh = tl ∨ ∀ i, i < wn → V.2.2.2.2.1 150 i = 0) (hG : ∀ s t, G s t → E t) (hE : ∀ s, E s → s < 64 * wn) (s : Nat) : RCH ini G s ↔ ∃ i, i < tl ∧ qu i = s := by
  obtain ⟨⟨h18, h17, hht⟩, hq, hinj, hini, hun, hcur, hix, hfo, hwa⟩ := h
  constructor
  · intro hr
    refine hr (fun s => ∃ i, i < tl ∧ qu i = s) hini (fun x y hx hg => ?_)
    obtain ⟨i, hi, rfl⟩ := hx
    rcases hend with he | he
    · refine hfo i (by omega) (fun y2 => ?_) y hg
      rw [hw] at y2
      exact absurd y2.symm (nI_neg1 (hrb i hi))
    · refine Classical.byContradiction (fun hno => ?_)
      have hy := hE y (hG _ _ hg)
      have y1 := (hun y hy).mpr ⟨hG _ _ hg, fun j hj e => hno ⟨j, hj, e⟩⟩
      unfold bts at y1
      rw [he (y / 64) (by omega), btz_0] at y1
      cases y1
  · rintro ⟨i, hi, rfl⟩
    exact (hq i hi).2.2
/-- a row has been looked at -/
theorem BFQ.row (h : BFQ U E ini G rx qu T R wn tl (k + 1)) (hrx : ∀ s, s < T → rx s < R) (hRb : R < 2147483648) (hwk : U.2.1 147 15 = nI (rx (qu k)))
    (hz : BZ U bf bt) (hwn : wn ≤ 256) (hET : ∀ s, E s → s < T) (hG : ∀ s t, s < T → (G s t ↔ RW (rx s) t)) (hGE : ∀ s t, G s t → E t) (hbits : ∀ s, s < T → (bts (U.2.2.2.2.1 146) s = true ↔ RW (rx (qu k)) s)) (hTw : T ≤ 64 * wn)
    (h150 : X.2.2.2.2.1 150 = V.2.2.2.2.1 150) (hX : X.2.1 147 18 = V.2.1 147 18 ∧ X.2.2.1 147 12 = V.2.2.1 147 12 ∧ X.2.2.1 147 13 = V.2.2.1 147 13 ∧ X.2.2.1 147 10 = U.2.2.1 147 10)
    (hQ : QNW X U tl T (qu k) n ls) (hen : enw ls n (BNW U T) bt)
    (hU : ∀ i, X.2.2.2.2.1 150 i = if bf ≤ i ∧ i < bt then U.2.2.2.2.1 150 i &&& ((U.2.2.2.2.1 146 i &&& U.2.2.2.2.1 150 i) ^^^ (-1 : Int64)) else U.2.2.2.2.1 150 i)
    (hhh : k + 1 ≤ hh ∧ hh ≤ tl + n) (h17 : V.2.1 147 17 = nI hh) (hc : ∃ c, V.2.1 147 16 = nI c ∧ c ≤ wn ∧ ∀ i, i < c → X.2.2.2.2.1 150 i = 0)
    (hix : ∀ r, r < R → (U.2.2.1 147 10).2 (r * 7 + 1) = nI (ix r) ∧ ix r < 2147483648) (hOP : OPW X V ix rx (fun i => if i < tl then qu i else ls (i - tl)) (k + 1) hh) :
    BFQ V E ini G rx (fun i => if i < tl then qu i else ls (i - tl)) T R wn (tl + n) hh := by
  obtain ⟨⟨hu18, hu17, hht⟩, hq, hinj, hini, hun, hcur, hux, hfo, hwa⟩ := h
  obtain ⟨hQ1, hQ2, hQ3, hQ4, hQ5⟩ := hQ
  have hold : ∀ i, i < tl → (fun i => if i < tl then qu i else ls (i - tl)) i = qu i := fun i hi => if_pos hi
  have hnew : ∀ i, i < n → (fun i => if i < tl then qu i else ls (i - tl)) (tl + i) = ls i := fun i hi => by
    show (if tl + i < tl then qu (tl + i) else ls (tl + i - tl)) = ls i
    rw [if_neg (by omega), show tl + i - tl = i by omega]
  have hlsB : ∀ i, i < n → BNW U T (ls i) = true ∧ ls i < 64 * bt := fun i hi => by
    have y := (hen.2 (ls i)).mp ⟨i, hi, rfl⟩
    exact ⟨y.2, y.1⟩
  have hkT : qu k < T := (hq k (by omega)).2.1
  have hlsG : ∀ i, i < n → G (qu k) (ls i) := fun i hi => (hG _ _ hkT).mpr ((hbits _ (bnw_T (hlsB i hi).1)).mp (bnw_is (hlsB i hi).1).1)
  have hnin : ∀ i j, i < tl → j < n → ¬ qu i = ls j := fun i j hi hj e => by
    have y := ((hun (ls j) (by have y1 := bnw_T (hlsB j hj).1; omega)).mp (bnw_is (hlsB j hj).1).2).2 i hi
    exact y e
  -- what the queue is then
  generalize hqn : (fun i => if i < tl then qu i else ls (i - tl)) = qn at hold hnew hOP ⊢
  have hall : ∀ i, i < tl + n → (i < tl ∧ qn i = qu i) ∨ ∃ j, j < n ∧ i = tl + j ∧ qn i = ls j := fun i hi => by
    by_cases y : i < tl
    · exact Or.inl ⟨y, hold i y⟩
    · refine Or.inr ⟨i - tl, by omega, by omega, ?_⟩
      have y2 := hnew (i - tl) (by omega)
      rw [show tl + (i - tl) = i by omega] at y2
      exact y2
  have hqT : ∀ i, i < tl + n → qn i < T := fun i hi => by
    rcases hall i hi with ⟨y, e⟩ | ⟨j, hj, _, e⟩
    · rw [e]
      exact (hq i y).2.1
    · rw [e]
      exact bnw_T (hlsB j hj).1
  -- what the row leads to is in the queue
  have hrow : ∀ t, RW (rx (qu k)) t → ∃ j, j < tl + n ∧ qn j = t := fun t ht => by
    have hg : G (qu k) t := (hG _ _ hkT).mpr ht
    have hE := hGE _ _ hg
    have htT := hET t hE
    have hb := (hbits t htT).mpr ht
    by_cases y : bts (U.2.2.2.2.1 150) t = true
    · have hBN : BNW U T t = true := by
        unfold BNW
        rw [hb, y, decide_eq_true htT]
        rfl
      have htb : t < 64 * bt := by
        refine Nat.lt_of_not_le (fun y2 => ?_)
        have y3 := hz.2 (t / 64) (by omega) (by omega)
        unfold bts at hb
        rw [y3, btz_0] at hb
        cases hb
      obtain ⟨i, hi, e⟩ := (hen.2 t).mpr ⟨htb, hBN⟩
      exact ⟨tl + i, by omega, (hnew i hi).trans e⟩
    · refine Classical.byContradiction (fun hno => y ((hun t (by omega)).mpr ⟨hE, fun i hi e => hno ⟨i, by omega, (hold i hi).trans e⟩⟩))
  have hrows : ∀ i, i < k + 1 → ∀ t, RW (rx (qu i)) t → ∃ j, j < tl + n ∧ qn j = t := fun i hi t ht => by
    by_cases y : rx (qu i) = rx (qu k)
    · rw [y] at ht
      exact hrow t ht
    · obtain ⟨j, hj, e⟩ := hfo i hi (fun y2 => y (by rw [hwk] at y2; exact (nI_inj (by have y3 := hrx _ hkT; omega) (by have y3 := hrx _ (hq i (by omega)).2.1; omega) y2).symm)) t ((hG _ _ (hq i (by omega)).2.1).mpr ht)
      exact ⟨j, by omega, (hold j hj).trans e⟩
  have hseen : ∀ r, r < R → ¬ ix r = 0 → ∃ i, i < k + 1 ∧ rx (qu i) = r := fun r hr y => by
    refine (hux r hr).2.mp (fun y2 => y ?_)
    rw [(hix r hr).1] at y2
    exact nI_inj (hix r hr).2 (by decide) y2
  have hrxn : ∀ i, i < tl + n → rx (qn i) < R := fun i hi => hrx _ (hqT i hi)
  refine ⟨⟨hX.1.symm.trans hQ1, h17, hhh.2⟩, fun i hi => ?_, fun i j hi hj he => ?_, fun s hs => ?_, fun s hs => ?_, ?_, fun r hr => ?_, fun i hi hne t hg => ?_, ?_⟩
  · rw [← hX.2.1]
    rcases hall i hi with ⟨y, e⟩ | ⟨j, hj, hij, e⟩
    · rw [e, hQ3 i y]
      exact hq i y
    · rw [e, hij, hQ2 j hj]
      exact ⟨rfl, bnw_T (hlsB j hj).1, (hq k (by omega)).2.2.st (hlsG j hj)⟩
  · rcases hall i hi with ⟨y, e⟩ | ⟨i2, hi2, hii, e⟩ <;> rcases hall j hj with ⟨y', e'⟩ | ⟨j2, hj2, hjj, e'⟩
    · rw [e, e'] at he
      exact hinj i j y y' he
    · rw [e, e'] at he
      exact absurd he (hnin i j2 y hj2)
    · rw [e, e'] at he
      exact absurd he.symm (hnin j i2 y' hi2)
    · rw [e, e'] at he
      have : i2 = j2 := by
        rcases Nat.lt_or_ge i2 j2 with z | z
        · have := hen.1 i2 j2 z hj2
          omega
        · rcases Nat.lt_or_ge j2 i2 with z2 | z2
          · have := hen.1 j2 i2 z2 hi2
            omega
          · omega
      omega
  · obtain ⟨i, hi, e⟩ := hini s hs
    exact ⟨i, by omega, (hold i hi).trans e⟩
  · rw [← h150]
    have e1 : bts (X.2.2.2.2.1 150) s = (bts (U.2.2.2.2.1 150) s && !(bts (U.2.2.2.2.1 146) s && bts (U.2.2.2.2.1 150) s)) := by
      by_cases y : bf ≤ s / 64 ∧ s / 64 < bt
      · have y2 := hU (s / 64)
        rw [if_pos y] at y2
        have y3 := bts_diff (s := s) (L := X.2.2.2.2.1 150) (A := U.2.2.2.2.1 150) (B := fun i => U.2.2.2.2.1 146 i &&& U.2.2.2.2.1 150 i) y2
        rw [y3]
        have y4 : bts (fun i => U.2.2.2.2.1 146 i &&& U.2.2.2.2.1 150 i) s = (bts (U.2.2.2.2.1 146) s && bts (U.2.2.2.2.1 150) s) := btz_and
        rw [y4]
      · have y2 := hU (s / 64)
        rw [if_neg y] at y2
        have y3 : bts (U.2.2.2.2.1 146) s = false := by
          unfold bts
          rw [hz.2 (s / 64) (by omega) y, btz_0]
        have y4 : bts (X.2.2.2.2.1 150) s = bts (U.2.2.2.2.1 150) s := by
          unfold bts
          rw [y2]
        rw [y3, y4]
        cases bts (U.2.2.2.2.1 150) s <;> rfl
    rw [e1]
    constructor
    · intro y
      have y1 : bts (U.2.2.2.2.1 150) s = true ∧ ¬ bts (U.2.2.2.2.1 146) s = true := by
        cases hA : bts (U.2.2.2.2.1 150) s <;> cases hB : bts (U.2.2.2.2.1 146) s <;> rw [hA, hB] at y <;> first | exact ⟨rfl, by decide⟩ | cases y
      obtain ⟨yE, yn⟩ := (hun s hs).mp y1.1
      refine ⟨yE, fun i hi e => ?_⟩
      rcases hall i hi with ⟨z, e'⟩ | ⟨j, hj, _, e'⟩
      · exact yn i z (e'.symm.trans e)
      · refine y1.2 ?_
        rw [← e, e']
        exact (bnw_is (hlsB j hj).1).1
    · rintro ⟨yE, yn⟩
      have y1 := (hun s hs).mpr ⟨yE, fun i hi e => yn i (by omega) ((hold i hi).trans e)⟩
      have y2 : bts (U.2.2.2.2.1 146) s = false := by
        refine Bool.eq_false_iff.mpr (fun y2 => ?_)
        obtain ⟨j, hj, e⟩ := hrow s ((hbits s (hET s yE)).mp y2)
        exact yn j hj e
      rw [y1, y2]
      rfl
  · obtain ⟨c, c1, c2, c3⟩ := hc
    exact ⟨c, c1, c2, fun i hi => by rw [← h150]; exact c3 i hi⟩
  · rcases hOP with ⟨hw15, hno, h10⟩ | ⟨k2, hk2, hkk, hi0, hw15, hno, h10⟩
    · rw [h10, hX.2.2.2]
      refine ⟨(hux r hr).1, (hux r hr).2.trans ⟨fun ⟨i, hi, e⟩ => ⟨i, by omega, by rw [hold i (by omega)]; exact e⟩, fun ⟨i, hi, e⟩ => ?_⟩⟩
      by_cases y : i < k + 1
      · exact ⟨i, y, by rw [hold i (by omega)] at e; exact e⟩
      · obtain ⟨j, hj, e2⟩ := hseen _ (hrxn i (by omega)) (hno i (by omega) hi)
        exact ⟨j, hj, e2.trans e⟩
    · rw [h10, hX.2.2.2]
      show ((if r * 7 + 1 = rx (qn k2) * 7 + 1 then (1 : Int32) else (U.2.2.1 147 10).2 (r * 7 + 1)) = 0 ∨ (if r * 7 + 1 = rx (qn k2) * 7 + 1 then (1 : Int32) else (U.2.2.1 147 10).2 (r * 7 + 1)) = 1) ∧ (¬ (if r * 7 + 1 = rx (qn k2) * 7 + 1 then (1 : Int32) else (U.2.2.1 147 10).2 (r * 7 + 1)) = 0 ↔ _)
      by_cases y : r = rx (qn k2)
      · rw [if_pos (by omega)]
        exact ⟨Or.inr rfl, ⟨fun _ => ⟨k2, by omega, y.symm⟩, fun _ => by decide⟩⟩
      · rw [if_neg (by omega)]
        refine ⟨(hux r hr).1, (hux r hr).2.trans ⟨fun ⟨i, hi, e⟩ => ⟨i, by omega, by rw [hold i (by omega)]; exact e⟩, fun ⟨i, hi, e⟩ => ?_⟩⟩
        by_cases y2 : i < k + 1
        · exact ⟨i, y2, by rw [hold i (by omega)] at e; exact e⟩
        · by_cases y3 : i = k2
          · rw [y3] at e
            exact absurd e.symm y
          · obtain ⟨j, hj, e2⟩ := hseen _ (hrxn i (by omega)) (hno i (by omega) (by omega))
            exact ⟨j, hj, e2.trans e⟩
  · have hg2 := (hG _ _ (hqT i (by omega))).mp hg
    have hold2 : ∀ j, j < k + 1 → rx (qu j) = rx (qn i) → ∃ j, j < tl + n ∧ qn j = t := fun j hj e => hrows j hj t (by rw [e]; exact hg2)
    by_cases y : i < k + 1
    · exact hold2 i y (by rw [hold i (by omega)])
    · rcases hOP with ⟨hw15, hno, h10⟩ | ⟨k2, hk2, hkk, hi0, hw15, hno, h10⟩
      · obtain ⟨j, hj, e2⟩ := hseen _ (hrxn i (by omega)) (hno i (by omega) hi)
        exact hold2 j hj e2
      · by_cases y3 : i = k2
        · exact absurd (by rw [y3]; exact hw15) hne
        · obtain ⟨j, hj, e2⟩ := hseen _ (hrxn i (by omega)) (hno i (by omega) (by omega))
          exact hold2 j hj e2
  · rcases hOP with ⟨hw15, hno, h10⟩ | ⟨k2, hk2, hkk, hi0, hw15, hno, h10⟩
    · exact Or.inl hw15
    · exact Or.inr ⟨k2, hk2, hw15⟩
/-- how it begins: the INITIAL STATES are in the queue -/
theorem BFQ.begin (hrx : ∀ s, s < T → rx s < R) (h18 : V.2.1 147 18 = nI tl) (hhh : hh ≤ tl) (h17 : V.2.1 147 17 = nI hh)
    (hq : ∀ i, i < tl → (V.2.2.1 147 12).2 i = nI (qu i) ∧ qu i < T ∧ bts (U.2.2.2.2.1 125) (qu i) = true) (hqa : ∀ x, x < T → bts (U.2.2.2.2.1 125) x = true → ∃ i, i < tl ∧ qu i = x) (hqr : ∀ i j, i < j → j < tl → qu i < qu j)
    (hini : ∀ s, ini s ↔ s < T ∧ bts (U.2.2.2.2.1 125) s = true) (hE : ∀ s, s < 64 * wn → (E s ↔ bts (U.2.2.2.2.1 124) s = true)) (hEi : ∀ s, s < 64 * wn → bts (U.2.2.2.2.1 125) s = true → s < T)
    (hun : ∀ i, i < wn → V.2.2.2.2.1 150 i = U.2.2.2.2.1 124 i &&& (U.2.2.2.2.1 125 i ^^^ (-1 : Int64))) (hTw : T ≤ 64 * wn)
    (hc : ∃ c, V.2.1 147 16 = nI c ∧ c ≤ wn ∧ ∀ i, i < c → V.2.2.2.2.1 150 i = 0)
    (hX0 : ∀ r, r < R → (X.2.2.1 147 10).2 (r * 7 + 1) = 0) (hOP : OPW X V (fun _ => 0) rx qu 0 hh) : BFQ V E ini G rx qu T R wn tl hh := by
  refine ⟨⟨h18, h17, hhh⟩, fun i hi => ⟨(hq i hi).1, (hq i hi).2.1, RCH.i0 ((hini _).mpr (hq i hi).2)⟩, fun i j hi hj e => ?_, fun s hs => hqa s ((hini s).mp hs).1 ((hini s).mp hs).2, fun s hs => ?_, hc, fun r hr => ?_, fun i hi hne => ?_, ?_⟩
  · rcases Nat.lt_or_ge i j with y | y
    · have := hqr i j y hj
      omega
    · rcases Nat.lt_or_ge j i with z | z
      · have := hqr j i z hi
        omega
      · omega
  · have y3 := bts_diff (s := s) (L := V.2.2.2.2.1 150) (A := U.2.2.2.2.1 124) (B := U.2.2.2.2.1 125) (hun (s / 64) (by omega))
    rw [y3, Bool.and_eq_true, hE s hs]
    refine ⟨fun ⟨y1, y2⟩ => ⟨y1, fun i hi e => ?_⟩, fun ⟨y1, y2⟩ => ⟨y1, ?_⟩⟩
    · rw [← e, (hq i hi).2.2] at y2
      cases y2
    · cases hb : bts (U.2.2.2.2.1 125) s
      · rfl
      · obtain ⟨i, hi, e⟩ := hqa s (hEi s hs hb) hb
        exact absurd e (y2 i hi)
  · rcases hOP with ⟨hw15, hno, h10⟩ | ⟨k2, hk2, hkk, hi0, hw15, hno, h10⟩
    · rw [h10, hX0 r hr]
      exact ⟨Or.inl rfl, ⟨fun y => absurd rfl y, fun ⟨i, hi, _⟩ => absurd rfl (hno i (Nat.zero_le _) hi)⟩⟩
    · have hk0 : k2 = 0 := Decidable.byContradiction (fun y => hno 0 (Nat.zero_le _) (by omega) rfl)
      rw [h10]
      show ((if r * 7 + 1 = rx (qu k2) * 7 + 1 then (1 : Int32) else (X.2.2.1 147 10).2 (r * 7 + 1)) = 0 ∨ (if r * 7 + 1 = rx (qu k2) * 7 + 1 then (1 : Int32) else (X.2.2.1 147 10).2 (r * 7 + 1)) = 1) ∧ (¬ (if r * 7 + 1 = rx (qu k2) * 7 + 1 then (1 : Int32) else (X.2.2.1 147 10).2 (r * 7 + 1)) = 0 ↔ _)
      by_cases y : r = rx (qu k2)
      · rw [if_pos (by omega)]
        exact ⟨Or.inr rfl, ⟨fun _ => ⟨k2, by omega, y.symm⟩, fun _ => by decide⟩⟩
      · rw [if_neg (by omega), hX0 r hr]
        refine ⟨Or.inl rfl, ⟨fun y2 => absurd rfl y2, fun ⟨i, hi, e⟩ => ?_⟩⟩
        have : i = k2 := by omega
        rw [this] at e
        exact absurd e.symm y
  · rcases hOP with ⟨hw15, hno, h10⟩ | ⟨k2, hk2, hkk, hi0, hw15, hno, h10⟩
    · exact absurd rfl (hno i (Nat.zero_le _) hi)
    · have hk0 : k2 = 0 := Decidable.byContradiction (fun y => hno 0 (Nat.zero_le _) (by omega) rfl)
      have : i = k2 := by omega
      rw [this] at hne
      exact absurd hw15 hne
  · rcases hOP with ⟨hw15, hno, h10⟩ | ⟨k2, hk2, hkk, hi0, hw15, hno, h10⟩
    · exact Or.inl hw15
    · exact Or.inr ⟨k2, hk2, hw15⟩
end Bfs
