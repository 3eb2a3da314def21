/-! LEAST PATHS: the queue in the machine -/
/-- a queue between two visits: told is nothing yet -/
def LPQ (V : Ud) (G : Nat → Nat → Prop) (Th To : Nat → Prop) (st : Nat) (rx qu pp dp : Nat → Nat) (T R wn ga gi gq tl hh : Nat) : Prop :=
  ((V.2.1 147 18 = nI tl ∧ V.2.1 147 17 = nI hh ∧ hh ≤ tl) ∧ V.2.1 147 14 = 0 ∧ V.2.1 147 19 = -1) ∧
  (∀ i, i < tl → (V.2.2.1 147 12).2 i = nI (qu i) ∧ qu i < T) ∧
  (∀ i, 0 < i → i < tl → (V.2.2.1 147 13).2 (qu i) = nI (qu (pp i))) ∧
  (∀ s, s < 64 * wn → (bts (V.2.2.2.2.1 150) s = true ↔ (Th s ∨ To s) ∧ USN To st qu tl s)) ∧
  (∃ c, V.2.1 147 16 = nI c ∧ c ≤ wn ∧ ∀ i, i < c → V.2.2.2.2.1 150 i = 0) ∧
  (∀ r, r < R → ((V.2.2.1 147 10).2 (r * 7 + 1) = 0 ∨ (V.2.2.1 147 10).2 (r * 7 + 1) = 1) ∧ (¬ (V.2.2.1 147 10).2 (r * 7 + 1) = 0 ↔ ∃ i, i < hh ∧ rx (qu i) = r)) ∧
  (V.2.2.2.1 147 8 = some gq ∧ LSN V ga gi gq 256 ∧ (∀ t, t < T → (bts (lgf V ga gi) t = true ↔ To t)) ∧ ∀ t, Th t ∨ To t → t < T) ∧
  ((V.2.1 147 15 = -1 ∧ LPD G Th To st qu pp dp tl hh ∧ (hh = tl ∨ ∀ i, i < wn → V.2.2.2.2.1 150 i = 0)) ∨ ∃ k, hh = k + 1 ∧ V.2.1 147 15 = nI (rx (qu k)) ∧ LPD G Th To st qu pp dp tl k)
/-- a way has been found, and can be written -/
def TLD (V : Ud) (T st n : Nat) (W : Nat → Nat) : Prop := V.2.1 147 19 = nI (W n) ∧ (∀ j, j < n → (V.2.2.1 147 13).2 (W (j + 1)) = nI (W j)) ∧ (∀ j, 0 < j → j < n → ¬ W j = st) ∧ (∀ j, j ≤ n → W j < T) ∧ 1 ≤ n ∧ n ≤ T
section LeastQueue
variable {U V X : Ud} {G RW : Nat → Nat → Prop} {Th To : Nat → Prop} {rx qu pp dp ls ix : Nat → Nat} {T R wn tl hh k n bf bt s t st ga gi gq : Nat}
theorem LPQ.at_ (h : LPQ U G Th To st rx qu pp dp T R wn ga gi gq tl (k + 1)) (hwk : U.2.1 147 15 = nI (rx (qu k))) (hrb : rx (qu k) < 2147483648) : LPD G Th To st qu pp dp tl k := by
  obtain ⟨-, -, -, -, -, -, -, ⟨y, -⟩ | ⟨k', y1, -, y3⟩⟩ := h
  · rw [hwk] at y
    exact absurd y (nI_neg1 hrb)
  · rw [show k = k' by omega]; exact y3
/-- what is new in a row -/
theorem LPQ.new (h : LPQ U G Th To st rx qu pp dp T R wn ga gi gq tl (k + 1)) (hbits : ∀ s, s < T → (bts (U.2.2.2.2.1 146) s = true ↔ G (qu k) s)) (hTw : T ≤ 64 * wn) : BNW U T s = true ↔ G (qu k) s ∧ (Th s ∨ To s) ∧ USN To st qu tl s := by
  obtain ⟨-, -, -, h150, -, -, ⟨-, -, -, hT⟩, -⟩ := h
  constructor
  · intro y
    have y1 := bnw_T y
    obtain ⟨y2, y3⟩ := bnw_is y
    exact ⟨(hbits s y1).mp y2, (h150 s (by omega)).mp y3⟩
  · rintro ⟨y1, y2, y3⟩
    have y4 := hT s y2
    unfold BNW
    rw [(hbits s y4).mpr y1, (h150 s (by omega)).mpr ⟨y2, y3⟩, decide_eq_true y4]
    rfl
theorem LPQ.row (h : LPQ U G Th To st rx qu pp dp T R wn ga gi gq tl (k + 1)) (hrx : ∀ s, s < T → rx s < R) (hRb : R < 2147483648) (hwk : U.2.1 147 15 = nI (rx (qu k))) (hkt : k < tl)
    (hz : BZ U bf bt) (hwn : wn ≤ 256) (hG : ∀ s t, s < T → (G s t ↔ RW (rx s) t)) (hbits : ∀ s, s < T → (bts (U.2.2.2.2.1 146) s = true ↔ G (qu k) s)) (hTw : T ≤ 64 * wn)
    (h150 : X.2.2.2.2.1 150 = V.2.2.2.2.1 150) (hX : X.2.1 147 18 = V.2.1 147 18 ∧ X.2.2.1 147 12 = V.2.2.1 147 12 ∧ X.2.2.1 147 13 = V.2.2.1 147 13 ∧ X.2.2.1 147 10 = U.2.2.1 147 10)
    (hQ : QNW X U tl T (qu k) n ls) (hen : enw ls n (BNW U T) bt) (hno : ∀ i, i < n → ¬ bts (lgf U ga gi) (ls i) = true)
    (hU : ∀ i, X.2.2.2.2.1 150 i = if bf ≤ i ∧ i < bt then U.2.2.2.2.1 150 i &&& ((U.2.2.2.2.1 146 i &&& U.2.2.2.2.1 150 i) ^^^ (-1 : Int64)) else U.2.2.2.2.1 150 i)
    (hhh : k + 1 ≤ hh ∧ hh ≤ tl + n) (h17 : V.2.1 147 17 = nI hh) (hc : ∃ c, V.2.1 147 16 = nI c ∧ c ≤ wn ∧ ∀ i, i < c → X.2.2.2.2.1 150 i = 0)
    (hix : ∀ r, r < R → (U.2.2.1 147 10).2 (r * 7 + 1) = nI (ix r) ∧ ix r < 2147483648) (hOP : OPW X V ix rx (fun i => if i < tl then qu i else ls (i - tl)) (k + 1) hh)
    (hend : V.2.1 147 15 = -1 → hh = tl + n ∨ ∀ i, i < wn → X.2.2.2.2.1 150 i = 0) (h14 : V.2.1 147 14 = 0 ∧ V.2.1 147 19 = -1) (hgoV : V.2.2.2.1 147 8 = some gq) (hlV : LSN V ga gi gq 256) (hlf : lgf V ga gi = lgf U ga gi) :
    ∃ pn dn, LPQ V G Th To st rx (fun i => if i < tl then qu i else ls (i - tl)) pn dn T R wn ga gi gq (tl + n) hh := by
  have hnw : ∀ s, BNW U T s = true ↔ G (qu k) s ∧ (Th s ∨ To s) ∧ USN To st qu tl s := fun s => h.new hbits hTw
  have hkT : qu k < T := (h.2.1 k hkt).2
  have hD := h.at_ hwk (by have := hrx _ hkT; omega)
  obtain ⟨⟨⟨hu18, hu17, hht⟩, -⟩, hq, hpa, hun, -, hux, ⟨hgo, hgl, hto, hT⟩, -⟩ := h
  obtain ⟨hQ1, hQ2, hQ3, hQ4, hQ5⟩ := hQ
  have hlsB : ∀ i, i < n → BNW U T (ls i) = true := fun i hi => ((hen.2 (ls i)).mp ⟨i, hi, rfl⟩).2
  have hls : ∀ s, (∃ i, i < n ∧ ls i = s) ↔ G (qu k) s ∧ (Th s ∨ To s) ∧ USN To st qu tl s := fun s => by
    rw [hen.2 s, ← hnw s]
    refine ⟨fun y => y.2, fun y => ⟨?_, y⟩⟩
    refine Nat.lt_of_not_le (fun y2 => ?_)
    have hb := (bnw_is y).1
    have hs := bnw_T y
    have y3 := hz.2 (s / 64) (by omega) (by omega)
    unfold bts at hb
    rw [y3, btz_0] at hb
    cases hb
  have hnoT : ∀ i, i < n → ¬ To (ls i) := fun i hi y => hno i hi ((hto _ (bnw_T (hlsB i hi))).mpr y)
  have hD2 := hD.step hkt hen.1 hls hnoT
  have hold : ∀ i, i < tl → (fun i => if i < tl then qu i else ls (i - tl)) i = qu i := fun i hi => if_pos hi
  have hnew : ∀ i, i < n → (fun i => if i < tl then qu i else ls (i - tl)) (tl + i) = ls i := fun i hi => by
    show (if tl + i < tl then qu (tl + i) else ls (tl + i - tl)) = ls i
    rw [if_neg (by omega), show tl + i - tl = i by omega]
  have hpo : ∀ i, i < tl → (fun i => if i < tl then pp i else k) i = pp i := fun i hi => if_pos hi
  have hpn : ∀ i, ¬ i < tl → (fun i => if i < tl then pp i else k) i = k := fun i hi => if_neg hi
  generalize (fun i => if i < tl then qu i else ls (i - tl)) = qn at hold hnew hOP hD2 ⊢
  generalize (fun i => if i < tl then pp i else k) = pn at hpo hpn hD2
  generalize (fun i => if i < tl then dp i else dp k + 1) = dn at hD2
  have hall : ∀ i, i < tl + n → (i < tl ∧ qn i = qu i) ∨ ∃ j, j < n ∧ i = tl + j ∧ qn i = ls j := fun i hi => by
    by_cases y : i < tl
    · exact Or.inl ⟨y, hold i y⟩
    · refine Or.inr ⟨i - tl, by omega, by omega, ?_⟩
      have y2 := hnew (i - tl) (by omega)
      rw [show tl + (i - tl) = i by omega] at y2
      exact y2
  have hqT : ∀ i, i < tl + n → qn i < T := fun i hi => by
    rcases hall i hi with ⟨y, e⟩ | ⟨j, hj, _, e⟩
    · rw [e]; exact (hq i y).2
    · rw [e]; exact bnw_T (hlsB j hj)
  have hrxn : ∀ i, i < tl + n → rx (qn i) < R := fun i hi => hrx _ (hqT i hi)
  have hseen : ∀ r, r < R → ¬ ix r = 0 → ∃ i, i < k + 1 ∧ rx (qu i) = r := fun r hr y => by
    refine (hux r hr).2.mp (fun y2 => y ?_)
    rw [(hix r hr).1] at y2
    exact nI_inj (hix r hr).2 (by decide) y2
  have hskip : ∀ i, k + 1 ≤ i → i < tl + n → ¬ ix (rx (qn i)) = 0 → ∃ j, j < k + 1 ∧ j < tl + n ∧ ∀ t, G (qn i) t → G (qn j) t := fun i _ hi y => by
    obtain ⟨j, j1, j2⟩ := hseen _ (hrxn i hi) y
    refine ⟨j, j1, by omega, fun t hg => ?_⟩
    rw [hold j (by omega), hG _ _ (hq j (by omega)).2, j2]
    exact (hG _ _ (hqT i hi)).mp hg
  refine ⟨pn, dn, ⟨⟨hX.1.symm.trans hQ1, h17, hhh.2⟩, h14⟩, fun i hi => ?_, fun i i0 hi => ?_, fun s hs => ?_, ?_, fun r hr => ?_, ⟨hgoV, hlV, by rw [hlf]; exact hto, hT⟩, ?_⟩
  · rw [← hX.2.1]
    rcases hall i hi with ⟨y, e⟩ | ⟨j, hj, hij, e⟩
    · rw [e, hQ3 i y]; exact hq i y
    · rw [e, hij, hQ2 j hj]; exact ⟨rfl, bnw_T (hlsB j hj)⟩
  · rw [← hX.2.2.1]
    rcases hall i hi with ⟨y, e⟩ | ⟨j, hj, hij, e⟩
    · rw [e, hpo i y, hold (pp i) (by have := (hD.2.2.1 i i0 y).2.2.1; omega), hQ5 (qu i) (fun j hj he => ?_)]
      · exact hpa i i0 y
      · exact ((hnw _).mp (hlsB j hj)).2.2.2 i i0 y he.symm
    · rw [e, hpn i (by omega), hold k hkt]; exact hQ4 j hj
  · rw [← h150]
    have e1 : bts (X.2.2.2.2.1 150) s = (bts (U.2.2.2.2.1 150) s && !(bts (U.2.2.2.2.1 146) s && bts (U.2.2.2.2.1 150) s)) := by
      by_cases y : bf ≤ s / 64 ∧ s / 64 < bt
      · have y2 := hU (s / 64)
        rw [if_pos y] at y2
        have y3 := bts_diff (s := s) (L := X.2.2.2.2.1 150) (A := U.2.2.2.2.1 150) (B := fun i => U.2.2.2.2.1 146 i &&& U.2.2.2.2.1 150 i) y2
        rw [y3]
        have y4 : bts (fun i => U.2.2.2.2.1 146 i &&& U.2.2.2.2.1 150 i) s = (bts (U.2.2.2.2.1 146) s && bts (U.2.2.2.2.1 150) s) := btz_and
        rw [y4]
      · have y2 := hU (s / 64)
        rw [if_neg y] at y2
        have y3 : bts (U.2.2.2.2.1 146) s = false := by
          unfold bts
          rw [hz.2 (s / 64) (by omega) y, btz_0]
        have y4 : bts (X.2.2.2.2.1 150) s = bts (U.2.2.2.2.1 150) s := by
          unfold bts
          rw [y2]
        rw [y3, y4]
        cases bts (U.2.2.2.2.1 150) s <;> rfl
    rw [e1]
    constructor
    · intro y
      have y1 : bts (U.2.2.2.2.1 150) s = true ∧ ¬ bts (U.2.2.2.2.1 146) s = true := by
        cases hA : bts (U.2.2.2.2.1 150) s <;> cases hB : bts (U.2.2.2.2.1 146) s <;> rw [hA, hB] at y <;> first | exact ⟨rfl, by decide⟩ | cases y
      obtain ⟨yE, yn1, yn2⟩ := (hun s hs).mp y1.1
      refine ⟨yE, yn1, fun i i0 hi e => ?_⟩
      rcases hall i hi with ⟨z, e'⟩ | ⟨j, hj, _, e'⟩
      · exact yn2 i i0 z (e'.symm.trans e)
      · refine y1.2 ?_
        rw [← e, e']
        exact (bnw_is (hlsB j hj)).1
    · rintro ⟨yE, yn1, yn2⟩
      have yu : USN To st qu tl s := ⟨yn1, fun i i0 hi e => yn2 i i0 (by omega) ((hold i hi).trans e)⟩
      have y1 := (hun s hs).mpr ⟨yE, yu⟩
      have y2 : bts (U.2.2.2.2.1 146) s = false := by
        refine Bool.eq_false_iff.mpr (fun y2 => ?_)
        obtain ⟨j, hj, e⟩ := (hls s).mpr ⟨(hbits s (hT s yE)).mp y2, yE, yu⟩
        exact yn2 (tl + j) (by omega) (by omega) ((hnew j hj).trans e)
      rw [y1, y2]
      rfl
  · obtain ⟨c, c1, c2, c3⟩ := hc
    exact ⟨c, c1, c2, fun i hi => by rw [← h150]; exact c3 i hi⟩
  · rcases hOP with ⟨hw15, hno2, h10⟩ | ⟨k2, hk2, hkk, hi0, hw15, hno2, h10⟩
    · rw [h10, hX.2.2.2]
      refine ⟨(hux r hr).1, (hux r hr).2.trans ⟨fun ⟨i, hi, e⟩ => ⟨i, by omega, by rw [hold i (by omega)]; exact e⟩, fun ⟨i, hi, e⟩ => ?_⟩⟩
      by_cases y : i < k + 1
      · exact ⟨i, y, by rw [hold i (by omega)] at e; exact e⟩
      · obtain ⟨j, hj, e2⟩ := hseen _ (hrxn i (by omega)) (hno2 i (by omega) hi)
        exact ⟨j, hj, e2.trans e⟩
    · rw [h10, hX.2.2.2]
      show ((if r * 7 + 1 = rx (qn k2) * 7 + 1 then (1 : Int32) else (U.2.2.1 147 10).2 (r * 7 + 1)) = 0 ∨ (if r * 7 + 1 = rx (qn k2) * 7 + 1 then (1 : Int32) else (U.2.2.1 147 10).2 (r * 7 + 1)) = 1) ∧ (¬ (if r * 7 + 1 = rx (qn k2) * 7 + 1 then (1 : Int32) else (U.2.2.1 147 10).2 (r * 7 + 1)) = 0 ↔ _)
      by_cases y : r = rx (qn k2)
      · rw [if_pos (by omega)]
        exact ⟨Or.inr rfl, ⟨fun _ => ⟨k2, by omega, y.symm⟩, fun _ => by decide⟩⟩
      · rw [if_neg (by omega)]
        refine ⟨(hux r hr).1, (hux r hr).2.trans ⟨fun ⟨i, hi, e⟩ => ⟨i, by omega, by rw [hold i (by omega)]; exact e⟩, fun ⟨i, hi, e⟩ => ?_⟩⟩
        by_cases y2 : i < k + 1
        · exact ⟨i, y2, by rw [hold i (by omega)] at e; exact e⟩
        · by_cases y3 : i = k2
          · rw [y3] at e
            exact absurd e.symm y
          · obtain ⟨j, hj, e2⟩ := hseen _ (hrxn i (by omega)) (hno2 i (by omega) (by omega))
            exact ⟨j, hj, e2.trans e⟩
  · rcases hOP with ⟨hw15, hno2, h10⟩ | ⟨k2, hk2, hkk, hi0, hw15, hno2, h10⟩
    · refine Or.inl ⟨hw15, hD2.skip hh hhh.1 (fun i i1 i2 => hskip i i1 (by omega) (hno2 i i1 i2)), ?_⟩
      rw [← h150]
      exact hend hw15
    · exact Or.inr ⟨k2, hk2, hw15, hD2.skip k2 hkk (fun i i1 i2 => hskip i i1 (by omega) (hno2 i i1 i2))⟩
/-- the goal has been met -/
theorem LPQ.told (h : LPQ U G Th To st rx qu pp dp T R wn ga gi gq tl (k + 1)) (hrx : ∀ s, s < T → rx s < R) (hRb : R < 2147483648) (hwk : U.2.1 147 15 = nI (rx (qu k))) (hkt : k < tl)
    (hbits : ∀ s, s < T → (bts (U.2.2.2.2.1 146) s = true ↔ G (qu k) s)) (hTw : T ≤ 64 * wn) (hGT : ∀ s t, G s t → t < T)
    (h19 : V.2.1 147 19 = nI t) (hb : BNW U T t = true) (ht : bts (lgf U ga gi) t = true) (hmin : ∀ s, s < t → BNW U T s = true → ¬ bts (lgf U ga gi) s = true) (hpt : (V.2.2.1 147 13).2 t = nI (qu k)) (hls : ∀ i, i < n → BNW U T (ls i) = true ∧ ¬ bts (lgf U ga gi) (ls i) = true)
    (hpr : ∀ j, ¬ j = t → (∀ i, i < n → ¬ ls i = j) → (V.2.2.1 147 13).2 j = (U.2.2.1 147 13).2 j) : ∃ N W, LEA G Th To st N W ∧ TLD V T st N W := by
  have hnw : ∀ s, BNW U T s = true ↔ G (qu k) s ∧ (Th s ∨ To s) ∧ USN To st qu tl s := fun s => h.new hbits hTw
  have hkT : qu k < T := (h.2.1 k hkt).2
  have hD := h.at_ hwk (by have := hrx _ hkT; omega)
  obtain ⟨-, hq, hpa, hun, -, -, ⟨-, -, hto, hT⟩, -⟩ := h
  obtain ⟨a, ha⟩ := hD.chain k hkt
  have hat : ∀ j, j ≤ dp k → a j < tl := fun j hj => by have := (hD.along ha (dp k - j) j (by omega)).1; omega
  have hdeep := hD.deep k hkt
  have htl : tl ≤ T := pig_le T tl qu (fun i hi => (hq i hi).2) hD.2.1
  have htT := bnw_T hb
  have hTo : To t := (hto t htT).mp ht
  obtain ⟨W, hW⟩ : ∃ f : Nat → Nat, f = fun j => if j ≤ dp k then qu (a j) else t := ⟨_, rfl⟩
  have hW1 : ∀ j, j ≤ dp k → W j = qu (a j) := fun j hj => by rw [hW]; exact if_pos hj
  have hW2 : W (dp k + 1) = t := by rw [hW]; exact if_neg (by omega)
  refine ⟨dp k + 1, W, hD.found hkt ha ((hnw t).mp hb).1 hTo (fun s hs hg hts => ?_) hW1 hW2, ?_, fun j hj => ?_, fun j j0 hj => ?_, fun j hj => ?_, by omega, by omega⟩
  · have hsT := hGT _ _ hg
    refine hmin s hs ((hnw s).mpr ⟨hg, Or.inr hts, fun y => y.2 (by rw [← y.1]; exact hts), fun i i0 hi e => ?_⟩) ((hto s hsT).mpr hts)
    rw [← e] at hts
    exact (hD.2.2.1 i i0 hi).2.1 hts
  · rw [hW2]; exact h19
  · by_cases y : j = dp k
    · rw [y, hW2, hW1 _ (Nat.le_refl _), ha.2.1]; exact hpt
    · obtain ⟨z1, z2, z3⟩ := ha.2.2 j (by omega)
      rw [hW1 j (by omega), hW1 (j + 1) (by omega), hpr _ (fun e => ?_) (fun i hi e => ?_), hpa _ z1 z2, z3]
      · rw [← e] at hTo
        exact (hD.2.2.1 _ z1 z2).2.1 hTo
      · exact ((hnw _).mp (hls i hi).1).2.2.2 _ z1 z2 e.symm
  · obtain ⟨z1, z2, z3⟩ := ha.2.2 (j - 1) (by omega)
    rw [show j - 1 + 1 = j by omega] at z1 z2
    rw [hW1 j (by omega), ← hD.1.2.1]
    intro e
    have := hD.2.1 _ _ z2 hD.1.1 e
    omega
  · by_cases y : j ≤ dp k
    · rw [hW1 j y]; exact (hq _ (hat j y)).2
    · rw [show j = dp k + 1 by omega, hW2]; exact htT
/-- how it begins -/
theorem LPQ.begin (hst : st < T) (h18 : V.2.1 147 18 = nI 1) (hhh : hh ≤ 1) (h17 : V.2.1 147 17 = nI hh) (h14 : V.2.1 147 14 = 0 ∧ V.2.1 147 19 = -1) (hq : (V.2.2.1 147 12).2 0 = nI st)
    (hun : ∀ s, s < 64 * wn → (bts (V.2.2.2.2.1 150) s = true ↔ (Th s ∨ To s) ∧ ¬ (s = st ∧ ¬ To st))) (hc : ∃ c, V.2.1 147 16 = nI c ∧ c ≤ wn ∧ ∀ i, i < c → V.2.2.2.2.1 150 i = 0)
    (hX0 : ∀ r, r < R → (X.2.2.1 147 10).2 (r * 7 + 1) = 0) (hOP : OPW X V (fun _ => 0) rx (fun _ => st) 0 hh) (hend : V.2.1 147 15 = -1 → hh = 1 ∨ ∀ i, i < wn → V.2.2.2.2.1 150 i = 0)
    (hgo : V.2.2.2.1 147 8 = some gq) (hgl : LSN V ga gi gq 256) (hto : ∀ t, t < T → (bts (lgf V ga gi) t = true ↔ To t)) (hT : ∀ t, Th t ∨ To t → t < T) : LPQ V G Th To st rx (fun _ => st) (fun _ => 0) (fun _ => 0) T R wn ga gi gq 1 hh := by
  refine ⟨⟨⟨h18, h17, hhh⟩, h14⟩, fun i hi => ⟨by rw [show i = 0 by omega]; exact hq, hst⟩, fun i i0 hi => absurd hi (by omega), fun s hs => (hun s hs).trans ⟨fun y => ⟨y.1, y.2, fun i i0 hi => absurd hi (by omega)⟩, fun y => ⟨y.1, y.2.1⟩⟩, hc, fun r hr => ?_, ⟨hgo, hgl, hto, hT⟩, ?_⟩
  · rcases hOP with ⟨hw15, hno, h10⟩ | ⟨k2, hk2, hkk, hi0, hw15, hno, h10⟩
    · rw [h10, hX0 r hr]
      exact ⟨Or.inl rfl, ⟨fun y => absurd rfl y, fun ⟨i, hi, _⟩ => absurd rfl (hno i (Nat.zero_le _) hi)⟩⟩
    · rw [h10]
      show ((if r * 7 + 1 = rx st * 7 + 1 then (1 : Int32) else (X.2.2.1 147 10).2 (r * 7 + 1)) = 0 ∨ (if r * 7 + 1 = rx st * 7 + 1 then (1 : Int32) else (X.2.2.1 147 10).2 (r * 7 + 1)) = 1) ∧ (¬ (if r * 7 + 1 = rx st * 7 + 1 then (1 : Int32) else (X.2.2.1 147 10).2 (r * 7 + 1)) = 0 ↔ _)
      by_cases y : r = rx st
      · rw [if_pos (by omega)]
        exact ⟨Or.inr rfl, ⟨fun _ => ⟨k2, by omega, y.symm⟩, fun _ => by decide⟩⟩
      · rw [if_neg (by omega), hX0 r hr]
        exact ⟨Or.inl rfl, ⟨fun y2 => absurd rfl y2, fun ⟨i, hi, e⟩ => absurd e.symm y⟩⟩
  · rcases hOP with ⟨hw15, hno, h10⟩ | ⟨k2, hk2, hkk, hi0, hw15, hno, h10⟩
    · have h0 : hh = 0 := Decidable.byContradiction (fun y => hno 0 (Nat.zero_le _) (by omega) rfl)
      refine Or.inl ⟨hw15, by rw [h0]; exact LPD.init G Th To st, hend hw15⟩
    · refine Or.inr ⟨k2, hk2, hw15, ?_⟩
      rw [show k2 = 0 by omega]
      exact LPD.init G Th To st
end LeastQueue
