/-! Space.know: STATES, INITIAL ones, where each FAIRNESS is true -/
section Know
variable {H : mu_H} {U V X : Ud} {m d P i c n r s k n1 n2 T q w : Nat} {C : Nat → Nat} {Y : Ts} {f od : Nat → Nat} {es : Nat → Int32} {t t' : Tb} {stg : Int32} {L L' : Nat → Int64} {A : Nat → Prop}
/-- a row of tasks: where its E stands, in which INSTANCE -/
def rwa (t : Tb) (r : Nat) : Nat := (t.2 r 0).toNatClampNeg
def rwn (t : Tb) (r : Nat) : Nat := (t.2 r 1).toNatClampNeg - rwa t r
def rwi (t : Tb) (r : Nat) : Nat := (t.2 r 2).toNatClampNeg
def RWt (Y : Ts) (es : Nat → Int32) (t : Tb) (r : Nat) : Prop := (t.2 r 0 = nI (rwa t r) ∧ t.2 r 1 = nI (rwa t r + rwn t r) ∧ t.2 r 2 = nI (rwi t r)) ∧ rwi t r < (Y 11).1 ∧ ∃ rs, SRT Y es (rwi t r) 0 (rwa t r) rs (rwn t r) ∧ ((t.2 r 3 = -1 ∧ rg Y (im Y (rwi t r)) false (rwa t r) (rwa t r + rwn t r)) ∨ ∃ v0, v0 < (Y 15).1 ∧ t.2 r 3 = nI v0 ∧ rg Y (im Y (rwi t r)) true (rwa t r) (rwa t r + rwn t r))
/-- whether it is true in a STATE -/
def RWv (Y : Ts) (U : Ud) (f : Nat → Nat) (P : Nat) (od : Nat → Nat) (t : Tb) (r s : Nat) : Prop := if t.2 r 3 = -1 then ¬ tru Y U f P od (rwi t r) (rwa t r) (rwn t r) s = 0 else cho Y U f P od (rwi t r) (rwa t r) (rwn t r) (t.2 r 3).toNatClampNeg s
/-- a claim, a line, a FAIRNESS in a STATE -/
def CLv (Y : Ts) (U : Ud) (f : Nat → Nat) (P : Nat) (od : Nat → Nat) (i c s : Nat) : Prop := ¬ tru Y U f P od i ((Y 8).2 c 1).toNatClampNeg (((Y 8).2 c 2).toNatClampNeg - ((Y 8).2 c 1).toNatClampNeg) s = 0
def LNv (Y : Ts) (U : Ud) (f : Nat → Nat) (P : Nat) (od : Nat → Nat) (i n s : Nat) : Prop := cho Y U f P od i ((Y 7).2 n 2).toNatClampNeg (((Y 7).2 n 3).toNatClampNeg - ((Y 7).2 n 2).toNatClampNeg) (lvr Y i n).toNatClampNeg s
def FRv (Y : Ts) (U : Ud) (f : Nat → Nat) (P : Nat) (od : Nat → Nat) (r s : Nat) : Prop := ¬ tru Y U f P od (rwi (Y 16) r) (rwa (Y 16) r) (rwn (Y 16) r) s = 0
/-- the STATES, the INITIAL ones -/
def EVR (Y : Ts) (U : Ud) (f : Nat → Nat) (P : Nat) (od : Nat → Nat) (s : Nat) : Prop := (∀ i c, PCi Y (Y 11).1 i c → (Y 8).2 c 0 = 5 → CLv Y U f P od i c s) ∧ ∀ i n, PLi Y (Y 11).1 i n → (Y 7).2 n 0 = 1 → LNv Y U f P od i n s
def INR (Y : Ts) (U : Ud) (f : Nat → Nat) (P : Nat) (od : Nat → Nat) (s : Nat) : Prop := (∀ i c, PCi Y (Y 11).1 i c → (Y 8).2 c 0 = 4 → CLv Y U f P od i c s) ∧ ∀ i n, PLi Y (Y 11).1 i n → (Y 7).2 n 0 = 2 → LNv Y U f P od i n s
theorem TKc.rw (h : TKc Y stg t r i c) (hi : i < 2147483648) : rwa t r = ((Y 8).2 c 1).toNatClampNeg ∧ rwn t r = ((Y 8).2 c 2).toNatClampNeg - ((Y 8).2 c 1).toNatClampNeg ∧ rwi t r = i := by
  obtain ⟨h0, h1, h2, h3, h4⟩ := h
  unfold rwn rwa rwi
  rw [h0, h1, h2]
  exact ⟨rfl, rfl, nI_clamp hi⟩
theorem TKl.rw (h : TKl Y stg t r i n) (hi : i < 2147483648) : rwa t r = ((Y 7).2 n 2).toNatClampNeg ∧ rwn t r = ((Y 7).2 n 3).toNatClampNeg - ((Y 7).2 n 2).toNatClampNeg ∧ rwi t r = i := by
  obtain ⟨h0, h1, h2, h3, h4⟩ := h
  unfold rwn rwa rwi
  rw [h0, h1, h2]
  exact ⟨rfl, rfl, nI_clamp hi⟩
theorem TKc.v (h : TKc Y stg t r i c) (hi : i < 2147483648) : RWv Y U f P od t r s ↔ CLv Y U f P od i c s := by
  obtain ⟨e1, e2, e3⟩ := TKc.rw h hi
  unfold RWv CLv
  rw [if_pos h.2.2.2.1, e1, e2, e3]
/-- the VARIABLE of a line is there -/
theorem lvr_ok (hJ : JW Y) (hLV : ∀ q, q < (Y 1).1 → ∀ n, sp Y q 4 ≤ n → n < sp Y (q + 1) 4 → LV Y q n) (h : PLi Y (Y 11).1 i n) : ∃ v0, v0 < (Y 15).1 ∧ lvr Y i n = nI v0 := by
  obtain ⟨h1, h2, h3⟩ := h
  have hgi := hJ.1 i h1
  obtain ⟨v, e1, e2, e3, e4⟩ := hLV (im Y i) hgi.2.1 n h2 h3
  have b := (hJ.2.2.2.2.2.1.1 (im Y i) hgi.2.1 2 (by decide) (by decide)).2.2
  have b3 := hJ.2.2.2.2.2.2 3 (by decide)
  have t2 : tabc 2 = 3 := rfl
  rw [t2] at b
  obtain ⟨w, w1, w2, w3⟩ := (hJ.2.1 i h1 v e2 e3).2 e4
  refine ⟨w, w1, ?_⟩
  unfold lvr
  rw [e1, nI_clamp (by omega)]
  exact w2
theorem TKl.v (h : TKl Y stg t r i n) (hi : i < 2147483648) (hv : ∃ v0, v0 < (Y 15).1 ∧ lvr Y i n = nI v0) (h15 : (Y 15).1 ≤ 67108864) : RWv Y U f P od t r s ↔ LNv Y U f P od i n s := by
  obtain ⟨e1, e2, e3⟩ := TKl.rw h hi
  obtain ⟨v0, v1, v2⟩ := hv
  unfold RWv LNv
  rw [if_neg (by rw [h.2.2.2.1, v2]; exact nI_neg1 (by omega)), h.2.2.2.1, e1, e2, e3]
theorem rw_of {a N : Nat} (h0 : t.2 r 0 = nI a) (h1 : t.2 r 1 = nI (a + N)) (h2 : t.2 r 2 = nI i) (ha : a + N < 2147483648) (hi : i < 2147483648) : rwa t r = a ∧ rwn t r = N ∧ rwi t r = i := by
  unfold rwn rwa rwi
  rw [h0, h1, h2, nI_clamp (by omega), nI_clamp ha, nI_clamp hi]
  exact ⟨rfl, by omega, rfl⟩
theorem TKc.row (hD : MDL Y es) (h : TKc Y stg t r i c) (hp : PCi Y (Y 11).1 i c) (hk : ¬ (Y 8).2 c 0 = 6 ∧ ¬ (Y 8).2 c 0 = 8) : RWt Y es t r := by
  obtain ⟨h1, h2, h3⟩ := hp
  obtain ⟨a, N, rs, e1, e2, e3, e4, e5⟩ := (hD.2.1.2 i h1).1 c h2 h3
  rw [if_neg hk.1, if_neg hk.2] at e4
  have b0 := hD.1.2.2.2.2.2.2 0 (by decide)
  have b11 := hD.1.2.2.2.2.2.2 11 (by decide)
  have g1 := e3.2.1
  obtain ⟨q0, q1, q2, q3, q4⟩ := h
  obtain ⟨w1, w2, w3⟩ := rw_of (q0.trans e1) (q1.trans e2) q2 (by omega) (by omega)
  refine ⟨by rw [w1, w2, w3]; exact ⟨q0.trans e1, q1.trans e2, q2⟩, by rw [w3]; exact h1, rs, by rw [w1, w2, w3]; exact e4, Or.inl ⟨q3, by rw [w1, w2, w3]; exact e3⟩⟩
theorem TKl.row (hD : MDL Y es) (h : TKl Y stg t r i n) (hp : PLi Y (Y 11).1 i n) : RWt Y es t r := by
  obtain ⟨v0, v1, v2⟩ := lvr_ok hD.1 hD.2.2.2.2.2.1 hp
  obtain ⟨h1, h2, h3⟩ := hp
  obtain ⟨a, N, rs, v, e1, e2, e3, e4, e5, e6⟩ := (hD.2.1.2 i h1).2 n h2 h3
  have b0 := hD.1.2.2.2.2.2.2 0 (by decide)
  have b11 := hD.1.2.2.2.2.2.2 11 (by decide)
  have g1 := e3.2.1
  obtain ⟨q0, q1, q2, q3, q4⟩ := h
  obtain ⟨w1, w2, w3⟩ := rw_of (q0.trans e1) (q1.trans e2) q2 (by omega) (by omega)
  refine ⟨by rw [w1, w2, w3]; exact ⟨q0.trans e1, q1.trans e2, q2⟩, by rw [w3]; exact h1, rs, by rw [w1, w2, w3]; exact e5, Or.inr ⟨v0, v1, q3.trans v2, by rw [w1, w2, w3]; exact e3⟩⟩
/-- all tasks: first those of STATES, then of INITIAL ones, then FAIRNESS -/
def TSK (Y : Ts) (es : Nat → Int32) (t : Tb) (n1 n2 : Nat) : Prop := (n1 ≤ n2 ∧ t.1 = n2 + (Y 16).1 ∧ t.1 ≤ 16000) ∧ (∀ r, r < t.1 → RWt Y es t r) ∧ (∀ r, r < n1 → t.2 r 4 = 0) ∧ (∀ r, n1 ≤ r → r < n2 → t.2 r 4 = 1) ∧ ∀ r, n2 ≤ r → r < t.1 → t.2 r 4 = 2 ∧ t.2 r 3 = -1 ∧ rwi t r = rwi (Y 16) (r - n2) ∧ rwa t r = rwa (Y 16) (r - n2) ∧ rwn t r = rwn (Y 16) (r - n2)
/-- every, initial: a row of bits stands for a set of STATES -/
def BTS (L : Nat → Int64) (T : Nat) (A : Nat → Prop) : Prop := ∀ s, s / 64 < (T + 63) / 64 → (bts L s = true ↔ s < T ∧ A s)
theorem BTS.and {B : Nat → Prop} (h : BTS L T A) (h2 : ∀ s, s < T → (bts L' s = true ↔ B s)) : BTS (fun i => L i &&& L' i) T (fun s => A s ∧ B s) := fun s hs => by
  have e : bts (fun i => L i &&& L' i) s = (bts L s && bts L' s) := by
    unfold bts
    exact btz_and
  rw [e, Bool.and_eq_true, h s hs]
  constructor
  · rintro ⟨⟨a, b⟩, c⟩
    exact ⟨a, b, (h2 s a).mp c⟩
  · rintro ⟨a, b, c⟩
    exact ⟨⟨a, b⟩, (h2 s a).mpr c⟩
theorem BTS.congr {B : Nat → Prop} (h : BTS L T A) (he : ∀ s, s < T → (A s ↔ B s)) : BTS L T B := fun s hs => by
  rw [h s hs]
  constructor
  · rintro ⟨a, b⟩
    exact ⟨a, (he s a).mp b⟩
  · rintro ⟨a, b⟩
    exact ⟨a, (he s a).mpr b⟩
theorem BTS.to (h : BTS L T A) (he : ∀ i, i < (T + 63) / 64 → L' i = L i) : BTS L' T A := fun s hs => by
  have e : bts L' s = bts L s := by
    unfold bts
    rw [he _ hs]
  rw [e]
  exact h s hs
theorem BTS.lt (h : BTS L T A) (hs : s / 64 < (T + 63) / 64) (hb : bts L s = true) : s < T := ((h s hs).mp hb).1
theorem upM_at {p b : Nat} {g : Nat → Int64} : (upM U p b g k).2.2.2.2.1 p = fun i => if b ≤ i ∧ i < b + k then g (i - b) else U.2.2.2.2.1 p i := by
  funext i
  show (if p = p ∧ b ≤ i ∧ i < b + k then g (i - b) else U.2.2.2.2.1 p i) = _
  by_cases e : b ≤ i ∧ i < b + k
  · rw [if_pos ⟨rfl, e⟩, if_pos e]
  · rw [if_neg (fun y => e y.2), if_neg e]
/-- the first row of bits: all valuations -/
theorem all_ge (h : 64 * (w + 1) ≤ T) (hq : q < 64) : btz (-1) q = decide (w * 64 + q < T) := by
  rw [btz_m1 hq, decide_eq_true (by omega)]
theorem all_lt (h1 : 64 * w ≤ T) (h2 : T < 64 * (w + 1)) (hq : q < 64) : btz (((1 : Int64) <<< ((nI (T - w * 64)).toInt64 &&& 63)) - 1) q = decide (w * 64 + q < T) := by
  have key : ∀ k q : Fin 64, btz (((1 : Int64) <<< ((nI k.1).toInt64 &&& 63)) - 1) q.1 = decide (q.1 < k.1) := by decide +kernel
  have := key ⟨T - w * 64, by omega⟩ ⟨q, hq⟩
  refine this.trans ?_
  show decide (q < T - w * 64) = decide (w * 64 + q < T)
  by_cases e : q < T - w * 64
  · rw [decide_eq_true e, decide_eq_true (by omega)]
  · rw [decide_eq_false e, decide_eq_false (by omega)]
/-- rows of a list are below T -/
theorem enw_list {ls : Nat → Nat} {B : Nat → Bool} (h : enw ls n B w) (hB : ∀ s, B s = true → s < T) : (∀ i j, i < j → j < n → ls i < ls j) ∧ (∀ i, i < n → ls i < T) ∧ ∀ s, lmz ls n s = true ↔ (s < 64 * w ∧ B s = true) := by
  refine ⟨h.1, fun i hi => hB _ ((h.2 (ls i)).mp ⟨i, hi, rfl⟩).2, fun s => ?_⟩
  rw [lmz_iff]
  exact h.2 s
/-- what stands of FAIRNESS behind k of them -/
def FRS (Y : Ts) (U0 V : Ud) (f : Nat → Nat) (P : Nat) (od : Nat → Nat) (k : Nat) : Prop := ∃ N us S z p, SOK V N us S z p ∧ (N ≤ k ∧ ∀ id, id < N → ∃ fr, fr < k ∧ (V.1 16).2 fr 3 = nI id) ∧ us ≤ 257 * k + 256 * (us / 8192) ∧ ∀ fr, fr < k → ∃ id, id < N ∧ (V.1 16).2 fr 3 = nI id ∧ p id = true ∧ ∀ s, S id s = true ↔ (s < pd f 0 P ∧ EVR Y U0 f P od s ∧ FRv Y U0 f P od fr s)
/-- a word of all valuations -/
theorem all_s {y : Int64} (hA : ∀ s, s / 64 < w → bts L s = decide (s < T)) (hy : ∀ q, q < 64 → btz y q = decide (w * 64 + q < T)) (s : Nat) (hs : s / 64 < w + 1) : bts (fun i => if i = w then y else L i) s = decide (s < T) := by
  show btz (if s / 64 = w then y else L (s / 64)) (s % 64) = _
  by_cases e : s / 64 = w
  · rw [if_pos e, hy _ (Nat.mod_lt _ (by decide)), show w * 64 + s % 64 = s by omega]
  · rw [if_neg e]
    exact hA s (by omega)
theorem FRS.eq {U0 : Ud} (h : FRS Y U0 U f P od k) (e1 : V.2.1 113 1 = U.2.1 113 1) (e2 : V.2.1 113 2 = U.2.1 113 2) (e5 : V.2.1 113 5 = U.2.1 113 5) (e3 : V.2.2.1 113 3 = U.2.2.1 113 3) (e4 : V.2.2.1 113 4 = U.2.2.1 113 4) (ep : V.2.2.2.2.2 114 = U.2.2.2.2.2 114) (e16 : V.1 16 = U.1 16) : FRS Y U0 V f P od k := by
  obtain ⟨N, us, S, z, p, h1, h2, h3, h4⟩ := h
  refine ⟨N, us, S, z, p, h1.eq e1 e2 e5 e3 e4 ep, by rw [e16]; exact h2, h3, fun fr hf => ?_⟩
  rw [e16]
  exact h4 fr hf
theorem FRS.fr {U0 : Ud} {F : Uf} (h : FRS Y U0 U f P od k) (hq : uq F U V) (i1 : in2 F.i 113 1 = false) (i2 : in2 F.i 113 2 = false) (i5 : in2 F.i 113 5 = false) (a3 : in2 F.a 113 3 = false) (a4 : in2 F.a 113 4 = false) (hp : F.p = false) (h16 : in1 F.t 16 = false) : FRS Y U0 V f P od k := h.eq (hq.i 113 1 i1) (hq.i 113 2 i2) (hq.i 113 5 i5) (hq.a 113 3 a3) (hq.a 113 4 a4) (congrFun (hq.2.2.2.2.2 hp) 114) (hq.t 16 h16)
/-- one FAIRNESS more -/
theorem FRS.step {U0 : Ud} {N us : Nat} {S : Nat → Nat → Bool} {z : Nat → Nat} {p : Nat → Bool} {ls : Nat → Nat} {id : Nat} (hN : N ≤ k) (hsu : ∀ id, id < N → ∃ fr, fr < k ∧ (U.1 16).2 fr 3 = nI id) (hus : us ≤ 257 * k + 256 * (us / 8192)) (hall : ∀ fr, fr < k → ∃ id, id < N ∧ (U.1 16).2 fr 3 = nI id ∧ p id = true ∧ ∀ s, S id s = true ↔ (s < pd f 0 P ∧ EVR Y U0 f P od s ∧ FRv Y U0 f P od fr s)) (hA : ADD U V N us S z p ls n id) (hk : k < 4001) (h16 : k < (V.1 16).1) (hb : ∀ i, i < n → ls i < 16384) (hs : ∀ s, lmz ls n s = true ↔ (s < pd f 0 P ∧ EVR Y U0 f P od s ∧ FRv Y U0 f P od k s)) : FRS Y U0 (upT V (ax 16 V.1 (nI k) 3 (nI id))) f P od (k + 1) := by
  obtain ⟨q, qo, N', us', S', z', p', ln, a1, a2, a3, a4, a5, a6, a7, a8⟩ := hA
  have hl : ln ≤ 256 := by
    by_cases e : n = 0
    · have := a7.1; omega
    · have h1 := a7.2 (by omega)
      have h2 := hb (n - 1) (by omega)
      omega
  have e3 : ∀ r c, ((upT V (ax 16 V.1 (nI k) 3 (nI id))).1 16).2 r c = if r = k ∧ c = 3 then nI id else (V.1 16).2 r c := fun r c => by
    show ((fu V.1 16 (tset (wa 16) (V.1 16) (nI k) 3 (nI id))) 16).2 r c = _
    rw [fu_at]
    unfold tset
    rw [if_neg (nI_pos (by omega)), nI_clamp (by omega), if_pos ⟨h16, by decide⟩]
  refine ⟨N', us', S', z', p', a1.eq rfl rfl rfl rfl rfl rfl, ⟨by omega, fun i hi => ?_⟩, by omega, fun fr hf => ?_⟩
  · by_cases hiN : i < N
    · obtain ⟨fr, f1, f2⟩ := hsu i hiN
      refine ⟨fr, by omega, ?_⟩
      rw [e3, if_neg (fun y => by omega), q.t 16 rfl]
      exact f2
    · refine ⟨k, by omega, ?_⟩
      rw [e3, if_pos ⟨rfl, rfl⟩, show id = i by omega]
  rw [e3]
  by_cases e : fr = k
  · rw [if_pos ⟨e, rfl⟩]
    refine ⟨id, a2, rfl, (a8 (by omega)).1, fun s => ?_⟩
    rw [a5.1, hs s, e]
  · rw [if_neg (fun y => e y.1), q.t 16 rfl]
    obtain ⟨i2, b1, b2, b3, b4⟩ := hall fr (by omega)
    obtain ⟨c1, c2, c3⟩ := a4 i2 b1
    exact ⟨i2, by omega, b2, c3.trans b3, fun s => by rw [c1]; exact b4 s⟩
/-- rows of FAIRNESS -/
def FRW (Y : Ts) (t2 t : Tb) (k : Nat) : Prop := t.1 = t2.1 + k ∧ (∀ r c, r < t2.1 → t.2 r c = t2.2 r c) ∧ ∀ r, t2.1 ≤ r → r < t.1 → t.2 r 0 = (Y 16).2 (r - t2.1) 0 ∧ t.2 r 1 = (Y 16).2 (r - t2.1) 1 ∧ t.2 r 2 = (Y 16).2 (r - t2.1) 2 ∧ t.2 r 3 = -1 ∧ t.2 r 4 = 2
theorem FRW.step {t2 : Tb} (h : FRW Y t2 t k) (ht : t.1 < 2147483647) : FRW Y t2 (tk5 t ((Y 16).2 k 0) ((Y 16).2 k 1) ((Y 16).2 k 2) (-1) 2) (k + 1) := by
  obtain ⟨h1, h2, h3⟩ := h
  have e1 := tk5_1 (t := t) (a := (Y 16).2 k 0) (b := (Y 16).2 k 1) (c := (Y 16).2 k 2) (e := -1) (v := 2) ht
  refine ⟨by rw [e1]; omega, fun r c hr => by rw [tk5_o ht (by omega)]; exact h2 r c hr, fun r a b => ?_⟩
  rw [e1] at b
  by_cases e : r = t.1
  · rw [e, show t.1 - t2.1 = k by omega]
    exact tk5_n ht
  · rw [tk5_o ht (by omega), tk5_o ht (by omega), tk5_o ht (by omega), tk5_o ht (by omega), tk5_o ht (by omega)]
    exact h3 r a (by omega)
theorem TKc.mv (h : TKc Y stg t r i c) (he : ∀ q, t'.2 r q = t.2 r q) : TKc Y stg t' r i c := by
  unfold TKc at h ⊢
  rw [he, he, he, he, he]
  exact h
theorem TKl.mv (h : TKl Y stg t r i n) (he : ∀ q, t'.2 r q = t.2 r q) : TKl Y stg t' r i n := by
  unfold TKl at h ⊢
  rw [he, he, he, he, he]
  exact h
/-- what tasks say of STATES -/
theorem tk_all {kd fm : Int32} {t0 : Tb} {n0 B : Nat} {PC PL : Nat → Nat → Prop} (hD : MDL Y es) (h : TKS Y kd fm stg n0 t0 t (PCi Y (Y 11).1) (PLi Y (Y 11).1) B) (he : ∀ r q, r < t.1 → t'.2 r q = t.2 r q) : (∀ r, n0 ≤ r → r < t.1 → RWv Y U f P od t' r s) ↔ ((∀ i c, PCi Y (Y 11).1 i c → (Y 8).2 c 0 = kd → CLv Y U f P od i c s) ∧ ∀ i n, PLi Y (Y 11).1 i n → (Y 7).2 n 0 = fm → LNv Y U f P od i n s) := by
  have b11 := hD.1.2.2.2.2.2.2 11 (by decide)
  have b15 := hD.1.2.2.2.2.2.2 15 (by decide)
  constructor
  · intro hr
    refine ⟨fun i c hp hk => ?_, fun i n hp hk => ?_⟩
    · obtain ⟨r, r1, r2, r3⟩ := h.2.2.2.1 i c hp hk
      have hi := hp.1
      exact (TKc.v (r3.mv (fun q => he r q r2)) (by omega)).mp (hr r r1 r2)
    · obtain ⟨r, r1, r2, r3⟩ := h.2.2.2.2 i n hp hk
      have hi := hp.1
      exact (TKl.v (r3.mv (fun q => he r q r2)) (by omega) (lvr_ok hD.1 hD.2.2.2.2.2.1 hp) b15).mp (hr r r1 r2)
  · rintro ⟨hc, hl⟩ r r1 r2
    rcases h.2.2.1 r r1 r2 with ⟨i, c, hp, hk, q⟩ | ⟨i, n, hp, hk, q⟩
    · have hi := hp.1
      exact (TKc.v (q.mv (fun q => he r q r2)) (by omega)).mpr (hc i c hp hk)
    · have hi := hp.1
      exact (TKl.v (q.mv (fun q => he r q r2)) (by omega) (lvr_ok hD.1 hD.2.2.2.2.2.1 hp) b15).mpr (hl i n hp hk)
theorem tk_row {kd fm : Int32} {t0 : Tb} {n0 B : Nat} (hD : MDL Y es) (h : TKS Y kd fm stg n0 t0 t (PCi Y (Y 11).1) (PLi Y (Y 11).1) B) (he : ∀ r q, r < t.1 → t'.2 r q = t.2 r q) (hkd : ¬ kd = 6 ∧ ¬ kd = 8) (r1 : n0 ≤ r) (r2 : r < t.1) : RWt Y es t' r ∧ t'.2 r 4 = stg := by
  rcases h.2.2.1 r r1 r2 with ⟨i, c, hp, hk, q⟩ | ⟨i, n, hp, hk, q⟩
  · have q2 := q.mv (fun q => he r q r2)
    exact ⟨TKc.row hD q2 hp (by rw [hk]; exact hkd), q2.2.2.2.2⟩
  · have q2 := q.mv (fun q => he r q r2)
    exact ⟨TKl.row hD q2 hp, q2.2.2.2.2⟩
theorem fr_row (hD : MDL Y es) {q : Nat} (hq : q < (Y 16).1) (h0 : t.2 r 0 = (Y 16).2 q 0) (h1 : t.2 r 1 = (Y 16).2 q 1) (h2 : t.2 r 2 = (Y 16).2 q 2) (h3 : t.2 r 3 = -1) : RWt Y es t r ∧ rwi t r = rwi (Y 16) q ∧ rwa t r = rwa (Y 16) q ∧ rwn t r = rwn (Y 16) q := by
  obtain ⟨a, N, i, rs, e0, e1, e2, e3, e4, e5, e6⟩ := hD.2.2.2.2.1.1 q hq
  have b0 := hD.1.2.2.2.2.2.2 0 (by decide)
  have b11 := hD.1.2.2.2.2.2.2 11 (by decide)
  have g1 := e4.2.1
  obtain ⟨w1, w2, w3⟩ := rw_of (h0.trans e0) (h1.trans e1) (h2.trans e2) (by omega) (by omega)
  obtain ⟨x1, x2, x3⟩ := rw_of (t := Y 16) (r := q) e0 e1 e2 (by omega) (by omega)
  refine ⟨⟨by rw [w1, w2, w3]; exact ⟨h0.trans e0, h1.trans e1, h2.trans e2⟩, by rw [w3]; exact e3, rs, by rw [w1, w2, w3]; exact e5, Or.inl ⟨h3, by rw [w1, w2, w3]; exact e4⟩⟩, w3.trans x3.symm, w1.trans x1.symm, w2.trans x2.symm⟩
theorem TSK_of {t1 t2 : Tb} {tz : Tb} {B1 B2 : Nat} (hD : MDL Y es) (h1 : TKS Y 5 1 0 0 tz t1 (PCi Y (Y 11).1) (PLi Y (Y 11).1) B1) (h2 : TKS Y 4 2 1 t1.1 t1 t2 (PCi Y (Y 11).1) (PLi Y (Y 11).1) B2) (h3 : FRW Y t2 t (Y 16).1) (hB : B1 + B2 ≤ 8002) : TSK Y es t t1.1 t2.1 ∧ (∀ U s, (∀ r, r < t1.1 → RWv Y U f P od t r s) ↔ EVR Y U f P od s) ∧ ∀ U s, (∀ r, t1.1 ≤ r → r < t2.1 → RWv Y U f P od t r s) ↔ INR Y U f P od s := by
  have a1 := h1.1
  have a2 := h2.1
  have a3 := h3.1
  have e2 : ∀ r q, r < t2.1 → t.2 r q = t2.2 r q := fun r q hr => h3.2.1 r q hr
  have e1 : ∀ r q, r < t1.1 → t.2 r q = t1.2 r q := fun r q hr => (e2 r q (by omega)).trans (h2.2.1 r q hr)
  have b16 := hD.2.2.2.1.2.2.2.1
  refine ⟨⟨⟨a2.1, a3, by omega⟩, fun r hr => ?_, fun r hr => (tk_row hD h1 e1 ⟨by decide, by decide⟩ (Nat.zero_le _) hr).2, fun r r1 r2 => (tk_row hD h2 e2 ⟨by decide, by decide⟩ r1 r2).2, fun r r1 r2 => ?_⟩, fun U s => ?_, fun U s => tk_all (PC := fun _ _ => True) (PL := fun _ _ => True) hD h2 e2⟩
  · by_cases c1 : r < t1.1
    · exact (tk_row hD h1 e1 ⟨by decide, by decide⟩ (Nat.zero_le _) c1).1
    · by_cases c2 : r < t2.1
      · exact (tk_row hD h2 e2 ⟨by decide, by decide⟩ (by omega) c2).1
      · obtain ⟨q0, q1, q2, q3, q4⟩ := h3.2.2 r (by omega) hr
        exact (fr_row hD (by omega) q0 q1 q2 q3).1
  · obtain ⟨q0, q1, q2, q3, q4⟩ := h3.2.2 r r1 r2
    exact ⟨q4, q3, (fr_row hD (by omega) q0 q1 q2 q3).2⟩
  · have := tk_all (U := U) (f := f) (P := P) (od := od) (s := s) (PC := fun _ _ => True) (PL := fun _ _ => True) hD h1 e1
    constructor
    · intro z
      exact this.mp (fun r _ hr => z r hr)
    · intro z r hr
      exact this.mpr z r (Nat.zero_le _) hr
theorem RWv_E (h3 : t.2 r 3 = -1) (e : tru Y V f P od (rwi t r) (rwa t r) (rwn t r) s = tru Y U f P od (rwi t r) (rwa t r) (rwn t r) s) : (¬ tru Y V f P od (rwi t r) (rwa t r) (rwn t r) s = 0) ↔ RWv Y U f P od t r s := by
  unfold RWv
  rw [if_pos h3, e]
theorem RWv_C {v0 : Nat} (h3 : t.2 r 3 = nI v0) (hv : v0 < 2147483648) (e : cho Y V f P od (rwi t r) (rwa t r) (rwn t r) v0 s ↔ cho Y U f P od (rwi t r) (rwa t r) (rwn t r) v0 s) : cho Y V f P od (rwi t r) (rwa t r) (rwn t r) v0 s ↔ RWv Y U f P od t r s := by
  unfold RWv
  rw [if_neg (by rw [h3]; exact nI_neg1 hv), h3, nI_clamp hv, e]
theorem RWv_F (h3 : t.2 r 3 = -1) {q : Nat} (e1 : rwi t r = rwi (Y 16) q) (e2 : rwa t r = rwa (Y 16) q) (e3 : rwn t r = rwn (Y 16) q) : RWv Y U f P od t r s ↔ FRv Y U f P od q s := by
  unfold RWv FRv
  rw [if_pos h3, e1, e2, e3]
end Know
