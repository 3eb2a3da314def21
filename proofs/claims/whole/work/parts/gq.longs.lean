/-! GRAPH: what its methods stand on; rows of longs by name -/
section Bits2
variable {La : Nat → Int64} {x t : Nat}
theorem bts_setoff (hx : x < 2147483648) : bts (fun k => if k = x / 64 then La (x / 64) &&& (((1 : Int64) <<< ((nI x).toInt64 &&& 63)) ^^^ (-1 : Int64)) else La k) t = true ↔ bts La t = true ∧ ¬ t = x := by
  unfold bts
  have hq : t % 64 < 64 := Nat.mod_lt _ (by decide)
  show btz (if t / 64 = x / 64 then La (x / 64) &&& (((1 : Int64) <<< ((nI x).toInt64 &&& 63)) ^^^ (-1 : Int64)) else La (t / 64)) (t % 64) = true ↔ _
  by_cases h : t / 64 = x / 64
  · rw [if_pos h, btz_and, btz_xm1 hq, Bool.and_eq_true, Bool.not_eq_true', h]
    have h1 : btz ((1 : Int64) <<< ((nI x).toInt64 &&& 63)) (t % 64) = true ↔ t % 64 = x % 64 := by
      rw [btz_shl hx hq, btz_1, Bool.and_eq_true, decide_eq_true_iff, decide_eq_true_iff]
      constructor
      · intro y
        omega
      · intro y
        omega
    constructor
    · rintro ⟨y1, y2⟩
      refine ⟨y1, fun y => ?_⟩
      rw [h1.mpr (by rw [y])] at y2
      cases y2
    · rintro ⟨y1, y2⟩
      refine ⟨y1, ?_⟩
      cases hb : btz ((1 : Int64) <<< ((nI x).toInt64 &&& 63)) (t % 64)
      · rfl
      · exact absurd (show t = x by have := h1.mp hb; omega) y2
  · rw [if_neg h]
    constructor
    · exact fun y => ⟨y, fun z => h (by rw [z])⟩
    · exact fun y => y.1
end Bits2
/-- a row of longs by name: (0, place) for those that stay, (pool, number) for the others -/
def lgf (V : Ud) (a i : Nat) : Nat → Int64 := fun k => if a = 0 then V.2.2.2.2.1 i k else ((V.2.2.2.2.2 a i).getD (0, fun _ => 0)).2 k
def LSN (V : Ud) (a i q L : Nat) : Prop := (a = 0 ∧ q = i ∧ (i = 148 ∨ i = 162) ∧ L = 256) ∨ ((a = 161 ∨ a = 163) ∧ (a, i) ∈ plp ∧ V.2.2.2.1 a i = some q ∧ ∃ f, V.2.2.2.2.2 a i = some (L, f))
/-- all rows of longs but one stay -/
def GKP (a i : Nat) (U V : Ud) : Prop := (∀ p, p = 148 ∨ p = 162 → ¬ (a = 0 ∧ i = p) → V.2.2.2.2.1 p = U.2.2.2.2.1 p) ∧ (∀ b c, ¬ (a = b ∧ i = c) → V.2.2.2.2.2 b c = U.2.2.2.2.2 b c) ∧ (V.2.2.2.2.2 a i).map (fun x => x.1) = (U.2.2.2.2.2 a i).map (fun x => x.1)
def FLS : Uf := ⟨[], [], [], [], [148, 162], true⟩
section LongNames
variable {m k a i q L : Nat} {H : mu_H} {U V W : Ud} {C : Nat → Nat} {v : Int64}
theorem GKP.refl (a i : Nat) (U : Ud) : GKP a i U U := ⟨fun _ _ _ => rfl, fun _ _ _ => rfl, rfl⟩
theorem GKP.trans (h : GKP a i U V) (h' : GKP a i V W) : GKP a i U W := ⟨fun p hp hn => (h'.1 p hp hn).trans (h.1 p hp hn), fun b c hn => (h'.2.1 b c hn).trans (h.2.1 b c hn), h'.2.2.trans h.2.2⟩
/-- what changes none of them -/
theorem GKP.of_eq (h1 : ∀ p, p = 148 ∨ p = 162 → V.2.2.2.2.1 p = U.2.2.2.2.1 p) (h2 : V.2.2.2.2.2 = U.2.2.2.2.2) : GKP a i U V := ⟨fun p hp _ => h1 p hp, fun b c _ => by rw [h2], by rw [h2]⟩
theorem lsf_of_eq (h1 : ∀ p, p = 148 ∨ p = 162 → V.2.2.2.2.1 p = U.2.2.2.2.1 p) (h2 : V.2.2.2.2.2 = U.2.2.2.2.2) (hn : LSN U a i q L) : lgf V a i = lgf U a i := by
  funext k
  unfold lgf
  rcases hn with ⟨rfl, _, hi, _⟩ | ⟨ha, _⟩
  · rw [if_pos rfl, if_pos rfl, h1 i hi]
  · rw [h2, if_neg (by omega), if_neg (by omega)]
theorem LSN.lt (h : LSN V a i q L) : L = 256 ∨ ∃ f, V.2.2.2.2.2 a i = some (L, f) := by
  rcases h with h | h
  · exact Or.inl h.2.2.2
  · exact Or.inr h.2.2.2
theorem LSN.keep (h : LSN U a i q L) (hr : ∀ b c, b = 161 ∨ b = 163 → V.2.2.2.1 b c = U.2.2.2.1 b c) (hs : (V.2.2.2.2.2 a i).map (fun x => x.1) = (U.2.2.2.2.2 a i).map (fun x => x.1)) : LSN V a i q L := by
  rcases h with h | ⟨ha, hp, h1, f, h2⟩
  · exact Or.inl h
  · refine Or.inr ⟨ha, hp, (hr a i ha).trans h1, ?_⟩
    rw [h2] at hs
    cases hx : V.2.2.2.2.2 a i with
    | none => rw [hx] at hs; cases hs
    | some x =>
      rw [hx] at hs
      have hs : some x.1 = some L := hs
      cases hs
      exact ⟨x.2, rfl⟩
theorem dR_pool (e : ud m H = V) (ha : a = 161 ∨ a = 163) (hp : (a, i) ∈ plp) : mu_r H a i = V.2.2.2.1 a i := by
  rw [← e]
  show mu_r H a i = dR H a i
  unfold dR
  have h1 : ¬ uo a = true := by rcases ha with rfl | rfl <;> decide
  rw [if_neg h1, if_pos ⟨hp, by omega⟩]
theorem LSN.read (h : um m H) (e : ud m H = V) (hn : LSN V a i q L) : mu_is H (some q) 102 ∧ mu_n H q = L ∧ ∀ k, mu_l H q k = lgf V a i k := by
  rcases hn with ⟨rfl, rfl, hi, rfl⟩ | ⟨ha, hp, h1, f, h2⟩
  · have hl : ∀ k, lgf V 0 q k = V.2.2.2.2.1 q k := fun k => if_pos rfl
    rcases hi with rfl | rfl
    · exact ⟨(h.1.1.a (p := 148) (x := (102, 256)) rfl).1, (h.1.1.a (p := 148) (x := (102, 256)) rfl).2, fun k => (ud_l (m := m) (p := 148) (i := k) e rfl).trans (hl k).symm⟩
    · exact ⟨(h.1.1.a (p := 162) (x := (102, 256)) rfl).1, (h.1.1.a (p := 162) (x := (102, 256)) rfl).2, fun k => (ud_l (m := m) (p := 162) (i := k) e rfl).trans (hl k).symm⟩
  · obtain ⟨q', k1, k2, k3, k4⟩ := um.gP h e hp h2
    have hq : q' = q := by
      rw [dR_pool e ha hp, h1] at k1
      exact (Option.some.inj k1).symm
    rw [hq] at k2 k3 k4
    refine ⟨k2, k3, fun k => ?_⟩
    rw [k4 k]
    unfold lgf
    rw [if_neg (by omega), h2]
    rfl
theorem LSN.write (h : um m H) (e : ud m H = V) (hn : LSN V a i q L) : um m (mu_sl H q k v) ∧ ur m C H (mu_sl H q k v) ∧ uq FLS V (ud m (mu_sl H q k v)) ∧ GKP a i V (ud m (mu_sl H q k v)) ∧ LSN (ud m (mu_sl H q k v)) a i q L ∧ ∀ j, lgf (ud m (mu_sl H q k v)) a i j = if j = k then v else lgf V a i j := by
  rcases hn with ⟨rfl, rfl, hi, rfl⟩ | ⟨ha, hp, h1, f, h2⟩
  · have key : um m (mu_sl H q k v) ∧ ur m C H (mu_sl H q k v) ∧ ud m (mu_sl H q k v) = upL V q k v := by
      rcases hi with rfl | rfl
      · exact h.sL (C := C) e rfl
      · exact h.sL (C := C) e rfl
    obtain ⟨k1, k2, k3⟩ := key
    rw [k3]
    refine ⟨k1, k2, (uq.refl FLS V).L (by rcases hi with rfl | rfl <;> rfl), ⟨fun p _ hne => ?_, fun _ _ _ => rfl, rfl⟩, Or.inl ⟨rfl, rfl, hi, rfl⟩, fun j => ?_⟩
    · show (fun y => (upL V q k v).2.2.2.2.1 p y) = V.2.2.2.2.1 p
      funext y
      show (if p = q ∧ y = k then v else V.2.2.2.2.1 p y) = _
      rw [if_neg (fun z => hne ⟨rfl, z.1.symm⟩)]
    · unfold lgf
      rw [if_pos rfl]
      show (if q = q ∧ j = k then v else V.2.2.2.2.1 q j) = _
      by_cases y : j = k
      · rw [if_pos ⟨rfl, y⟩, if_pos y]
      · rw [if_neg (fun z => y z.2), if_neg y, if_pos rfl]
  · have hq : mu_r H a i = some q := (dR_pool e ha hp).trans h1
    obtain ⟨k1, k2, k3⟩ := um.putP (C := C) (k := k) (v := v) h hp hq
    rw [e] at k3
    rw [k3]
    have hat : (upP V a i k v).2.2.2.2.2 a i = some (L, fun s => if s = k then v else f s) := by
      show (if a = a ∧ i = i then (V.2.2.2.2.2 a i).map (fun x => (x.1, fun q => if q = k then v else x.2 q)) else _) = _
      rw [if_pos ⟨rfl, rfl⟩, h2]
      rfl
    refine ⟨k1, k2, (uq.refl FLS V).P rfl, ⟨fun _ _ _ => rfl, fun b c hne => ?_, ?_⟩, Or.inr ⟨ha, hp, h1, _, hat⟩, fun j => ?_⟩
    · show (if b = a ∧ c = i then _ else V.2.2.2.2.2 b c) = _
      rw [if_neg (fun z => hne ⟨z.1.symm, z.2.symm⟩)]
    · rw [hat, h2]
      rfl
    · unfold lgf
      have ha0 : ¬ a = 0 := by omega
      rw [if_neg ha0, if_neg ha0, hat, h2]
      rfl
theorem LSN.fill {b n : Nat} {g : Nat → Int64} (h : um m H) (e : ud m H = V) (hn : LSN V a i q L) : um m (ml_fill H q b g n) ∧ ur m C H (ml_fill H q b g n) ∧ uq FLS V (ud m (ml_fill H q b g n)) ∧ GKP a i V (ud m (ml_fill H q b g n)) ∧ LSN (ud m (ml_fill H q b g n)) a i q L ∧ ∀ j, lgf (ud m (ml_fill H q b g n)) a i j = if b ≤ j ∧ j < b + n then g (j - b) else lgf V a i j := by
  rcases hn with ⟨rfl, rfl, hi, rfl⟩ | ⟨ha, hp, h1, f, h2⟩
  · have key : um m (ml_fill H q b g n) ∧ ur m C H (ml_fill H q b g n) ∧ ud m (ml_fill H q b g n) = upM V q b g n := by
      rcases hi with rfl | rfl
      · exact h.fL (C := C) e rfl
      · exact h.fL (C := C) e rfl
    obtain ⟨k1, k2, k3⟩ := key
    rw [k3]
    refine ⟨k1, k2, (uq.refl FLS V).M (by rcases hi with rfl | rfl <;> rfl), ⟨fun p _ hne => ?_, fun _ _ _ => rfl, rfl⟩, Or.inl ⟨rfl, rfl, hi, rfl⟩, fun j => ?_⟩
    · funext y
      show (if p = q ∧ b ≤ y ∧ y < b + n then g (y - b) else V.2.2.2.2.1 p y) = _
      rw [if_neg (fun z => hne ⟨rfl, z.1.symm⟩)]
    · unfold lgf
      rw [if_pos rfl]
      show (if q = q ∧ b ≤ j ∧ j < b + n then g (j - b) else V.2.2.2.2.1 q j) = _
      by_cases y : b ≤ j ∧ j < b + n
      · rw [if_pos ⟨rfl, y⟩, if_pos y]
      · rw [if_neg (fun z => y z.2), if_neg y, if_pos rfl]
  · have hq : mu_r H a i = some q := (dR_pool e ha hp).trans h1
    obtain ⟨k1, k2, k3, -⟩ := um.fP (C := C) (b := b) (g := g) (k := n) h e hp hq
    rw [k3]
    have hat : (upQ V a i b g n).2.2.2.2.2 a i = some (L, fun s => if b ≤ s ∧ s < b + n then g (s - b) else f s) := by
      show (if a = a ∧ i = i then (V.2.2.2.2.2 a i).map (fun x => (x.1, fun s => if b ≤ s ∧ s < b + n then g (s - b) else x.2 s)) else _) = _
      rw [if_pos ⟨rfl, rfl⟩, h2]
      rfl
    refine ⟨k1, k2, (uq.refl FLS V).Q rfl, ⟨fun _ _ _ => rfl, fun b' c hne => ?_, ?_⟩, Or.inr ⟨ha, hp, h1, _, hat⟩, fun j => ?_⟩
    · show (if b' = a ∧ c = i then _ else V.2.2.2.2.2 b' c) = _
      rw [if_neg (fun z => hne ⟨z.1.symm, z.2.symm⟩)]
    · rw [hat, h2]
      rfl
    · unfold lgf
      have ha0 : ¬ a = 0 := by omega
      rw [if_neg ha0, if_neg ha0, hat, h2]
      rfl
theorem LSN.at_ (h : LSN V a i q L) : q < 3000000 ∨ a = 161 ∨ a = 163 := by
  rcases h with ⟨_, h, h1, _⟩ | h
  · rcases h1 with h1 | h1 <;> exact Or.inl (by omega)
  · exact Or.inr h.1
end LongNames
/-- the members of the rows side by side -/
def MBP (T R : Nat) (rx mb me : Nat → Nat) : Prop := (∀ r, r < R → mb r ≤ mb (r + 1) ∧ mb (r + 1) ≤ T) ∧ (∀ r i, r < R → mb r ≤ i → i < mb (r + 1) → rx (me i) = r) ∧ (∀ s, s < T → ∃ i, mb (rx s) ≤ i ∧ i < mb (rx s + 1) ∧ me i = s) ∧ ∀ i j, i < T → j < T → me i = me j → i = j
/-- what the methods of the Graph stand on -/
def GRB (V : Ud) (T R wn : Nat) (rx mb me : Nat → Nat) : Prop := ((V.2.1 99 12 = nI wn ∧ V.2.1 99 11 = nI T) ∧ wn = (T + 63) / 64 ∧ T ≤ 16384) ∧ ((T ≤ (V.2.2.1 129 6).1 ∧ (V.2.2.1 129 6).1 ≤ 16777216) ∧ ∀ s, s < T → (V.2.2.1 129 6).2 s = nI (rx s) ∧ rx s < R) ∧ (R ≤ T + 1 ∧ 7 * (T + 4) ≤ (V.2.2.1 147 10).1 ∧ (V.2.2.1 147 10).1 ≤ 16777216) ∧ (T + 4 ≤ (V.2.2.1 147 11).1 ∧ (V.2.2.1 147 11).1 ≤ 16777216) ∧ (T + 4 ≤ (V.2.2.1 147 12).1 ∧ (V.2.2.1 147 12).1 ≤ 16777216) ∧ (T + 4 ≤ (V.2.2.1 147 13).1 ∧ (V.2.2.1 147 13).1 ≤ 16777216) ∧ (∀ r, r < R + 1 → (V.2.2.1 147 10).2 (r * 7 + 0) = nI (mb r)) ∧ (∀ i, i < T → (V.2.2.1 147 11).2 i = nI (me i) ∧ me i < T) ∧ MBP T R rx mb me
/-- the first column of the nodes stays -/
def NK (U V : Ud) : Prop := ∀ j, j % 7 = 0 → (V.2.2.1 147 10).2 j = (U.2.2.1 147 10).2 j
def grok (F : Uf) : Bool := !in2 F.i 99 12 && (!in2 F.i 99 11 && (!in2 F.a 129 6 && (!in2 F.n 129 6 && (!in2 F.n 147 10 && (!in2 F.a 147 11 && (!in2 F.n 147 11 && (!in2 F.n 147 12 && !in2 F.n 147 13)))))))
section GraphBase
variable {U V W : Ud} {T R wn : Nat} {rx mb me : Nat → Nat} {F : Uf}
theorem NK.refl (U : Ud) : NK U U := fun _ _ => rfl
theorem NK.trans (h : NK U V) (h' : NK V W) : NK U W := fun j hj => (h' j hj).trans (h j hj)
theorem NK.of_eq (h : V.2.2.1 147 10 = U.2.2.1 147 10) : NK U V := fun j _ => by rw [h]
theorem GRB.keep (h : GRB U T R wn rx mb me) (hq : uq F U V) (hF : grok F = true) (hk : NK U V) : GRB V T R wn rx mb me := by
  unfold grok at hF
  simp only [Bool.and_eq_true, Bool.not_eq_true'] at hF
  obtain ⟨f1, f2', f3, f4, f5, f6, f7, f8, f9⟩ := hF
  obtain ⟨⟨⟨a1, a2⟩, a3⟩, ⟨⟨b1, b1'⟩, b2⟩, c1, d1, e1, g1, k1, k2, k3⟩ := h
  refine ⟨⟨⟨(hq.i 99 12 f1).trans a1, (hq.i 99 11 f2').trans a2⟩, a3⟩, ⟨?_, ?_⟩, ?_, ?_, ?_, ?_, ?_, ?_, k3⟩
  · rw [hq.n 129 6 f4]; exact ⟨b1, b1'⟩
  · rw [hq.a 129 6 f3]; exact b2
  · rw [hq.n 147 10 f5]; exact c1
  · rw [hq.n 147 11 f7]; exact d1
  · rw [hq.n 147 12 f8]; exact e1
  · rw [hq.n 147 13 f9]; exact g1
  · exact fun r hr => (hk (r * 7 + 0) (by omega)).trans (k1 r hr)
  · rw [hq.a 147 11 f6]; exact k2
end GraphBase
section GraphSmall
variable {H H1 : mu_H} {U V : Ud} {F : Uf} {bf bt a i qq L : Nat} {x : Int32} {b : Bool}
theorem has_alt (h : x = (if b = true then 1 else 0) ∧ H1 = H) : (x = 1 ∧ b = true ∧ H = H1) ∨ (x = 0 ∧ b = false ∧ H = H1) := by
  obtain ⟨h1, h2⟩ := h
  cases b
  · exact Or.inr ⟨h1, rfl, h2.symm⟩
  · exact Or.inl ⟨h1, rfl, h2.symm⟩
theorem BZ.same (h : BZ U bf bt) (e1 : V.2.1 129 19 = U.2.1 129 19) (e2 : V.2.1 129 20 = U.2.1 129 20) (e3 : V.2.2.2.2.1 146 = U.2.2.2.2.1 146) : BZ V bf bt := by
  obtain ⟨⟨h1, h2, h3⟩, h4⟩ := h
  exact ⟨⟨e1.trans h1, e2.trans h2, h3⟩, by rw [e3]; exact h4⟩
theorem BZ.q (h : BZ U bf bt) (hq : uq F U V) (h1 : in2 F.i 129 19 = false) (h2 : in2 F.i 129 20 = false) (h3 : in1 F.l 146 = false) : BZ V bf bt := h.same (hq.i 129 19 h1) (hq.i 129 20 h2) (hq.l 146 h3)
theorem LSN.q (h : LSN U a i qq L) (hq : uq F U V) (h1 : ∀ c, in2 F.n 161 c = false) (h2 : ∀ c, in2 F.n 163 c = false) (hp : F.p = false) : LSN V a i qq L := by
  have ep : V.2.2.2.2.2 = U.2.2.2.2.2 := hq.2.2.2.2.2 hp
  refine h.keep (fun b c hb => ?_) (by rw [ep])
  rcases hb with rfl | rfl
  · exact hq.r 161 c (h1 c)
  · exact hq.r 163 c (h2 c)
theorem LSN.g (h : LSN U a i qq L) (hq : uq F U V) (h1 : ∀ c, in2 F.n 161 c = false) (h2 : ∀ c, in2 F.n 163 c = false) (hk : GKP a i U V) : LSN V a i qq L := by
  refine h.keep (fun b c hb => ?_) hk.2.2
  rcases hb with rfl | rfl
  · exact hq.r 161 c (h1 c)
  · exact hq.r 163 c (h2 c)
theorem lsf_q (h : LSN U a i qq L) (hq : uq F U V) (h1 : in1 F.l 148 = false) (h2 : in1 F.l 162 = false) (hp : F.p = false) : lgf V a i = lgf U a i := lsf_of_eq (fun p hp => by rcases hp with rfl | rfl; (exact hq.l 148 h1); (exact hq.l 162 h2)) (hq.2.2.2.2.2 hp) h
theorem gkp_q (hq : uq F U V) (h1 : in1 F.l 148 = false) (h2 : in1 F.l 162 = false) (hp : F.p = false) : GKP a i U V := GKP.of_eq (fun p hp => by rcases hp with rfl | rfl; (exact hq.l 148 h1); (exact hq.l 162 h2)) (hq.2.2.2.2.2 hp)
theorem orb1 {k : Nat} (h : k ≤ 1) : nI k ||| (1 : Int32) = nI 1 := by
  have : ∀ k, k < 2 → nI k ||| (1 : Int32) = nI 1 := by decide
  exact this k (by omega)
theorem orb0 {k : Nat} (h : k ≤ 1) : nI k ||| (0 : Int32) = nI k := by
  have : ∀ k, k < 2 → nI k ||| (0 : Int32) = nI k := by decide
  exact this k (by omega)
theorem or4 : ∀ a, a < 4 → ∀ b, b < 4 → nI a ||| (nI b &&& (1 : Int32)) = nI (if b % 2 = 1 ∧ a % 2 = 0 then a + 1 else a) := by decide
theorem or41 : ∀ a, a < 4 → nI a ||| (1 : Int32) = nI (if a % 2 = 0 then a + 1 else a) := by decide
theorem and41 : ∀ a, a < 4 → (nI a &&& (1 : Int32) = 0 ↔ ¬ a % 2 = 1) := by decide
theorem and42 : ∀ a, a < 4 → (nI a &&& (2 : Int32) = 0 ↔ ¬ 2 ≤ a) := by decide
end GraphSmall
/-- a fact that omega is not to look into -/
def HID (P : Prop) : Prop := P
theorem HID.mk {P : Prop} (h : P) : HID P := h
theorem HID.out {P : Prop} (h : HID P) : P := h
def LQX (A B : Nat → Prop) (me : Nat → Nat) (a x lq : Nat) : Prop := lq = 1 ↔ ∃ i, a ≤ i ∧ i < x ∧ A (me i) ∧ B (me i)
def FYE (FS : Nat → Nat → Bool) (qu : Nat → Nat) (f mn : Nat) : Prop := ∃ i, i < mn ∧ FS f (qu i) = true
section Members
variable {U : Ud} {v : Int64} {P : Prop} {A B : Nat → Prop} {me : Nat → Nat} {a x t p q i lq : Nat}
theorem upL_ne (h : ¬ q = p) : (upL U p i v).2.2.2.2.1 q = U.2.2.2.2.1 q := funext fun k => if_neg (fun z => h z.1)
theorem mem_on (hx : a ≤ x) (hA : A (me x)) : ((P ∨ ∃ i, a ≤ i ∧ i < x ∧ me i = t ∧ A t) ∨ t = me x) ↔ (P ∨ ∃ i, a ≤ i ∧ i < x + 1 ∧ me i = t ∧ A t) := by
  constructor
  · rintro ((y | ⟨i, y1, y2, y3, y4⟩) | y)
    · exact Or.inl y
    · exact Or.inr ⟨i, y1, by omega, y3, y4⟩
    · exact Or.inr ⟨x, hx, by omega, y.symm, by rw [y]; exact hA⟩
  · rintro (y | ⟨i, y1, y2, y3, y4⟩)
    · exact Or.inl (Or.inl y)
    · rcases Nat.lt_or_ge i x with z | z
      · exact Or.inl (Or.inr ⟨i, y1, z, y3, y4⟩)
      · rw [show i = x by omega] at y3
        exact Or.inr y3.symm
theorem mem_off (hx : a ≤ x) (hA : A (me x)) : ((P ∧ ¬ ∃ i, a ≤ i ∧ i < x ∧ me i = t ∧ A t) ∧ ¬ t = me x) ↔ (P ∧ ¬ ∃ i, a ≤ i ∧ i < x + 1 ∧ me i = t ∧ A t) := by
  have h := mem_on (P := False) (t := t) hx hA
  constructor
  · rintro ⟨⟨y1, y2⟩, y3⟩
    refine ⟨y1, fun z => ?_⟩
    rcases h.mpr (Or.inr z) with (w | w) | w
    · exact w
    · exact y2 w
    · exact y3 w
  · rintro ⟨y1, y2⟩
    refine ⟨⟨y1, fun z => ?_⟩, fun z => ?_⟩
    · exact y2 ((h.mp (Or.inl (Or.inr z))).resolve_left id)
    · exact y2 ((h.mp (Or.inr z)).resolve_left id)
theorem mem_no (hA : ¬ A (me x)) : (∃ i, a ≤ i ∧ i < x ∧ me i = t ∧ A t) ↔ (∃ i, a ≤ i ∧ i < x + 1 ∧ me i = t ∧ A t) := by
  constructor
  · rintro ⟨i, y1, y2, y3, y4⟩
    exact ⟨i, y1, by omega, y3, y4⟩
  · rintro ⟨i, y1, y2, y3, y4⟩
    rcases Nat.lt_or_ge i x with z | z
    · exact ⟨i, y1, z, y3, y4⟩
    · rw [show i = x by omega] at y3
      rw [← y3] at y4
      exact absurd y4 hA
theorem LQX.zero : LQX A B me a a 0 := ⟨fun y => absurd y (by decide), fun ⟨i, y1, y2, _⟩ => absurd y2 (by omega)⟩
theorem LQX.no (h : LQX A B me a x lq) (hA : ¬ (A (me x) ∧ B (me x))) : LQX A B me a (x + 1) lq := by
  refine Iff.trans h ⟨?_, ?_⟩
  · rintro ⟨i, y1, y2, y3⟩
    exact ⟨i, y1, by omega, y3⟩
  · rintro ⟨i, y1, y2, y3⟩
    rcases Nat.lt_or_ge i x with z | z
    · exact ⟨i, y1, z, y3⟩
    · rw [show i = x by omega] at y3
      exact absurd y3 hA
theorem LQX.yes (hx : a ≤ x) (hA : A (me x)) (hB : B (me x)) : LQX A B me a (x + 1) 1 := ⟨fun _ => ⟨x, hx, by omega, hA, hB⟩, fun _ => rfl⟩
/-- the members of a row -/
theorem MBP.mem {T R r : Nat} {rx mb : Nat → Nat} (h : MBP T R rx mb me) (hr : r < R) (ht : t < T) : (∃ i, mb r ≤ i ∧ i < mb (r + 1) ∧ me i = t) ↔ rx t = r := by
  obtain ⟨h1, h2, h3, -⟩ := h
  constructor
  · rintro ⟨i, y1, y2, rfl⟩
    exact h2 r i hr y1 y2
  · rintro rfl
    exact h3 t ht
end Members
/-- the sets of FAIRNESS stand first in the store -/
def FST (U : Ud) (nf T : Nat) (FS : Nat → Nat → Bool) : Prop := (U.2.1 99 19 = nI nf ∧ nf ≤ 600000) ∧ ∀ f, f < nf → (∃ st fc, sat U f st fc ∧ stz fc st (FS f)) ∧ ∀ x, FS f x = true → x < T
section FairSets
variable {H H1 : mu_H} {U V : Ud} {nf T : Nat} {FS : Nat → Nat → Bool} {x : Int32} {P Q : Prop}
theorem fl_alt (h : (x = 1 ∧ P ∧ H1 = H) ∨ (x = 0 ∧ Q ∧ H1 = H)) : (x = 1 ∧ P ∧ H = H1) ∨ (x = 0 ∧ Q ∧ H = H1) := by
  rcases h with ⟨h1, h2, h3⟩ | ⟨h1, h2, h3⟩
  · exact Or.inl ⟨h1, h2, h3.symm⟩
  · exact Or.inr ⟨h1, h2, h3.symm⟩
theorem FST.eq (h : FST U nf T FS) (e1 : V.2.1 99 19 = U.2.1 99 19) (e2 : V.2.2.1 113 3 = U.2.2.1 113 3) (e3 : ∀ c, V.2.2.2.2.2 114 c = U.2.2.2.2.2 114 c) : FST V nf T FS := by
  obtain ⟨⟨h1, h2⟩, h3⟩ := h
  refine ⟨⟨e1.trans h1, h2⟩, fun f hf => ?_⟩
  obtain ⟨⟨st, fc, ⟨s1, s2, s3, s4⟩, hz⟩, hb⟩ := h3 f hf
  refine ⟨⟨st, fc, ⟨?_, ?_, s3, ?_⟩, hz⟩, hb⟩
  · rw [e2]; exact s1
  · rw [e2]; exact s2
  · rw [e3]; exact s4
theorem FST.g {F : Uf} {a i : Nat} (h : FST U nf T FS) (hq : uq F U V) (h1 : in2 F.i 99 19 = false) (h2 : in2 F.a 113 3 = false) (hk : GKP a i U V) (ha : ¬ a = 114) : FST V nf T FS := h.eq (hq.i 99 19 h1) (hq.a 113 3 h2) (fun c => hk.2.1 114 c (fun z => ha z.1))
end FairSets
