/-! THE MACHINE: sides from whatever weights they had; lists of states -/
/-- the sides of a mask: their slots, and their marks, if any, say what is in them -/
def sdx (U : Ud) (W P S0 : Nat) (f : Nat → Nat) (mk : Int32) (sd : Nat → Nat) : Prop :=
  (U.1 22).1 = 28 ∧ (∀ k, k < 28 → ¬ mb mk k = 0 → k % 14 < P ∧ (U.1 22).2 k 0 = nI (sd k) ∧ sd k < S0 ∧ ∀ q, (U.1 22).2 k 3 = nI q → q < 2147483648 → ∃ w, 1 ≤ w ∧ w < 2147483648 ∧ (U.1 22).2 k 1 = nI w ∧ ∀ j, j < W → (U.2.2.1 100 8).2 (sd k * W + j) = (U.2.2.1 99 8).2 (sm f 0 (k % 14) + (q + j) / w % f (k % 14))) ∧
  ∀ k k', k < 28 → k' < 28 → ¬ mb mk k = 0 → ¬ mb mk k' = 0 → sd k = sd k' → k = k'
/-- behind n sides of beginList: a have their weights, b are laid out -/
def bgi (U V : Ud) (W P S0 : Nat) (f : Nat → Nat) (mk : Int32) (sd : Nat → Nat) (nw : Nat → Int32) (a b : Nat) : Prop :=
  sdx V W P S0 f mk sd ∧ (∀ r c, c ≠ 1 → c ≠ 3 → (V.1 22).2 r c = (U.1 22).2 r c) ∧ (∀ q, q < a → q < 28 → (V.1 22).2 q 1 = nw q) ∧
  (∀ q j, q < b → q < 14 → ¬ mb mk q = 0 → j < W → cvl V W (sd q) j = (U.1 22).2 q 2) ∧
  ∀ s j, (∀ q, q < 28 → ¬ mb mk q = 0 → s ≠ sd q) → j < W → cvl V W s j = cvl U W s j
def nwz (U : Ud) (k : Nat) : Int32 := if k < 14 then 0 else (U.2.2.1 99 6).2 (k - 14)
/-- behind the sides before k of takeList -/
def tki (U V : Ud) (W l P S0 : Nat) (f : Nat → Nat) (mk : Int32) (sd wt ls : Nat → Nat) (k : Nat) : Prop :=
  sds V W P S0 f mk sd wt ∧ (∀ r c, c ≠ 3 → (V.1 22).2 r c = (U.1 22).2 r c) ∧
  (∀ q j, 14 ≤ q → q < k → q < 28 → ¬ mb mk q = 0 → j < l → cvl V W (sd q) j = (U.2.2.1 99 8).2 (sm f 0 (q % 14) + ls j / wt q % f (q % 14))) ∧
  ∀ s j, (∀ q, 14 ≤ q → q < 28 → ¬ mb mk q = 0 → s ≠ sd q) → j < W → cvl V W s j = cvl U W s j
section Lists2
variable {H : mu_H} {m d A W l k n P S0 at0 tot a b N st sl : Nat} {C : Nat → Nat} {U V V1 : Ud} {f sd wt ls : Nat → Nat} {mk mv w : Int32} {s : Ts} {nw : Nat → Int32}
theorem nI_all (x : Int32) : ∃ n : Nat, x = nI n := by
  refine ⟨x.toBitVec.toNat, ?_⟩
  show x = Int32.ofNat x.toBitVec.toNat
  apply Int32.toBitVec_inj.mp
  rw [Int32.toBitVec_ofNat']
  simp
theorem sds_x (h : sds U W P S0 f mk sd wt) (hf : ∀ k, 1 ≤ f k) : sdx U W P S0 f mk sd := by
  obtain ⟨s1, s2, s3, s4⟩ := h
  refine ⟨s1, fun k hk hb => ?_, s4⟩
  obtain ⟨y1, y2, y3, y4, y5⟩ := s2 k hk hb
  refine ⟨y1, y2, y3, fun q hq hq2 => ⟨wt k, (y4 q hq hq2).1, ?_, s3 k hk, (y4 q hq hq2).2⟩⟩
  have := Nat.le_mul_of_pos_right (wt k) (hf (k % 14))
  omega
theorem lst_ok (hs : (s 22).1 = 28) (hn : n ≤ 28) : (lst mk s n 22).1 = 28 ∧ (∀ r c, c ≠ 0 → c ≠ 3 → (lst mk s n 22).2 r c = (s 22).2 r c) ∧ (∀ k, k < n → (lst mk s n 22).2 k 3 = -1 ∧ (¬ mb mk k = 0 → (lst mk s n 22).2 k 0 = nI (bcn mk k))) ∧ ∀ j, j ≠ 22 → lst mk s n j = s j := by
  induction n with
  | zero => exact ⟨hs, fun _ _ _ _ => rfl, fun k h => absurd h (Nat.not_lt_zero _), fun _ _ => rfl⟩
  | succ n ih =>
    obtain ⟨i1, i2, i3, i4⟩ := ih (by omega)
    obtain ⟨a1, a2, a3⟩ := ax22 (s := lst mk s n) (k := n) (x := -1) (by rw [i1]; omega) (by omega)
    rw [i1] at a1
    by_cases hb : mb mk n = 0
    · have e : lst mk s (n + 1) = ax 22 (lst mk s n) (nI n) 3 (-1) := if_pos hb
      rw [e]
      refine ⟨a1, fun r c h0 h3 => (a3 r c (fun z => h3 z.2)).trans (i2 r c h0 h3), fun k hk => ?_, fun j hj => (ax_ne hj).trans (i4 j hj)⟩
      by_cases ek : k = n
      · subst ek; exact ⟨a2, fun z => absurd hb z⟩
      · rw [a3 k 3 (fun z => ek z.1), a3 k 0 (fun z => ek z.1)]
        exact i3 k (by omega)
    · have e : lst mk s (n + 1) = ax 22 (ax 22 (lst mk s n) (nI n) 3 (-1)) (nI n) 0 (nI (bcn mk n)) := if_neg hb
      rw [e]
      have c1 : ∀ r c, ¬ (r = n ∧ c = 0) → (ax 22 (ax 22 (lst mk s n) (nI n) 3 (-1)) (nI n) 0 (nI (bcn mk n)) 22).2 r c = (ax 22 (lst mk s n) (nI n) 3 (-1) 22).2 r c := fun r c hz => ax_c (fun _ e2 e3 => hz ⟨e2.trans (nI_clamp (by omega)), e3⟩)
      refine ⟨by rw [ax_n]; exact a1, fun r c h0 h3 => ?_, fun k hk => ?_, fun j hj => by rw [ax_ne hj, ax_ne hj]; exact i4 j hj⟩
      · rw [c1 r c (fun z => h0 z.2), a3 r c (fun z => h3 z.2)]; exact i2 r c h0 h3
      · by_cases ek : k = n
        · subst ek
          exact ⟨(c1 _ 3 (fun z => absurd z.2 (by decide))).trans a2, fun _ => ax_hit (by rw [a1]; omega) (by decide) (by omega)⟩
        · rw [c1 k 3 (fun z => ek z.1), c1 k 0 (fun z => ek z.1), a3 k 3 (fun z => ek z.1), a3 k 0 (fun z => ek z.1)]
          exact i3 k (by omega)
theorem bcn_lt {a b : Nat} (h : a < b) (ha : ¬ mb mk a = 0) : bcn mk a < bcn mk b := by
  induction b with
  | zero => omega
  | succ b ih =>
    have e : bcn mk (b + 1) = bcn mk b + (if mb mk b = 0 then 0 else 1) := rfl
    by_cases hb : a = b
    · subst hb; rw [e, if_neg ha]; omega
    · have := ih (by omega); rw [e]; split <;> omega
/-- behind layOutSides no side has a mark -/
theorem sdx_lst (hN : N = 28) (hs : (U.1 22).1 = 28) (hm : ∀ k, k < 28 → ¬ mb mk k = 0 → k % 14 < P) (hV : V.1 22 = lst mk U.1 N 22) : sdx V W P (bcn mk N) f mk (bcn mk) := by
  subst hN
  generalize hg : (28 : Nat) = N at hs hm hV ⊢
  obtain ⟨l1, l2, l3, l4⟩ := lst_ok (mk := mk) (s := U.1) (n := N) (by omega) (by omega)
  unfold sdx
  rw [hV]
  refine ⟨by omega, fun k hk hb => ⟨hm k (by omega) hb, (l3 k (by omega)).2 hb, bcn_lt (by omega) hb, fun q hq hq2 => ?_⟩, fun k k' hk hk' hb hb' he => ?_⟩
  · rw [(l3 k (by omega)).1] at hq; exact absurd hq.symm (nI_neg1 hq2)
  · by_cases h1 : k < k'
    · have := bcn_lt h1 hb; omega
    · by_cases h2 : k' < k
      · have := bcn_lt h2 hb'; omega
      · omega
theorem sds_newx (h : sdx U W P S0 f mk sd) (hf : ∀ k, 1 ≤ f k) (ht : tqz mv f 28 ≤ 268435456) (hV : V.1 = wgs mv f U.1 28) (h8 : V.2.2.1 100 8 = U.2.2.1 100 8) (h98 : V.2.2.1 99 8 = U.2.2.1 99 8) : sds V W P S0 f mk sd (wqz mv f) := by
  obtain ⟨s1, s2, s4⟩ := h
  obtain ⟨w1, w2, w3, w4, w5⟩ := wgs_ok (mv := mv) (f := f) (n := 28) s1 (Nat.le_refl _)
  unfold sds fck
  rw [hV, h8, h98]
  refine ⟨w1, fun k hk hb => ?_, fun k hk => (w3 k hk (by omega)).1, s4⟩
  obtain ⟨y1, y2, y3, y4⟩ := s2 k hk hb
  refine ⟨y1, (w2 k 0 (by decide) (by decide)).trans y2, y3, fun q hq hq2 => ?_, by have := (wqz_b (mv := mv) hf hk).1; omega⟩
  have hwb := (wqz_b (mv := mv) hf hk).2
  rcases (w3 k hk (by omega)).2 with z | ⟨z1, z2⟩
  · rw [z] at hq; exact absurd hq.symm (nI_neg1 hq2)
  · rw [z1] at hq
    obtain ⟨w, v1, v2, v3, v4⟩ := y4 q hq hq2
    have e : w = wqz mv f k := (nI_eq v2 (by omega)).mp (v3.symm.trans z2)
    rw [← e]
    exact ⟨v1, v4⟩
theorem fl_z {v : Int32} {x' : Nat → Int32} {w sz fi : Nat} (hW : 1 ≤ W) (h22 : k < (U.1 22).1) (hk2 : k < 2147483648) (hv : ∀ j, j < W → v = x' j) : flq U (upT (upA (upA U 100 12 sl 0) 100 8 (sl * W) v) (ax 22 U.1 (nI k) 3 (-1))) W W k sl w sz fi x' := by
  obtain ⟨a1, a2, a3⟩ := ax22 (s := U.1) (x := -1) h22 hk2
  refine ⟨fun j hj => ?_, fun s j hs hj => ?_, ⟨a1, a3⟩, fun q hq hq2 => ?_, fun s j hs hj => ?_⟩
  · show (if (if sl = sl then (0 : Int32) else (U.2.2.1 100 12).2 sl) = 0 then (if sl * W = sl * W then v else (U.2.2.1 100 8).2 (sl * W)) else _) = _
    rw [if_pos (rfl : sl = sl), if_pos rfl, if_pos rfl]
    exact hv j hj
  · have n1 := slt_ne (s := s) (s0 := sl) (n := 1) hs hj hW
    have n2 := slt_ne (s := s) (s0 := sl) (k := 0) (n := 1) hs hW hW
    show (if (if s = sl then (0 : Int32) else (U.2.2.1 100 12).2 s) = 0 then (if s * W = sl * W then v else (U.2.2.1 100 8).2 (s * W)) else (if s * W + j = sl * W then v else (U.2.2.1 100 8).2 (s * W + j))) = cvl U W s j
    rw [if_neg hs, if_neg (show ¬ s * W = sl * W by omega), if_neg (show ¬ s * W + j = sl * W by omega)]
    rfl
  · exact absurd (hq.symm.trans a2) (nI_neg1 hq2)
  · have n1 := slt_ne (s := s) (s0 := sl) (n := 1) hs hj hW
    show (if s * W + j = sl * W then v else (U.2.2.1 100 8).2 (s * W + j)) = _
    rw [if_neg (by omega)]
theorem bgi_weigh (h : bgi U V W P S0 f mk sd nw k b) (hk : k < 28) (hV : V1.1 22 = wgh V.1 k (nw k) 22) (h8 : V1.2.2.1 100 8 = V.2.2.1 100 8) (h12 : V1.2.2.1 100 12 = V.2.2.1 100 12) (h98 : V1.2.2.1 99 8 = V.2.2.1 99 8) : bgi U V1 W P S0 f mk sd nw (k + 1) b := by
  obtain ⟨⟨s1, s2, s4⟩, h2, h3, h4, h5⟩ := h
  obtain ⟨w1, w2, w3, w4, w5⟩ := wgh_ok (w := nw k) s1 hk
  have ec : ∀ s j, cvl V1 W s j = cvl V W s j := fun s j => by unfold cvl; rw [h8, h12]
  unfold bgi sdx
  rw [hV, h8, h98]
  refine ⟨⟨w1, fun r hr hb => ?_, s4⟩, fun r c h1 h3 => (w2 r c (fun z => by rcases z.2 with y | y <;> omega)).trans (h2 r c h1 h3), fun q hq hq2 => ?_, fun q j h1 h2 h3 h4' => (ec _ _).trans (h4 q j h1 h2 h3 h4'), fun s j hs hj => (ec _ _).trans (h5 s j hs hj)⟩
  · obtain ⟨y1, y2, y3, y4⟩ := s2 r hr hb
    refine ⟨y1, (w2 r 0 (fun z => by rcases z.2 with y | y <;> omega)).trans y2, y3, fun q hq hq2 => ?_⟩
    by_cases er : r = k
    · subst er
      rcases w4 with z | ⟨z1, z2⟩
      · rw [z] at hq; exact absurd hq.symm (nI_neg1 hq2)
      · rw [z1] at hq
        obtain ⟨w, v1, v2, v3, v4⟩ := y4 q hq hq2
        exact ⟨w, v1, v2, w3.trans (z2.symm.trans v3), v4⟩
    · rw [w2 r 3 (fun z => er z.1)] at hq
      rw [w2 r 1 (fun z => er z.1)]
      exact y4 q hq hq2
  · by_cases er : q = k
    · subst er; exact w3
    · rw [w2 q 1 (fun z => er z.1)]; exact h3 q (by omega) hq2
theorem bgi_fill (h : bgi U V W P S0 f mk sd nw a k) (hk : k < 28) (hb : ¬ mb mk k = 0) (hq : flq V V1 W W k (sd k) 0 0 0 (fun _ => (V.1 22).2 k 2)) (h98 : V1.2.2.1 99 8 = V.2.2.1 99 8) : bgi U V1 W P S0 f mk sd nw a (k + 1) := by
  obtain ⟨⟨s1, s2, s4⟩, h2, h3, h4, h5⟩ := h
  obtain ⟨q1, q2, ⟨q3, q4⟩, q5, q6⟩ := hq
  refine ⟨⟨q3.trans s1, fun r hr hb' => ?_, s4⟩, fun r c h1 h3' => (q4 r c (fun z => h3' z.2)).trans (h2 r c h1 h3'), fun q hq hq2 => (q4 q 1 (fun z => absurd z.2 (by decide))).trans (h3 q hq hq2), fun q j h1 h2' h3' h4' => ?_, fun s j hs hj => (q2 s j (hs k hk hb) hj).trans (h5 s j hs hj)⟩
  · obtain ⟨y1, y2, y3, y4⟩ := s2 r hr hb'
    refine ⟨y1, (q4 r 0 (fun z => absurd z.2 (by decide))).trans y2, y3, fun q hq1 hq2 => ?_⟩
    by_cases er : r = k
    · subst er; exact absurd (q5 q hq1 hq2).1 (by decide)
    · rw [q4 r 3 (fun z => er z.1)] at hq1
      obtain ⟨w, v1, v2, v3, v4⟩ := y4 q hq1 hq2
      refine ⟨w, v1, v2, (q4 r 1 (fun z => absurd z.2 (by decide))).trans v3, fun j hj => ?_⟩
      rw [q6 (sd r) j (fun z => er (s4 r k hr hk hb' hb z)) hj, h98]
      exact v4 j hj
  · by_cases er : q = k
    · subst er; exact (q1 j h4').trans (h2 q 2 (by decide) (by decide))
    · rw [q2 (sd q) j (fun z => er (s4 q k (by omega) hk h3' hb z)) h4']
      exact h4 q j (by omega) h2' h3' h4'
theorem bgi_skip (h : bgi U V W P S0 f mk sd nw a k) (hb : k < 14 → mb mk k = 0) : bgi U V W P S0 f mk sd nw a (k + 1) :=
  ⟨h.1, h.2.1, h.2.2.1, fun q j h1 h2 h3 h4 => h.2.2.2.1 q j (by by_cases e : q = k; (subst e; exact absurd (hb h2) h3); omega) h2 h3 h4, h.2.2.2.2⟩
/-- the weights that beginList gives -/
theorem bgi_sds (hS : spx m U P f) (hf : ∀ k, k < P → f k ≤ 16384) (h : bgi U V W P S0 f mk sd (nwz U) 28 28) : ∃ wt : Nat → Nat, sds V W P S0 f mk sd wt ∧ (∀ k, k < 14 → wt k = 0) ∧ ∀ k, 14 ≤ k → k < 28 → k % 14 < P → wt k = pd f (k % 14 + 1) (P - 1 - k % 14) := by
  obtain ⟨-, hk5, -, ⟨gP, gpd, gsm⟩, -, -⟩ := hS
  obtain ⟨⟨s1, s2, s4⟩, h2, h3, h4, h5⟩ := h
  have hf1 := fun k hk => Nat.le_trans (show 1 ≤ 2 by decide) (hk5 k hk).2.2.2
  have hx : ∀ k : Nat, ∃ w : Nat, nwz U k = nI w ∧ (k < 14 → w = 0) ∧ (14 ≤ k → k < 28 → k % 14 < P → w = pd f (k % 14 + 1) (P - 1 - k % 14)) := by
    intro k
    unfold nwz
    by_cases hk : k < 14
    · rw [if_pos hk]; exact ⟨0, rfl, fun _ => rfl, fun z => by omega⟩
    · rw [if_neg hk]
      by_cases hp : k < 28 ∧ k % 14 < P
      · have e := (hk5 _ hp.2).2.2.1
        rw [show k % 14 = k - 14 by omega] at e ⊢
        exact ⟨_, e, fun z => absurd z hk, fun _ _ _ => rfl⟩
      · obtain ⟨w, hw⟩ := nI_all ((U.2.2.1 99 6).2 (k - 14))
        exact ⟨w, hw, fun z => absurd z hk, fun _ z1 z2 => absurd ⟨z1, z2⟩ hp⟩
  obtain ⟨wt, hwt⟩ := Classical.axiomOfChoice hx
  refine ⟨wt, ⟨s1, fun k hk hb => ?_, fun k hk => (h3 k hk hk).trans (hwt k).1, s4⟩, fun k hk => (hwt k).2.1 hk, fun k h1 h2 h3 => (hwt k).2.2 h1 h2 h3⟩
  obtain ⟨y1, y2, y3, y4⟩ := s2 k hk hb
  have hfk := hf _ y1
  have htl := pd_tail hf1 (k := k % 14 + 1) (by omega)
  rw [show P - (k % 14 + 1) = P - 1 - k % 14 by omega] at htl
  have hw : wt k ≤ 16384 := by
    by_cases h14 : k < 14
    · rw [(hwt k).2.1 h14]; omega
    · rw [(hwt k).2.2 (by omega) hk y1]; omega
  refine ⟨y1, y2, y3, fun q hq hq2 => ?_, Nat.le_trans (Nat.mul_le_mul hw hfk) (by decide)⟩
  obtain ⟨w, v1, v2, v3, v4⟩ := y4 q hq hq2
  have e : w = wt k := (nI_eq v2 (by omega)).mp (v3.symm.trans ((h3 k hk hk).trans (hwt k).1))
  rw [← e]
  exact ⟨v1, v4⟩
theorem tki_0 (h : sds U W P S0 f mk sd wt) : tki U U W l P S0 f mk sd wt ls 14 := ⟨h, fun _ _ _ => rfl, fun q j h1 h2 => by omega, fun _ _ _ _ => rfl⟩
theorem tki_skip (h : tki U V W l P S0 f mk sd wt ls k) (hb : mb mk k = 0) : tki U V W l P S0 f mk sd wt ls (k + 1) :=
  ⟨h.1, h.2.1, fun q j h1 h2 h3 h4 h5 => h.2.2.1 q j h1 (by by_cases e : q = k; (subst e; exact absurd hb h4); omega) h3 h4 h5, h.2.2.2⟩
theorem tki_step {x : Nat → Int32} (h : tki U V W l P S0 f mk sd wt ls k) (hl : l ≤ W) (h14 : 14 ≤ k) (hk : k < 28) (hb : ¬ mb mk k = 0) (hq : flq V V1 W l k (sd k) (wt k) (f (k % 14)) (sm f 0 (k % 14)) x) (hx : ∀ j, j < l → x j = (U.2.2.1 99 8).2 (sm f 0 (k % 14) + ls j / wt k % f (k % 14))) (h98 : V1.2.2.1 99 8 = V.2.2.1 99 8) : tki U V1 W l P S0 f mk sd wt ls (k + 1) := by
  obtain ⟨⟨s1, s2, s3, s4⟩, h2, h3, h4⟩ := h
  obtain ⟨q1, q2, ⟨q3, q4⟩, q5, q6⟩ := hq
  refine ⟨⟨q3.trans s1, fun r hr hb' => ?_, fun r hr => ?_, s4⟩, fun r c hc => (q4 r c (fun z => hc z.2)).trans (h2 r c hc), fun r j hr1 hr2 hr3 hb' hj => ?_, fun s j hs hj => ?_⟩
  · obtain ⟨y1, y2, y3, y4, y5⟩ := s2 r hr hb'
    refine ⟨y1, (q4 r 0 (fun z => absurd z.2 (by decide))).trans y2, y3, ?_, y5⟩
    by_cases e : r = k
    · rw [e]; exact q5
    · intro q hq1 hq2
      rw [q4 r 3 (fun z => e z.1)] at hq1
      obtain ⟨w1, w2⟩ := y4 q hq1 hq2
      refine ⟨w1, fun j hj => ?_⟩
      rw [q6 (sd r) j (fun z => e (s4 r k hr hk hb' hb z)) hj, h98]
      exact w2 j hj
  · rw [q4 r 1 (fun z => absurd z.2 (by decide))]; exact s3 r hr
  · by_cases e : r = k
    · rw [e, q1 j hj]; exact hx j hj
    · rw [q2 (sd r) j (fun z => e (s4 r k hr3 hk hb' hb z)) (by omega)]
      exact h3 r j hr1 (by omega) hr3 hb' hj
  · rw [q2 s j (hs k h14 hk hb) hj]
    exact h4 s j hs hj
/-- what pickOut leaves -/
theorem pk_flq {g : Nat → Int32} {w sz fi : Nat} (hlW : l ≤ W) (h1 : 1 ≤ l) (h22 : k < (U.1 22).1) (hk2 : k < 2147483648) : flq U (upT (upA (upF U 100 8 (sl * W) g l) 100 12 sl 1) (ax 22 U.1 (nI k) 3 (-1))) W l k sl w sz fi g := by
  obtain ⟨a1, a2, a3⟩ := ax22 (s := U.1) (x := -1) h22 hk2
  have c8 : ∀ s j, s ≠ sl → j < W → (if sl * W ≤ s * W + j ∧ s * W + j < sl * W + l then g (s * W + j - sl * W) else (U.2.2.1 100 8).2 (s * W + j)) = (U.2.2.1 100 8).2 (s * W + j) := fun s j hs hj => by
    have n1 := slt_ne (s := s) (s0 := sl) (n := l) hs hj hlW
    rw [if_neg (by omega)]
  refine ⟨fun j hj => ?_, fun s j hs hj => ?_, ⟨a1, a3⟩, fun q hq hq2 => ?_, fun s j hs hj => c8 s j hs hj⟩
  · show (if (if sl = sl then (1 : Int32) else (U.2.2.1 100 12).2 sl) = 0 then _ else (if sl * W ≤ sl * W + j ∧ sl * W + j < sl * W + l then g (sl * W + j - sl * W) else (U.2.2.1 100 8).2 (sl * W + j))) = _
    rw [if_pos (rfl : sl = sl), if_neg (by decide), if_pos ⟨by omega, by omega⟩, Nat.add_sub_cancel_left]
  · have c0 := c8 s 0 hs (by omega)
    rw [Nat.add_zero] at c0
    show (if (if s = sl then (1 : Int32) else (U.2.2.1 100 12).2 s) = 0 then (if sl * W ≤ s * W ∧ s * W < sl * W + l then g (s * W - sl * W) else (U.2.2.1 100 8).2 (s * W)) else (if sl * W ≤ s * W + j ∧ s * W + j < sl * W + l then g (s * W + j - sl * W) else (U.2.2.1 100 8).2 (s * W + j))) = cvl U W s j
    rw [if_neg hs, c0, c8 s j hs hj]
    rfl
  · exact absurd (hq.symm.trans a2) (nI_neg1 hq2)
/-- a rising list whose ends are near has no gaps -/
theorem run_list (hr : ∀ i j, i < j → j < n → ls i < ls j) (hl : l ≤ n) (h1 : 1 ≤ l) (he : ls (l - 1) - ls 0 = l - 1) : ∀ j, j < l → ls j = ls 0 + j := by
  have up : ∀ j, j < n → ls 0 + j ≤ ls j := by
    intro j
    induction j with
    | zero => intro _; omega
    | succ j ih => intro hj; have := ih (by omega); have := hr j (j + 1) (by omega) hj; omega
  have dn : ∀ i, i < l → ls (l - 1 - i) + i ≤ ls (l - 1) := by
    intro i
    induction i with
    | zero => intro _; exact Nat.le_refl _
    | succ i ih => intro hi; have := ih (by omega); have := hr (l - 1 - (i + 1)) (l - 1 - i) (by omega) (by omega); omega
  intro j hj
  have h1 := up j (by omega)
  have h2 := dn (l - 1 - j) (by omega)
  have h3 := up (l - 1) (by omega)
  rw [show l - 1 - (l - 1 - j) = j by omega] at h2
  omega
theorem mc_rewind2 {T0 : Nat} {St : Ts} (h : um m H) (e : ud m H = U) (hS : spx m U P f) (hW : U.2.1 100 17 = nI W) (hW1 : 1 ≤ W) (hW2 : W ≤ 1024) (hA8 : A * W ≤ (U.2.2.1 100 8).1) (c8 : (U.2.2.1 100 8).1 ≤ 16777216) (hA12 : A ≤ (U.2.2.1 100 12).1) (c12 : (U.2.2.1 100 12).1 ≤ 16777216) (hmk : U.2.1 100 4 = mk) (hsd : sdx U W P S0 f mk sd) (hSA : S0 ≤ A) (hT0 : T0 = tqz mv f 28) (hSt : St = wgs mv f U.1 28) (hf1 : ∀ k, 1 ≤ f k) (hmv : ∀ k, k < 28 → ¬ mb mv k = 0 → k % 14 < P) (htq : tqz mv f 28 ≤ 268435456) :
    mu_TI (mu_D (d + 5)) 207 [.inr (.inr (some 100)), .inl mv] H (fun x H1 => x = nI ((T0 + W - 1) / W) ∧ um m H1 ∧ ur m C H H1 ∧ uq F207 U (ud m H1) ∧ (ud m H1).2.1 100 18 = nI (min W (T0 - 0)) ∧ (ud m H1).2.1 100 21 = 1 ∧ (ud m H1).2.1 100 19 = 0 ∧ (ud m H1).2.1 100 20 = nI T0 ∧ sdi (upI (upI (upT U St) 100 20 (nI T0)) 100 19 0) (ud m H1) W (min W (T0 - 0)) P S0 f mk sd (wqz mv f) 0 (fun q => q < 28)) := by
  have hS0 := hS
  obtain ⟨⟨s4, s10, s11, s12⟩, hk5, ⟨g8, g8b, g18, g18b⟩, ⟨gP, gpd, gsm⟩, hsp, hmo⟩ := hS0
  have ht1 := tqz_1 (mv := mv) (n := 28) hf1
  have htq0 := htq
  rw [← hT0] at ht1 htq0
  refine mu_meth (M := mu_m207) rfl rfl ?_
  refine mw_ht (mu_fn_of (show [0, 1].Nodup by decide)) ?_
  refine rw_loop (d := d + 2) (C := C) h e hS hf1 hmv htq (fun Q uq0 rq0 dq => ?_)
  rw [← hSt, ← hT0] at dq
  refine mw_go mu_g207 (k := 3) (f1 := (83, [(0, .inr (.inr (some 100))), (1, .inl mv)], [], (mu_si Q 100 19 (0 : Int32)))) (C := [mu_is Q (some 100) 5]) rfl (show mu_is Q (some 100) 5 from (uq0.1.1.is rfl)) ?_
  obtain ⟨u1, r1, d1⟩ : um m (mu_si Q 100 19 (0 : Int32)) ∧ ur m C Q (mu_si Q 100 19 (0 : Int32)) ∧ ud m (mu_si Q 100 19 (0 : Int32)) = (upI (upI (upT U St) 100 20 (nI T0)) 100 19 (0 : Int32)) := uq0.sI (C := C) dq rfl
  generalize (mu_si Q 100 19 (0 : Int32)) = Q1 at u1 r1 d1 ⊢
  have ht1 : ur m C H Q1 := rq0.trans r1
  refine mw_go mu_g207 (k := 1) (f1 := (84, [(0, .inr (.inr (some 100))), (1, .inl mv)], [.inr (.inr (some 100))], Q1)) (C := []) rfl trivial ?_
  have hsd2 : sds (upI (upI (upT U St) 100 20 (nI T0)) 100 19 (0 : Int32)) W P S0 f mk sd (wqz mv f) := sds_newx hsd hf1 htq hSt rfl rfl
  have hq0 : uq F207 U (upI (upI (upT U St) 100 20 (nI T0)) 100 19 (0 : Int32)) := (((uq.refl F207 U).T (fun q hq => by rw [hSt]; exact (wgs_ok (mv := mv) (f := f) hsd.1 (Nat.le_refl 28)).2.2.2.2 q (in1_ne (j := 22) rfl hq))).I rfl).I rfl
  refine mw_cV (fun _ => rfl) (show mu_is Q1 (some 100) 5 from (u1.1.1.is rfl)) (mc_fillAll (d := d) (C := C) (at0 := 0) (tot := T0) (l := min W (T0 - 0)) (A := A) u1 d1 (spx_keep hS rfl rfl rfl rfl rfl rfl rfl rfl rfl rfl rfl) (show (upI (upI (upT U St) 100 20 (nI T0)) 100 19 (0 : Int32)).2.1 100 17 = nI W from hW) hW1 hW2 (by rw [(show ((upI (upI (upT U St) 100 20 (nI T0)) 100 19 (0 : Int32)).2.2.1 100 8).1 = (U.2.2.1 100 8).1 from rfl)]; exact hA8) (by rw [(show ((upI (upI (upT U St) 100 20 (nI T0)) 100 19 (0 : Int32)).2.2.1 100 8).1 = (U.2.2.1 100 8).1 from rfl)]; exact c8) (by rw [(show ((upI (upI (upT U St) 100 20 (nI T0)) 100 19 (0 : Int32)).2.2.1 100 12).1 = (U.2.2.1 100 12).1 from rfl)]; exact hA12) (by rw [(show ((upI (upI (upT U St) 100 20 (nI T0)) 100 19 (0 : Int32)).2.2.1 100 12).1 = (U.2.2.1 100 12).1 from rfl)]; exact c12) (show (upI (upI (upT U St) 100 20 (nI T0)) 100 19 (0 : Int32)).2.1 100 4 = mk from hmk) hsd2 hSA (show (upI (upI (upT U St) 100 20 (nI T0)) 100 19 (0 : Int32)).2.1 100 20 = nI T0 from rfl) (show (upI (upI (upT U St) 100 20 (nI T0)) 100 19 (0 : Int32)).2.1 100 19 = nI 0 from rfl) (by omega) (by omega) rfl) (fun Q2 q2 => ?_)
  obtain ⟨u2, r2, z2, l18, l21, hsi⟩ := q2
  have ht2 : ur m C H Q2 := ht1.trans r2
  obtain ⟨V2, d2⟩ : ∃ V, ud m Q2 = V := ⟨_, rfl⟩
  rw [d2] at z2 l18 l21 hsi
  refine mw_go mu_g207 (k := 2) (f1 := (91, [(0, .inr (.inr (some 100))), (1, .inl mv)], [.inl (mu_i Q2 100 20)], Q2)) (C := [mu_is Q2 (some 100) 5]) rfl (show mu_is Q2 (some 100) 5 from (u2.1.1.is rfl)) ?_
  rw [(show mu_i Q2 100 20 = (nI T0) from (ud_i (U := V2) (m := m) (P := 100) (j := 20) d2 rfl).trans (z2.i 100 20 rfl))]
  refine mw_go mu_g207 (k := 2) (f1 := (95, [(0, .inr (.inr (some 100))), (1, .inl mv)], [.inl (mu_i Q2 100 17), .inl (nI T0)], Q2)) (C := [mu_is Q2 (some 100) 5]) rfl (show mu_is Q2 (some 100) 5 from (u2.1.1.is rfl)) ?_
  rw [(show mu_i Q2 100 17 = (nI W) from (ud_i (U := V2) (m := m) (P := 100) (j := 17) d2 rfl).trans ((z2.i 100 17 rfl).trans hW))]
  refine mw_go mu_g207 (k := 1) (f1 := (96, [(0, .inr (.inr (some 100))), (1, .inl mv)], [.inl ((nI T0) + (nI W))], Q2)) (C := []) rfl trivial ?_
  rw [(show ((nI T0) + (nI W)) = (nI (T0 + W)) from (nI_add T0 W))]
  refine mw_go mu_g207 (k := 2) (f1 := (98, [(0, .inr (.inr (some 100))), (1, .inl mv)], [.inl ((nI (T0 + W)) - (1 : Int32))], Q2)) (C := []) rfl trivial ?_
  rw [(show ((nI (T0 + W)) - (1 : Int32)) = (nI ((T0 + W) - 1)) from (nI_sub (a := T0 + W) (b := 1) (by omega)))]
  refine mw_go mu_g207 (k := 2) (f1 := (102, [(0, .inr (.inr (some 100))), (1, .inl mv)], [.inl (mu_i Q2 100 17), .inl (nI ((T0 + W) - 1))], Q2)) (C := [mu_is Q2 (some 100) 5]) rfl (show mu_is Q2 (some 100) 5 from (u2.1.1.is rfl)) ?_
  rw [(show mu_i Q2 100 17 = (nI W) from (ud_i (U := V2) (m := m) (P := 100) (j := 17) d2 rfl).trans ((z2.i 100 17 rfl).trans hW))]
  refine mw_go mu_g207 (k := 1) (f1 := (103, [(0, .inr (.inr (some 100))), (1, .inl mv)], [.inl ((nI ((T0 + W) - 1)) / (nI W))], Q2)) (C := [¬ (nI W) = 0]) rfl (show ¬ (nI W) = 0 from (nI_ne0 (by omega) (by omega))) ?_
  rw [(show ((nI ((T0 + W) - 1)) / (nI W)) = (nI (((T0 + W) - 1) / W)) from (nI_div (a := (T0 + W) - 1) (b := W) (by omega) (by omega)))]
  exact mw_of (fun _ => mu_ret rfl trivial ⟨_, Q2, rfl, rfl, u2, ht2, (by rw [d2]; exact (hq0.tr z2 rfl)), (by rw [d2]; exact ⟨l18, l21, (z2.i 100 19 rfl), (z2.i 100 20 rfl), hsi⟩)⟩)
theorem mc_fillZ (h : um m H) (e : ud m H = U) (hS : spx m U P f) (hW : U.2.1 100 17 = nI W) (hW1 : 1 ≤ W) (hW2 : W ≤ 1024) (hA8 : A * W ≤ (U.2.2.1 100 8).1) (c8 : (U.2.2.1 100 8).1 ≤ 16777216) (hA12 : A ≤ (U.2.2.1 100 12).1) (c12 : (U.2.2.1 100 12).1 ≤ 16777216) (hk : k % 14 < P) (hk28 : k < 28) (hsl : (U.1 22).2 k 0 = nI sl) (hsA : sl < A) (hw : (U.1 22).2 k 1 = 0) : mu_TV (mu_D (d + 2)) 213 [.inr (.inr (some 100)), .inl (nI k)] H (fun H1 => um m H1 ∧ ur m C H H1 ∧ ud m H1 = upT (upA (upA U 100 12 sl 0) 100 8 (sl * W) ((U.1 22).2 k 2)) (ax 22 U.1 (nI k) 3 (-1))) := by
  obtain ⟨⟨s4, s10, s11, s12⟩, hk5, ⟨g8, g8b, g18, g18b⟩, ⟨gP, gpd, gsm⟩, hsp, hmo⟩ := hS
  have hf := fun k hk => Nat.le_trans (show 1 ≤ 2 by decide) (hk5 k hk).2.2.2
  have hfk := sm_lt hf hk
  have hf2 := (hk5 _ hk).2.2.2
  have hb := mul_in (W := W) hsA
  refine mu_meth (M := mu_m213) rfl rfl ?_
  refine mw_ht (mu_fn_of (show [0, 1].Nodup by decide)) ?_
  refine mw_go mu_g213 (k := 2) (f1 := (4, [(0, .inr (.inr (some 100))), (1, .inl (nI k))], [.inr (.inr (mu_r H 100 2))], H)) (C := [mu_is H (some 100) 5]) rfl (show mu_is H (some 100) 5 from (h.1.1.is rfl)) ?_
  rw [(h.1.1.r (p := 100) (j := 2) (q := 103) rfl)]
  refine mw_go mu_g213 (k := 2) (f1 := (6, [(0, .inr (.inr (some 100))), (1, .inl (nI k))], [.inl (0 : Int32), .inl (nI k), .inr (.inr (some 103))], H)) (C := []) rfl trivial ?_
  refine mw_cIe (fun _ => rfl) (show mu_is H (some 103) 10 from (h.1.1.is rfl)) (h.getr (d := d) e (j := 22) (by decide) rfl (nI k) (c := 0) (by decide)) ?_
  rw [show (tget (U.1 22) (nI k) 0) = (nI sl) from ((congrArg (fun z => tget z (nI k) 0) (show U.1 22 = (U.1 22) from rfl)).trans (tget_nI (by omega))).trans hsl]
  refine mw_go mu_g213 (k := 3) (f1 := (14, [(2, .inl (nI sl)), (0, .inr (.inr (some 100))), (1, .inl (nI k))], [.inr (.inr (mu_r H 100 2))], H)) (C := [mu_is H (some 100) 5]) rfl (show mu_is H (some 100) 5 from (h.1.1.is rfl)) ?_
  rw [(h.1.1.r (p := 100) (j := 2) (q := 103) rfl)]
  refine mw_go mu_g213 (k := 2) (f1 := (16, [(2, .inl (nI sl)), (0, .inr (.inr (some 100))), (1, .inl (nI k))], [.inl (1 : Int32), .inl (nI k), .inr (.inr (some 103))], H)) (C := []) rfl trivial ?_
  refine mw_cIe (fun _ => rfl) (show mu_is H (some 103) 10 from (h.1.1.is rfl)) (h.getr (d := d) e (j := 22) (by decide) rfl (nI k) (c := 1) (by decide)) ?_
  rw [show (tget (U.1 22) (nI k) 1) = (0 : Int32) from ((congrArg (fun z => tget z (nI k) 1) (show U.1 22 = (U.1 22) from rfl)).trans (tget_nI (by omega))).trans hw]
  refine mw_go mu_g213 (k := 3) (f1 := (24, [(3, .inl (0 : Int32)), (2, .inl (nI sl)), (0, .inr (.inr (some 100))), (1, .inl (nI k))], [.inr (.inr (mu_r H 100 0))], H)) (C := [mu_is H (some 100) 5]) rfl (show mu_is H (some 100) 5 from (h.1.1.is rfl)) ?_
  rw [(show mu_r H 100 0 = (some 99) from (ud_q (U := U) (m := m) (P := 100) (j := 0) e rfl).trans hsp)]
  refine mw_go mu_g213 (k := 1) (f1 := (27, [(3, .inl (0 : Int32)), (2, .inl (nI sl)), (0, .inr (.inr (some 100))), (1, .inl (nI k))], [.inr (.inr (mu_r H 99 5))], H)) (C := [mu_is H (some 99) 13]) rfl (show mu_is H (some 99) 13 from (h.1.1.is rfl)) ?_
  rw [(h.1.1.r (p := 99) (j := 5) (q := 120) rfl)]
  refine mw_go mu_g213 (k := 3) (f1 := (31, [(3, .inl (0 : Int32)), (2, .inl (nI sl)), (0, .inr (.inr (some 100))), (1, .inl (nI k))], [.inl ((nI k) - (nI k) / (14 : Int32) * (14 : Int32)), .inr (.inr (some 120))], H)) (C := [¬ (14 : Int32) = 0]) rfl (show ¬ (14 : Int32) = 0 from (by decide)) ?_
  rw [(show ((nI k) - (nI k) / (14 : Int32) * (14 : Int32)) = (nI (k % 14)) from (nI_mod (a := k) (b := 14) (by omega) (by omega)))]
  refine mw_go mu_g213 (k := 1) (f1 := (32, [(3, .inl (0 : Int32)), (2, .inl (nI sl)), (0, .inr (.inr (some 100))), (1, .inl (nI k))], [.inl (mu_i H 120 (nI (k % 14)).toNatClampNeg)], H)) (C := [mu_isr H (some 120) 100, vp_in (nI (k % 14)) (mu_n H 120)]) rfl (show (mu_isr H (some 120) 100) ∧ (vp_in (nI (k % 14)) (mu_n H 120)) from ⟨((h.iA e rfl rfl ((ud_q (m := m) (P := 99) (j := 5) e rfl).symm.trans (h.1.1.r (p := 99) (j := 5) (q := 120) rfl)))).r, (by rw [show mu_n H 120 = 14 from (h.1.1.a (p := 120) (x := (100, 14)) rfl).2]; exact vp_in_nI (n := k % 14) (by omega) (by decide))⟩) ?_
  rw [(show (mu_i H 120 (nI (k % 14)).toNatClampNeg) = (nI (f (k % 14))) from ((congrArg (mu_i H 120) (show (nI (k % 14)).toNatClampNeg = k % 14 from nI_clamp (by omega))).trans (h.gA e rfl rfl ((ud_q (m := m) (P := 99) (j := 5) e rfl).symm.trans (h.1.1.r (p := 99) (j := 5) (q := 120) rfl)))).trans ((congrArg (fun z => z.2 (k % 14)) (show U.2.2.1 99 5 = (U.2.2.1 99 5) from rfl)).trans (hk5 (k % 14) (by omega)).1))]
  refine mw_go mu_g213 (k := 3) (f1 := (38, [(4, .inl (nI (f (k % 14)))), (3, .inl (0 : Int32)), (2, .inl (nI sl)), (0, .inr (.inr (some 100))), (1, .inl (nI k))], [.inr (.inr (mu_r H 100 0))], H)) (C := [mu_is H (some 100) 5]) rfl (show mu_is H (some 100) 5 from (h.1.1.is rfl)) ?_
  rw [(show mu_r H 100 0 = (some 99) from (ud_q (U := U) (m := m) (P := 100) (j := 0) e rfl).trans hsp)]
  refine mw_go mu_g213 (k := 1) (f1 := (41, [(4, .inl (nI (f (k % 14)))), (3, .inl (0 : Int32)), (2, .inl (nI sl)), (0, .inr (.inr (some 100))), (1, .inl (nI k))], [.inr (.inr (mu_r H 99 7))], H)) (C := [mu_is H (some 99) 13]) rfl (show mu_is H (some 99) 13 from (h.1.1.is rfl)) ?_
  rw [(h.1.1.r (p := 99) (j := 7) (q := 122) rfl)]
  refine mw_go mu_g213 (k := 3) (f1 := (45, [(4, .inl (nI (f (k % 14)))), (3, .inl (0 : Int32)), (2, .inl (nI sl)), (0, .inr (.inr (some 100))), (1, .inl (nI k))], [.inl ((nI k) - (nI k) / (14 : Int32) * (14 : Int32)), .inr (.inr (some 122))], H)) (C := [¬ (14 : Int32) = 0]) rfl (show ¬ (14 : Int32) = 0 from (by decide)) ?_
  rw [(show ((nI k) - (nI k) / (14 : Int32) * (14 : Int32)) = (nI (k % 14)) from (nI_mod (a := k) (b := 14) (by omega) (by omega)))]
  refine mw_go mu_g213 (k := 1) (f1 := (46, [(4, .inl (nI (f (k % 14)))), (3, .inl (0 : Int32)), (2, .inl (nI sl)), (0, .inr (.inr (some 100))), (1, .inl (nI k))], [.inl (mu_i H 122 (nI (k % 14)).toNatClampNeg)], H)) (C := [mu_isr H (some 122) 100, vp_in (nI (k % 14)) (mu_n H 122)]) rfl (show (mu_isr H (some 122) 100) ∧ (vp_in (nI (k % 14)) (mu_n H 122)) from ⟨((h.iA e rfl rfl ((ud_q (m := m) (P := 99) (j := 7) e rfl).symm.trans (h.1.1.r (p := 99) (j := 7) (q := 122) rfl)))).r, (by rw [show mu_n H 122 = 14 from (h.1.1.a (p := 122) (x := (100, 14)) rfl).2]; exact vp_in_nI (n := k % 14) (by omega) (by decide))⟩) ?_
  rw [(show (mu_i H 122 (nI (k % 14)).toNatClampNeg) = (nI (sm f 0 (k % 14))) from ((congrArg (mu_i H 122) (show (nI (k % 14)).toNatClampNeg = k % 14 from nI_clamp (by omega))).trans (h.gA e rfl rfl ((ud_q (m := m) (P := 99) (j := 7) e rfl).symm.trans (h.1.1.r (p := 99) (j := 7) (q := 122) rfl)))).trans ((congrArg (fun z => z.2 (k % 14)) (show U.2.2.1 99 7 = (U.2.2.1 99 7) from rfl)).trans (hk5 (k % 14) (by omega)).2.1))]
  refine mw_go mu_g213 (k := 4) (f1 := (53, [(5, .inl (nI (sm f 0 (k % 14)))), (4, .inl (nI (f (k % 14)))), (3, .inl (0 : Int32)), (2, .inl (nI sl)), (0, .inr (.inr (some 100))), (1, .inl (nI k))], [.inl (mu_i H 100 17), .inl (nI sl)], H)) (C := [mu_is H (some 100) 5]) rfl (show mu_is H (some 100) 5 from (h.1.1.is rfl)) ?_
  rw [(show mu_i H 100 17 = (nI W) from (ud_i (U := U) (m := m) (P := 100) (j := 17) e rfl).trans hW)]
  refine mw_go mu_g213 (k := 1) (f1 := (54, [(5, .inl (nI (sm f 0 (k % 14)))), (4, .inl (nI (f (k % 14)))), (3, .inl (0 : Int32)), (2, .inl (nI sl)), (0, .inr (.inr (some 100))), (1, .inl (nI k))], [.inl ((nI sl) * (nI W))], H)) (C := []) rfl trivial ?_
  rw [(show ((nI sl) * (nI W)) = (nI (sl * W)) from (nI_mul (a := sl) (b := W)))]
  refine mw_go mu_g213 (k := 2) (f1 := (57, [(6, .inl (nI (sl * W))), (5, .inl (nI (sm f 0 (k % 14)))), (4, .inl (nI (f (k % 14)))), (3, .inl (0 : Int32)), (2, .inl (nI sl)), (0, .inr (.inr (some 100))), (1, .inl (nI k))], [.inl (0 : Int32)], H)) (C := []) rfl trivial ?_
  refine mw_if (P := (0 : Int32) = 0) (a := 60) (b := 67) (fun _ => rfl) trivial (fun h3 => ?_) (fun h3 => absurd (by decide) h3)
  refine mw_go mu_g213 (k := 2) (f1 := (64, [(6, .inl (nI (sl * W))), (5, .inl (nI (sm f 0 (k % 14)))), (4, .inl (nI (f (k % 14)))), (3, .inl (0 : Int32)), (2, .inl (nI sl)), (0, .inr (.inr (some 100))), (1, .inl (nI k))], [.inl (mu_i H 100 18)], H)) (C := [mu_is H (some 100) 5]) rfl (show mu_is H (some 100) 5 from (h.1.1.is rfl)) ?_
  rw [(show mu_i H 100 18 = (U.2.1 100 18) from (ud_i (U := U) (m := m) (P := 100) (j := 18) e rfl))]
  refine mw_go mu_g213 (k := 3) (f1 := (78, [(7, .inl (U.2.1 100 18)), (6, .inl (nI (sl * W))), (5, .inl (nI (sm f 0 (k % 14)))), (4, .inl (nI (f (k % 14)))), (3, .inl (0 : Int32)), (2, .inl (nI sl)), (0, .inr (.inr (some 100))), (1, .inl (nI k))], [.inl (0 : Int32)], H)) (C := []) rfl trivial ?_
  refine mw_if (P := (0 : Int32) = 0) (a := 81) (b := 85) (fun _ => rfl) trivial (fun h4 => ?_) (fun h4 => absurd (by decide) h4)
  refine mw_go mu_g213 (k := 5) (f1 := (100, [(8, .inl (0 : Int32)), (7, .inl (U.2.1 100 18)), (6, .inl (nI (sl * W))), (5, .inl (nI (sm f 0 (k % 14)))), (4, .inl (nI (f (k % 14)))), (3, .inl (0 : Int32)), (2, .inl (nI sl)), (0, .inr (.inr (some 100))), (1, .inl (nI k))], [.inr (.inr (mu_r H 100 12))], H)) (C := [mu_is H (some 100) 5]) rfl (show mu_is H (some 100) 5 from (h.1.1.is rfl)) ?_
  rw [(show mu_r H 100 12 = (U.2.2.2.1 100 12) from (ud_q (U := U) (m := m) (P := 100) (j := 12) e rfl))]
  refine mw_go mu_g213 (k := 4) (f1 := (107, [(8, .inl (0 : Int32)), (7, .inl (U.2.1 100 18)), (6, .inl (nI (sl * W))), (5, .inl (nI (sm f 0 (k % 14)))), (4, .inl (nI (f (k % 14)))), (3, .inl (0 : Int32)), (2, .inl (nI sl)), (0, .inr (.inr (some 100))), (1, .inl (nI k))], [.inl (mu_i H 100 18), .inl (U.2.1 100 18), .inl (nI sl), .inr (.inr (U.2.2.2.1 100 12))], H)) (C := [mu_is H (some 100) 5]) rfl (show mu_is H (some 100) 5 from (h.1.1.is rfl)) ?_
  rw [(show mu_i H 100 18 = (U.2.1 100 18) from (ud_i (U := U) (m := m) (P := 100) (j := 18) e rfl))]
  refine mw_if (P := (U.2.1 100 18) < (U.2.1 100 18)) (a := 114) (b := 110) (fun _ => rfl) trivial (fun h5 => absurd h5 Int32.lt_irrefl) (fun h5 => ?_)
  refine mw_go mu_g213 (k := 3) (f1 := (116, [(8, .inl (0 : Int32)), (7, .inl (U.2.1 100 18)), (6, .inl (nI (sl * W))), (5, .inl (nI (sm f 0 (k % 14)))), (4, .inl (nI (f (k % 14)))), (3, .inl (0 : Int32)), (2, .inl (nI sl)), (0, .inr (.inr (some 100))), (1, .inl (nI k))], [], (mu_si H (mu_p (U.2.2.2.1 100 12)) (nI sl).toNatClampNeg (0 : Int32)))) (C := [mu_is H (U.2.2.2.1 100 12) 100, vp_in (nI sl) (mu_n H (mu_p (U.2.2.2.1 100 12)))]) rfl (show (mu_is H (U.2.2.2.1 100 12) 100) ∧ (vp_in (nI sl) (mu_n H (mu_p (U.2.2.2.1 100 12)))) from ⟨(h.iA e rfl rfl (show U.2.2.2.1 100 12 = (U.2.2.2.1 100 12) from rfl)), (h.vA (i := sl) e rfl rfl (show U.2.2.2.1 100 12 = (U.2.2.2.1 100 12) from rfl) (show (U.2.2.1 100 12).1 = (U.2.2.1 100 12).1 from rfl) (by omega) (by omega))⟩) ?_
  rw [(show (nI sl).toNatClampNeg = sl from nI_clamp (by omega))]
  obtain ⟨u6, r6, d6⟩ : um m (mu_si H (mu_p (U.2.2.2.1 100 12)) sl (0 : Int32)) ∧ ur m C H (mu_si H (mu_p (U.2.2.2.1 100 12)) sl (0 : Int32)) ∧ ud m (mu_si H (mu_p (U.2.2.2.1 100 12)) sl (0 : Int32)) = (upA U 100 12 sl (0 : Int32)) := h.sA (C := C) e rfl rfl (show U.2.2.2.1 100 12 = (U.2.2.2.1 100 12) from rfl)
  generalize (mu_si H (mu_p (U.2.2.2.1 100 12)) sl (0 : Int32)) = Q6 at u6 r6 d6 ⊢
  have ht6 : ur m C H Q6 := (ur.refl m C H).trans r6
  refine mw_go mu_g213 (k := 3) (f1 := (122, [(8, .inl (0 : Int32)), (7, .inl (U.2.1 100 18)), (6, .inl (nI (sl * W))), (5, .inl (nI (sm f 0 (k % 14)))), (4, .inl (nI (f (k % 14)))), (3, .inl (0 : Int32)), (2, .inl (nI sl)), (0, .inr (.inr (some 100))), (1, .inl (nI k))], [.inl (mu_i Q6 100 18), .inl (U.2.1 100 18)], Q6)) (C := [mu_is Q6 (some 100) 5]) rfl (show mu_is Q6 (some 100) 5 from (u6.1.1.is rfl)) ?_
  rw [(show mu_i Q6 100 18 = (U.2.1 100 18) from (ud_i (U := (upA U 100 12 sl (0 : Int32))) (m := m) (P := 100) (j := 18) d6 rfl))]
  refine mw_if (P := (U.2.1 100 18) < (U.2.1 100 18)) (a := 172) (b := 125) (fun _ => rfl) trivial (fun h7 => absurd h7 Int32.lt_irrefl) (fun h7 => ?_)
  refine mw_go mu_g213 (k := 2) (f1 := (129, [(8, .inl (0 : Int32)), (7, .inl (U.2.1 100 18)), (6, .inl (nI (sl * W))), (5, .inl (nI (sm f 0 (k % 14)))), (4, .inl (nI (f (k % 14)))), (3, .inl (0 : Int32)), (2, .inl (nI sl)), (0, .inr (.inr (some 100))), (1, .inl (nI k))], [.inr (.inr (mu_r Q6 100 8))], Q6)) (C := [mu_is Q6 (some 100) 5]) rfl (show mu_is Q6 (some 100) 5 from (u6.1.1.is rfl)) ?_
  rw [(show mu_r Q6 100 8 = (U.2.2.2.1 100 8) from (ud_q (U := (upA U 100 12 sl (0 : Int32))) (m := m) (P := 100) (j := 8) d6 rfl))]
  refine mw_go mu_g213 (k := 2) (f1 := (132, [(8, .inl (0 : Int32)), (7, .inl (U.2.1 100 18)), (6, .inl (nI (sl * W))), (5, .inl (nI (sm f 0 (k % 14)))), (4, .inl (nI (f (k % 14)))), (3, .inl (0 : Int32)), (2, .inl (nI sl)), (0, .inr (.inr (some 100))), (1, .inl (nI k))], [.inl (0 : Int32), .inl (nI (sl * W)), .inr (.inr (U.2.2.2.1 100 8))], Q6)) (C := []) rfl trivial ?_
  refine mw_if (P := (0 : Int32) = 0) (a := 135) (b := 147) (fun _ => rfl) trivial (fun h8 => ?_) (fun h8 => absurd (by decide) h8)
  refine mw_go mu_g213 (k := 2) (f1 := (139, [(8, .inl (0 : Int32)), (7, .inl (U.2.1 100 18)), (6, .inl (nI (sl * W))), (5, .inl (nI (sm f 0 (k % 14)))), (4, .inl (nI (f (k % 14)))), (3, .inl (0 : Int32)), (2, .inl (nI sl)), (0, .inr (.inr (some 100))), (1, .inl (nI k))], [.inr (.inr (mu_r Q6 100 2)), .inl (nI (sl * W)), .inr (.inr (U.2.2.2.1 100 8))], Q6)) (C := [mu_is Q6 (some 100) 5]) rfl (show mu_is Q6 (some 100) 5 from (u6.1.1.is rfl)) ?_
  rw [(u6.1.1.r (p := 100) (j := 2) (q := 103) rfl)]
  refine mw_go mu_g213 (k := 2) (f1 := (141, [(8, .inl (0 : Int32)), (7, .inl (U.2.1 100 18)), (6, .inl (nI (sl * W))), (5, .inl (nI (sm f 0 (k % 14)))), (4, .inl (nI (f (k % 14)))), (3, .inl (0 : Int32)), (2, .inl (nI sl)), (0, .inr (.inr (some 100))), (1, .inl (nI k))], [.inl (2 : Int32), .inl (nI k), .inr (.inr (some 103)), .inl (nI (sl * W)), .inr (.inr (U.2.2.2.1 100 8))], Q6)) (C := []) rfl trivial ?_
  refine mw_cIe (fun _ => rfl) (show mu_is Q6 (some 103) 10 from (u6.1.1.is rfl)) (u6.getr (d := d) d6 (j := 22) (by decide) rfl (nI k) (c := 2) (by decide)) ?_
  rw [show (tget ((upA U 100 12 sl (0 : Int32)).1 22) (nI k) 2) = ((U.1 22).2 k 2) from (congrArg (fun z => tget z (nI k) 2) (show (upA U 100 12 sl (0 : Int32)).1 22 = (U.1 22) from rfl)).trans (tget_nI (by omega))]
  refine mw_go mu_g213 (k := 2) (f1 := (161, [(8, .inl (0 : Int32)), (7, .inl (U.2.1 100 18)), (6, .inl (nI (sl * W))), (5, .inl (nI (sm f 0 (k % 14)))), (4, .inl (nI (f (k % 14)))), (3, .inl (0 : Int32)), (2, .inl (nI sl)), (0, .inr (.inr (some 100))), (1, .inl (nI k))], [], (mu_si Q6 (mu_p (U.2.2.2.1 100 8)) (nI (sl * W)).toNatClampNeg ((U.1 22).2 k 2)))) (C := [mu_is Q6 (U.2.2.2.1 100 8) 100, vp_in (nI (sl * W)) (mu_n Q6 (mu_p (U.2.2.2.1 100 8)))]) rfl (show (mu_is Q6 (U.2.2.2.1 100 8) 100) ∧ (vp_in (nI (sl * W)) (mu_n Q6 (mu_p (U.2.2.2.1 100 8)))) from ⟨(u6.iA d6 rfl rfl (show (upA U 100 12 sl (0 : Int32)).2.2.2.1 100 8 = (U.2.2.2.1 100 8) from rfl)), (u6.vA (i := sl * W) d6 rfl rfl (show (upA U 100 12 sl (0 : Int32)).2.2.2.1 100 8 = (U.2.2.2.1 100 8) from rfl) (show ((upA U 100 12 sl (0 : Int32)).2.2.1 100 8).1 = (U.2.2.1 100 8).1 from rfl) (by omega) (by omega))⟩) ?_
  rw [(show (nI (sl * W)).toNatClampNeg = sl * W from nI_clamp (by omega))]
  obtain ⟨u10, r10, d10⟩ : um m (mu_si Q6 (mu_p (U.2.2.2.1 100 8)) (sl * W) ((U.1 22).2 k 2)) ∧ ur m C Q6 (mu_si Q6 (mu_p (U.2.2.2.1 100 8)) (sl * W) ((U.1 22).2 k 2)) ∧ ud m (mu_si Q6 (mu_p (U.2.2.2.1 100 8)) (sl * W) ((U.1 22).2 k 2)) = (upA (upA U 100 12 sl (0 : Int32)) 100 8 (sl * W) ((U.1 22).2 k 2)) := u6.sA (C := C) d6 rfl rfl (show (upA U 100 12 sl (0 : Int32)).2.2.2.1 100 8 = (U.2.2.2.1 100 8) from rfl)
  generalize (mu_si Q6 (mu_p (U.2.2.2.1 100 8)) (sl * W) ((U.1 22).2 k 2)) = Q10 at u10 r10 d10 ⊢
  have ht10 : ur m C H Q10 := ht6.trans r10
  refine mw_go mu_g213 (k := 2) (f1 := (165, [(8, .inl (0 : Int32)), (7, .inl (U.2.1 100 18)), (6, .inl (nI (sl * W))), (5, .inl (nI (sm f 0 (k % 14)))), (4, .inl (nI (f (k % 14)))), (3, .inl (0 : Int32)), (2, .inl (nI sl)), (0, .inr (.inr (some 100))), (1, .inl (nI k))], [.inr (.inr (mu_r Q10 100 2))], Q10)) (C := [mu_is Q10 (some 100) 5]) rfl (show mu_is Q10 (some 100) 5 from (u10.1.1.is rfl)) ?_
  rw [(u10.1.1.r (p := 100) (j := 2) (q := 103) rfl)]
  refine mw_go mu_g213 (k := 3) (f1 := (168, [(8, .inl (0 : Int32)), (7, .inl (U.2.1 100 18)), (6, .inl (nI (sl * W))), (5, .inl (nI (sm f 0 (k % 14)))), (4, .inl (nI (f (k % 14)))), (3, .inl (0 : Int32)), (2, .inl (nI sl)), (0, .inr (.inr (some 100))), (1, .inl (nI k))], [.inl (-1 : Int32), .inl (3 : Int32), .inl (nI k), .inr (.inr (some 103))], Q10)) (C := []) rfl trivial ?_
  refine mw_cV (fun _ => rfl) (show mu_is Q10 (some 103) 10 from (u10.1.1.is rfl)) (u10.setr (C := C) (d := d) d10 (j := 22) (Or.inr ⟨by decide, by decide⟩) rfl (nI k) (-1 : Int32) (c := 3) (by decide)) (fun Q11 q11 => ?_)
  obtain ⟨u11, r11, d11⟩ := q11
  have ht11 : ur m C H Q11 := ht10.trans r11
  exact mw_of (fun _ => mu_ret rfl trivial ⟨Q11, rfl, u11, ht11, d11⟩)
theorem wgh_ne {j : Nat} (h : j ≠ 22) : wgh s k w j = s j := by
  unfold wgh
  split
  · rfl
  · rw [ax_ne h, ax_ne h]
def F230a : Uf := ⟨[22], [], [(100, 8), (100, 12)], [], [], false⟩
/-- PathProver$Machine.beginList()V -/
abbrev mu_m230 : ev_M := (2, none, [], ev_b230)
theorem mu_g230 : mu_good mu_m230 := mu_goodk ev_k230
def F230 : Uf := ⟨[22], [(100, 21)], [(100, 8), (100, 12)], [], [], false⟩
theorem mc_beginList (h : um m H) (e : ud m H = U) (hS : spx m U P f) (hW : U.2.1 100 17 = nI W) (hW1 : 1 ≤ W) (hW2 : W ≤ 1024) (hA8 : A * W ≤ (U.2.2.1 100 8).1) (c8 : (U.2.2.1 100 8).1 ≤ 16777216) (hA12 : A ≤ (U.2.2.1 100 12).1) (c12 : (U.2.2.1 100 12).1 ≤ 16777216) (hmk : U.2.1 100 4 = mk) (hsd : sdx U W P S0 f mk sd) (hSA : S0 ≤ A) : mu_TV (mu_D (d + 4)) 230 [.inr (.inr (some 100))] H (fun H1 => um m H1 ∧ ur m C H H1 ∧ uq F230 U (ud m H1) ∧ (ud m H1).2.1 100 21 = 1 ∧ bgi U (ud m H1) W P S0 f mk sd (nwz U) 28 28) := by
  obtain ⟨⟨s4, s10, s11, s12⟩, hk5, ⟨g8, g8b, g18, g18b⟩, ⟨gP, gpd, gsm⟩, hsp, hmo⟩ := id hS
  refine mu_meth (M := mu_m230) rfl rfl ?_
  refine mw_ht (mu_fn_of (show [0].Nodup by decide)) ?_
  refine mw_go mu_g230 (k := 3) (f1 := (5, [(0, .inr (.inr (some 100)))], [], (mu_si H 100 21 (1 : Int32)))) (C := [mu_is H (some 100) 5, (1 : Int32) = 0 ∨ (1 : Int32) = 1]) rfl (show (mu_is H (some 100) 5) ∧ ((1 : Int32) = 0 ∨ (1 : Int32) = 1) from ⟨(h.1.1.is rfl), Or.inr rfl⟩) ?_
  obtain ⟨u1, r1, d1⟩ : um m (mu_si H 100 21 (1 : Int32)) ∧ ur m C H (mu_si H 100 21 (1 : Int32)) ∧ ud m (mu_si H 100 21 (1 : Int32)) = (upI U 100 21 (1 : Int32)) := h.sI (C := C) e rfl
  generalize (mu_si H 100 21 (1 : Int32)) = Q1 at u1 r1 d1 ⊢
  have qf1 : uq F230 U (upI U 100 21 (1 : Int32)) := (uq.refl F230 U).I rfl
  have ht1 : ur m C H Q1 := (ur.refl m C H).trans r1
  refine mw_go mu_g230 (k := 2) (f1 := (7, [(1, .inl (0 : Int32)), (0, .inr (.inr (some 100)))], [], Q1)) (C := []) rfl trivial ?_
  show mu_W _ _ (7, [(1, .inl (nI 0)), (0, .inr (.inr (some 100)))], [], Q1) _
  refine mw_sub (L' := [(1, .inl (nI 0)), (0, .inr (.inr (some 100)))]) (by simp) ?_
  refine mw_down (α := Nat × mu_H) (fun zs => (7, [(1, .inl (nI zs.1)), (0, .inr (.inr (some 100)))], [], zs.2)) (fun zs => 28 - zs.1) (fun zs => um m zs.2 ∧ ur m C H zs.2 ∧ (uq F230a (upI U 100 21 (1 : Int32)) (ud m zs.2)) ∧ (zs.1 ≤ 28) ∧ (bgi U (ud m zs.2) W P S0 f mk sd (nwz U) zs.1 zs.1)) (fun zs hza iha => ?_) (0, Q1) ⟨u1, ht1, (show uq F230a (upI U 100 21 (1 : Int32)) (ud m Q1) from by rw [d1]; exact uq.refl _ _), (show 0 ≤ 28 from (by omega)), (show bgi U (ud m Q1) W P S0 f mk sd (nwz U) 0 0 from by rw [d1]; exact ⟨hsd, fun _ _ _ _ => rfl, fun q hq => absurd hq (Nat.not_lt_zero _), fun q j hq => absurd hq (Nat.not_lt_zero _), fun _ _ _ _ => rfl⟩)⟩
  obtain ⟨k, Hsa⟩ := zs
  obtain ⟨ua, hta, da, hk, hi⟩ := hza
  have ua : um m Hsa := ua
  have hta : ur m C H Hsa := hta
  have zza : uq F230a (upI U 100 21 (1 : Int32)) (ud m Hsa) := da
  have hk : k ≤ 28 := hk
  have hi : bgi U (ud m Hsa) W P S0 f mk sd (nwz U) k k := hi
  obtain ⟨Va, da⟩ : ∃ V, ud m Hsa = V := ⟨_, rfl⟩
  rw [da] at zza hi
  have qfa : uq F230 U Va := qf1.tr zza rfl
  show mu_W _ _ (7, [(1, .inl (nI k)), (0, .inr (.inr (some 100)))], [], Hsa) _
  refine mw_go mu_g230 (k := 2) (f1 := (10, [(1, .inl (nI k)), (0, .inr (.inr (some 100)))], [.inl (28 : Int32), .inl (nI k)], Hsa)) (C := []) rfl trivial ?_
  refine mw_if (P := (nI k) < (28 : Int32)) (a := 13) (b := 68) (fun _ => rfl) trivial (fun h2 => ?_) (fun h2 => ?_)
  · -- 13: (nI k) < (28 : Int32)
    have nh2 : k < 28 := (nI_ltI (by omega) (by omega)).mp (show nI k < nI 28 from h2)
    refine mw_go mu_g230 (k := 4) (f1 := (18, [(1, .inl (nI k)), (0, .inr (.inr (some 100)))], [.inl (14 : Int32), .inl (nI k), .inl (nI k), .inr (.inr (some 100))], Hsa)) (C := []) rfl trivial ?_
    refine mw_if (P := (nI k) < (14 : Int32)) (a := 21) (b := 25) (fun _ => rfl) trivial (fun h3 => ?_) (fun h3 => ?_)
    · -- 21: (nI k) < (14 : Int32)
      have nh3 : k < 14 := (nI_ltI (by omega) (by omega)).mp (show nI k < nI 14 from h3)
      refine mw_go mu_g230 (k := 2) (f1 := (37, [(1, .inl (nI k)), (0, .inr (.inr (some 100)))], [.inl (0 : Int32), .inl (nI k), .inr (.inr (some 100))], Hsa)) (C := []) rfl trivial ?_
      refine mw_cV (fun _ => rfl) (show mu_is Hsa (some 100) 5 from (ua.1.1.is rfl)) (mc_weigh (d := (d + 1)) (C := C) (k := k) (w := (0 : Int32)) ua da (by omega)) (fun Q4 q4 => ?_)
      obtain ⟨u4, r4, d4⟩ := q4
      have ht4 : ur m C H Q4 := hta.trans r4
      have qf4 : uq F230 U (upT Va (wgh Va.1 k (0 : Int32))) := (qfa.T (fun q hq => (wgh_ne (in1_ne (j := 22) rfl hq))))
      have hi2 := bgi_weigh (V1 := (upT Va (wgh Va.1 k (0 : Int32)))) hi (by omega) (show wgh Va.1 k (0 : Int32) 22 = wgh Va.1 k (nwz U k) 22 by rw [show nwz U k = (0 : Int32) from if_pos nh3]) rfl rfl rfl
      refine mw_go mu_g230 (k := 2) (f1 := (43, [(1, .inl (nI k)), (0, .inr (.inr (some 100)))], [.inl (14 : Int32), .inl (nI k)], Q4)) (C := []) rfl trivial ?_
      refine mw_if (P := (nI k) < (14 : Int32)) (a := 46) (b := 62) (fun _ => rfl) trivial (fun _ => ?_) (fun h5 => absurd h3 h5)
      refine mw_go mu_g230 (k := 2) (f1 := (50, [(1, .inl (nI k)), (0, .inr (.inr (some 100)))], [.inl (mu_i Q4 100 4)], Q4)) (C := [mu_is Q4 (some 100) 5]) rfl (show mu_is Q4 (some 100) 5 from (u4.1.1.is rfl)) ?_
      rw [(show mu_i Q4 100 4 = mk from (ud_i (U := (upT Va (wgh Va.1 k (0 : Int32)))) (m := m) (P := 100) (j := 4) d4 rfl).trans ((zza.i 100 4 rfl).trans hmk))]
      refine mw_go mu_g230 (k := 4) (f1 := (54, [(1, .inl (nI k)), (0, .inr (.inr (some 100)))], [.inl (((mk.toUInt32 >>> ((nI k).toUInt32 &&& Int32.toUInt32 31)).toInt32) &&& (1 : Int32))], Q4)) (C := []) rfl trivial ?_
      refine mw_if (P := (((mk.toUInt32 >>> ((nI k).toUInt32 &&& Int32.toUInt32 31)).toInt32) &&& (1 : Int32)) = 0) (a := 62) (b := 57) (fun _ => rfl) trivial (fun h6 => ?_) (fun h6 => ?_)
      · -- 62: (((mk.toUInt32 >>> ((nI k).toUInt32 &&& Int32.toUInt32 31)).toInt32) &&& (1 : Int32)) = 0
        refine mw_go mu_g230 (k := 1) (f1 := (65, [(1, .inl ((nI k) + 1)), (0, .inr (.inr (some 100)))], [], Q4)) (C := []) rfl trivial ?_
        rw [(show ((nI k) + 1) = (nI (k + 1)) from (nI_add k 1))]
        refine mw_go mu_g230 (k := 1) (f1 := (7, [(1, .inl (nI (k + 1))), (0, .inr (.inr (some 100)))], [], Q4)) (C := []) rfl trivial ?_
        exact mw_sub (by simp) (iha (k + 1, Q4) ⟨u4, ht4, (show uq F230a (upI U 100 21 (1 : Int32)) (ud m Q4) from by rw [d4]; exact (zza.T (fun q hq => by first | exact ax_ne (in1_ne rfl hq) | exact ap_ne (in1_ne rfl hq) | exact fu_ne _ _ (in1_ne rfl hq) | exact wgh_ne (in1_ne (j := 22) rfl hq)))), (show (k + 1) ≤ 28 from (by omega)), (show bgi U (ud m Q4) W P S0 f mk sd (nwz U) (k + 1) (k + 1) from by rw [d4]; exact (bgi_skip hi2 (fun _ => h6)))⟩ (by show 28 - (k + 1) < 28 - k; omega))
      · -- 57: not (((mk.toUInt32 >>> ((nI k).toUInt32 &&& Int32.toUInt32 31)).toInt32) &&& (1 : Int32)) = 0
        refine mw_go mu_g230 (k := 2) (f1 := (59, [(1, .inl (nI k)), (0, .inr (.inr (some 100)))], [.inl (nI k), .inr (.inr (some 100))], Q4)) (C := []) rfl trivial ?_
        have hsk := hi2.1.2.1 k (by omega) (show ¬ mb mk k = 0 from h6)
        have hwk : ((upT Va (wgh Va.1 k (0 : Int32))).1 22).2 k 1 = 0 := (hi2.2.2.1 k (by omega) (by omega)).trans (if_pos (by omega))
        refine mw_cV (fun _ => rfl) (show mu_is Q4 (some 100) 5 from (u4.1.1.is rfl)) (mc_fillZ (d := (d + 1)) (C := C) (A := A) (sl := sd k) u4 d4 (spx_keep hS (zza.i 99 4 rfl) (zza.i 99 10 rfl) (zza.i 99 11 rfl) (zza.i 99 12 rfl) (zza.a 99 5 rfl) (zza.a 99 7 rfl) (zza.a 99 6 rfl) (zza.n 99 8 rfl) (zza.n 99 18 rfl) (((zza.r 100 0 rfl).trans hsp).trans hsp.symm) (zza.r 99 0 rfl)) (show (upT Va (wgh Va.1 k (0 : Int32))).2.1 100 17 = nI W from ((zza.i 100 17 rfl).trans hW)) hW1 hW2 (by rw [(show ((upT Va (wgh Va.1 k (0 : Int32))).2.2.1 100 8).1 = (U.2.2.1 100 8).1 from (zza.n 100 8 rfl))]; exact hA8) (by rw [(show ((upT Va (wgh Va.1 k (0 : Int32))).2.2.1 100 8).1 = (U.2.2.1 100 8).1 from (zza.n 100 8 rfl))]; exact c8) (by rw [(show ((upT Va (wgh Va.1 k (0 : Int32))).2.2.1 100 12).1 = (U.2.2.1 100 12).1 from (zza.n 100 12 rfl))]; exact hA12) (by rw [(show ((upT Va (wgh Va.1 k (0 : Int32))).2.2.1 100 12).1 = (U.2.2.1 100 12).1 from (zza.n 100 12 rfl))]; exact c12) hsk.1 (by omega) hsk.2.1 (Nat.lt_of_lt_of_le hsk.2.2.1 hSA) hwk) (fun Q7 q7 => ?_)
        obtain ⟨u7, r7, d7⟩ := q7
        have ht7 : ur m C H Q7 := ht4.trans r7
        have qf7 : uq F230 U (upT (upA (upA (upT Va (wgh Va.1 k (0 : Int32))) 100 12 (sd k) 0) 100 8 (sd k * W) (((upT Va (wgh Va.1 k (0 : Int32))).1 22).2 k 2)) (ax 22 (upT Va (wgh Va.1 k (0 : Int32))).1 (nI k) 3 (-1))) := (((qf4.A rfl).A rfl).ax rfl)
        have hi3 := bgi_fill (V1 := (upT (upA (upA (upT Va (wgh Va.1 k (0 : Int32))) 100 12 (sd k) 0) 100 8 (sd k * W) (((upT Va (wgh Va.1 k (0 : Int32))).1 22).2 k 2)) (ax 22 (upT Va (wgh Va.1 k (0 : Int32))).1 (nI k) 3 (-1)))) hi2 (by omega) (show ¬ mb mk k = 0 from h6) (fl_z hW1 (by rw [hi2.1.1]; omega) (by omega) (fun _ _ => rfl)) rfl
        refine mw_go mu_g230 (k := 1) (f1 := (65, [(1, .inl ((nI k) + 1)), (0, .inr (.inr (some 100)))], [], Q7)) (C := []) rfl trivial ?_
        rw [(show ((nI k) + 1) = (nI (k + 1)) from (nI_add k 1))]
        refine mw_go mu_g230 (k := 1) (f1 := (7, [(1, .inl (nI (k + 1))), (0, .inr (.inr (some 100)))], [], Q7)) (C := []) rfl trivial ?_
        exact mw_sub (by simp) (iha (k + 1, Q7) ⟨u7, ht7, (show uq F230a (upI U 100 21 (1 : Int32)) (ud m Q7) from by rw [d7]; exact ((((zza.T (fun q hq => by first | exact ax_ne (in1_ne rfl hq) | exact ap_ne (in1_ne rfl hq) | exact fu_ne _ _ (in1_ne rfl hq) | exact wgh_ne (in1_ne (j := 22) rfl hq))).A rfl).A rfl).T (fun q hq => by first | exact ax_ne (in1_ne rfl hq) | exact ap_ne (in1_ne rfl hq) | exact fu_ne _ _ (in1_ne rfl hq) | exact wgh_ne (in1_ne (j := 22) rfl hq)))), (show (k + 1) ≤ 28 from (by omega)), (show bgi U (ud m Q7) W P S0 f mk sd (nwz U) (k + 1) (k + 1) from by rw [d7]; exact hi3)⟩ (by show 28 - (k + 1) < 28 - k; omega))
    · -- 25: not (nI k) < (14 : Int32)
      have nh3 : ¬ k < 14 := fun z => h3 (show nI k < nI 14 from (nI_ltI (by omega) (by omega)).mpr z)
      refine mw_go mu_g230 (k := 2) (f1 := (29, [(1, .inl (nI k)), (0, .inr (.inr (some 100)))], [.inr (.inr (mu_r Hsa 100 0)), .inl (nI k), .inr (.inr (some 100))], Hsa)) (C := [mu_is Hsa (some 100) 5]) rfl (show mu_is Hsa (some 100) 5 from (ua.1.1.is rfl)) ?_
      rw [(show mu_r Hsa 100 0 = (some 99) from (ud_q (U := Va) (m := m) (P := 100) (j := 0) da rfl).trans ((zza.r 100 0 rfl).trans hsp))]
      refine mw_go mu_g230 (k := 1) (f1 := (32, [(1, .inl (nI k)), (0, .inr (.inr (some 100)))], [.inr (.inr (mu_r Hsa 99 6)), .inl (nI k), .inr (.inr (some 100))], Hsa)) (C := [mu_is Hsa (some 99) 13]) rfl (show mu_is Hsa (some 99) 13 from (ua.1.1.is rfl)) ?_
      rw [(ua.1.1.r (p := 99) (j := 6) (q := 121) rfl)]
      refine mw_go mu_g230 (k := 3) (f1 := (36, [(1, .inl (nI k)), (0, .inr (.inr (some 100)))], [.inl ((nI k) - (14 : Int32)), .inr (.inr (some 121)), .inl (nI k), .inr (.inr (some 100))], Hsa)) (C := []) rfl trivial ?_
      rw [(show ((nI k) - (14 : Int32)) = (nI (k - 14)) from (nI_sub (a := k) (b := 14) (by omega)))]
      refine mw_go mu_g230 (k := 1) (f1 := (37, [(1, .inl (nI k)), (0, .inr (.inr (some 100)))], [.inl (mu_i Hsa 121 (nI (k - 14)).toNatClampNeg), .inl (nI k), .inr (.inr (some 100))], Hsa)) (C := [mu_isr Hsa (some 121) 100, vp_in (nI (k - 14)) (mu_n Hsa 121)]) rfl (show (mu_isr Hsa (some 121) 100) ∧ (vp_in (nI (k - 14)) (mu_n Hsa 121)) from ⟨((ua.iA da rfl rfl ((ud_q (m := m) (P := 99) (j := 6) da rfl).symm.trans (ua.1.1.r (p := 99) (j := 6) (q := 121) rfl)))).r, (by rw [show mu_n Hsa 121 = 14 from (ua.1.1.a (p := 121) (x := (100, 14)) rfl).2]; exact vp_in_nI (n := k - 14) (by omega) (by decide))⟩) ?_
      rw [(show (mu_i Hsa 121 (nI (k - 14)).toNatClampNeg) = ((U.2.2.1 99 6).2 (k - 14)) from ((congrArg (mu_i Hsa 121) (show (nI (k - 14)).toNatClampNeg = k - 14 from nI_clamp (by omega))).trans (ua.gA da rfl rfl ((ud_q (m := m) (P := 99) (j := 6) da rfl).symm.trans (ua.1.1.r (p := 99) (j := 6) (q := 121) rfl)))).trans ((congrArg (fun z => z.2 (k - 14)) (show Va.2.2.1 99 6 = (U.2.2.1 99 6) from (zza.a 99 6 rfl))).trans rfl))]
      refine mw_cV (fun _ => rfl) (show mu_is Hsa (some 100) 5 from (ua.1.1.is rfl)) (mc_weigh (d := (d + 1)) (C := C) (k := k) (w := ((U.2.2.1 99 6).2 (k - 14))) ua da (by omega)) (fun Q8 q8 => ?_)
      obtain ⟨u8, r8, d8⟩ := q8
      have ht8 : ur m C H Q8 := hta.trans r8
      have qf8 : uq F230 U (upT Va (wgh Va.1 k ((U.2.2.1 99 6).2 (k - 14)))) := (qfa.T (fun q hq => (wgh_ne (in1_ne (j := 22) rfl hq))))
      have hi2 := bgi_weigh (V1 := (upT Va (wgh Va.1 k ((U.2.2.1 99 6).2 (k - 14))))) hi (by omega) (show wgh Va.1 k ((U.2.2.1 99 6).2 (k - 14)) 22 = wgh Va.1 k (nwz U k) 22 by rw [show nwz U k = ((U.2.2.1 99 6).2 (k - 14)) from if_neg nh3]) rfl rfl rfl
      refine mw_go mu_g230 (k := 2) (f1 := (43, [(1, .inl (nI k)), (0, .inr (.inr (some 100)))], [.inl (14 : Int32), .inl (nI k)], Q8)) (C := []) rfl trivial ?_
      refine mw_if (P := (nI k) < (14 : Int32)) (a := 46) (b := 62) (fun _ => rfl) trivial (fun h9 => absurd h9 h3) (fun _ => ?_)
      refine mw_go mu_g230 (k := 1) (f1 := (65, [(1, .inl ((nI k) + 1)), (0, .inr (.inr (some 100)))], [], Q8)) (C := []) rfl trivial ?_
      rw [(show ((nI k) + 1) = (nI (k + 1)) from (nI_add k 1))]
      refine mw_go mu_g230 (k := 1) (f1 := (7, [(1, .inl (nI (k + 1))), (0, .inr (.inr (some 100)))], [], Q8)) (C := []) rfl trivial ?_
      exact mw_sub (by simp) (iha (k + 1, Q8) ⟨u8, ht8, (show uq F230a (upI U 100 21 (1 : Int32)) (ud m Q8) from by rw [d8]; exact (zza.T (fun q hq => by first | exact ax_ne (in1_ne rfl hq) | exact ap_ne (in1_ne rfl hq) | exact fu_ne _ _ (in1_ne rfl hq) | exact wgh_ne (in1_ne (j := 22) rfl hq)))), (show (k + 1) ≤ 28 from (by omega)), (show bgi U (ud m Q8) W P S0 f mk sd (nwz U) (k + 1) (k + 1) from by rw [d8]; exact (bgi_skip hi2 (fun z => absurd z nh3)))⟩ (by show 28 - (k + 1) < 28 - k; omega))
  · -- 68: not (nI k) < (28 : Int32)
    have nh2 : ¬ k < 28 := fun z => h2 (show nI k < nI 28 from (nI_ltI (by omega) (by omega)).mpr z)
    exact mw_of (fun _ => mu_ret rfl trivial ⟨Hsa, rfl, ua, hta, (by rw [da]; exact qfa), (by rw [da]; exact ⟨(zza.i 100 21 rfl), (by rw [show k = 28 by omega] at hi; exact hi)⟩)⟩)
theorem tki_e {U1 : Ud} (h22 : V.1 22 = U1.1 22) (h8 : V.2.2.1 100 8 = U1.2.2.1 100 8) (h12 : V.2.2.1 100 12 = U1.2.2.1 100 12) (h98 : V.2.2.1 99 8 = U1.2.2.1 99 8) (h : tki U U1 W l P S0 f mk sd wt ls k) : tki U V W l P S0 f mk sd wt ls k := by
  unfold tki sds fck cvl at *
  rw [h22, h8, h12, h98]
  exact h
def F231a : Uf := ⟨[22], [], [(100, 8), (100, 12)], [], [], false⟩
/-- PathProver$Machine.takeList([III)I -/
abbrev mu_m231 : ev_M := (6, (some .int), [], ev_b231)
theorem mu_g231 : mu_good mu_m231 := mu_goodk ev_k231
def F231 : Uf := ⟨[22], [(100, 18), (100, 19)], [(100, 8), (100, 12)], [], [], false⟩
theorem mc_takeList (h : um m H) (e : ud m H = U) (hS : spx m U P f) (hW : U.2.1 100 17 = nI W) (hW1 : 1 ≤ W) (hW2 : W ≤ 1024) (hA8 : A * W ≤ (U.2.2.1 100 8).1) (c8 : (U.2.2.1 100 8).1 ≤ 16777216) (hA12 : A ≤ (U.2.2.1 100 12).1) (c12 : (U.2.2.1 100 12).1 ≤ 16777216) (hmk : U.2.1 100 4 = mk) (hsd : sds U W P S0 f mk sd wt) (hSA : S0 ≤ A) (hls : ∀ i, i < n → (U.2.2.1 129 10).2 (st + i) = nI (ls i) ∧ ls i < 16384) (hri : ∀ i j, i < j → j < n → ls i < ls j) (hn1 : 1 ≤ n) (hst : st + n ≤ (U.2.2.1 129 10).1) (hln : (U.2.2.1 129 10).1 ≤ 16777216) (hl : l = min W n) (hwn : ∀ k, 14 ≤ k → k < 28 → ¬ mb mk k = 0 → wt k = pd f (k % 14 + 1) (P - 1 - k % 14)) : mu_TI (mu_D (d + 5)) 231 [.inr (.inr (some 100)), .inr (.inr (U.2.2.2.1 129 10)), .inl (nI st), .inl (nI n)] H (fun x H1 => x = nI l ∧ um m H1 ∧ ur m C H H1 ∧ uq F231 U (ud m H1) ∧ (ud m H1).2.1 100 18 = nI l ∧ tki U (ud m H1) W l P S0 f mk sd wt ls 28) := by
  obtain ⟨⟨s4, s10, s11, s12⟩, hk5, ⟨g8, g8b, g18, g18b⟩, ⟨gP, gpd, gsm⟩, hsp, hmo⟩ := id hS
  have hf := fun k hk => Nat.le_trans (show 1 ≤ 2 by decide) (hk5 k hk).2.2.2
  have hl1 : 1 ≤ l := by omega
  have hlW : l ≤ W := by omega
  have hm0 : ls 0 ≤ ls (l - 1) := by
    by_cases e : l = 1
    · rw [e]; exact Nat.le_refl _
    · exact Nat.le_of_lt (hri 0 (l - 1) (by omega) (by omega))
  have hb0 := (hls 0 (by omega)).2
  have hb1 := (hls (l - 1) (by omega)).2
  refine mu_meth (M := mu_m231) rfl rfl ?_
  refine mw_ht (mu_fn_of (show [0, 1, 2, 3].Nodup by decide)) ?_
  refine mw_go mu_g231 (k := 3) (f1 := (5, [(0, .inr (.inr (some 100))), (1, .inr (.inr (U.2.2.2.1 129 10))), (2, .inl (nI st)), (3, .inl (nI n))], [.inl (mu_i H 100 17), .inr (.inr (some 100))], H)) (C := [mu_is H (some 100) 5]) rfl (show mu_is H (some 100) 5 from (h.1.1.is rfl)) ?_
  rw [(show mu_i H 100 17 = (nI W) from (ud_i (U := U) (m := m) (P := 100) (j := 17) e rfl).trans hW)]
  refine mw_go mu_g231 (k := 1) (f1 := (6, [(0, .inr (.inr (some 100))), (1, .inr (.inr (U.2.2.2.1 129 10))), (2, .inl (nI st)), (3, .inl (nI n))], [.inl (nI n), .inl (nI W), .inr (.inr (some 100))], H)) (C := []) rfl trivial ?_
  refine mw_cIe (fun _ => rfl) trivial (mu_min_ok (d := (d + 3)) (nI W) (nI n)) ?_
  rw [show (mu_min (nI W) (nI n)) = nI (min W n) from mu_min_n (a := W) (b := n) (by omega) (by omega)]
  rw [show min W n = l from hl.symm]
  refine mw_go mu_g231 (k := 1) (f1 := (12, [(0, .inr (.inr (some 100))), (1, .inr (.inr (U.2.2.2.1 129 10))), (2, .inl (nI st)), (3, .inl (nI n))], [], (mu_si H 100 18 (nI l)))) (C := [mu_is H (some 100) 5]) rfl (show mu_is H (some 100) 5 from (h.1.1.is rfl)) ?_
  obtain ⟨u2, r2, d2⟩ : um m (mu_si H 100 18 (nI l)) ∧ ur m C H (mu_si H 100 18 (nI l)) ∧ ud m (mu_si H 100 18 (nI l)) = (upI U 100 18 (nI l)) := h.sI (C := C) e rfl
  generalize (mu_si H 100 18 (nI l)) = Q2 at u2 r2 d2 ⊢
  have qf2 : uq F231 U (upI U 100 18 (nI l)) := (uq.refl F231 U).I rfl
  have ht2 : ur m C H Q2 := (ur.refl m C H).trans r2
  refine mw_go mu_g231 (k := 4) (f1 := (16, [(0, .inr (.inr (some 100))), (1, .inr (.inr (U.2.2.2.1 129 10))), (2, .inl (nI st)), (3, .inl (nI n))], [.inl (mu_i Q2 (mu_p (U.2.2.2.1 129 10)) (nI st).toNatClampNeg), .inr (.inr (some 100))], Q2)) (C := [mu_isr Q2 (U.2.2.2.1 129 10) 100, vp_in (nI st) (mu_n Q2 (mu_p (U.2.2.2.1 129 10)))]) rfl (show (mu_isr Q2 (U.2.2.2.1 129 10) 100) ∧ (vp_in (nI st) (mu_n Q2 (mu_p (U.2.2.2.1 129 10)))) from ⟨((u2.iA d2 rfl rfl (show (upI U 100 18 (nI l)).2.2.2.1 129 10 = (U.2.2.2.1 129 10) from rfl))).r, (u2.vA (i := st) d2 rfl rfl (show (upI U 100 18 (nI l)).2.2.2.1 129 10 = (U.2.2.2.1 129 10) from rfl) (show ((upI U 100 18 (nI l)).2.2.1 129 10).1 = (U.2.2.1 129 10).1 from rfl) (by omega) (by omega))⟩) ?_
  rw [(show (mu_i Q2 (mu_p (U.2.2.2.1 129 10)) (nI st).toNatClampNeg) = (nI (ls 0)) from ((congrArg (mu_i Q2 (mu_p (U.2.2.2.1 129 10))) (show (nI st).toNatClampNeg = st from nI_clamp (by omega))).trans (u2.gA d2 rfl rfl (show (upI U 100 18 (nI l)).2.2.2.1 129 10 = (U.2.2.2.1 129 10) from rfl))).trans ((congrArg (fun z => z.2 st) (show (upI U 100 18 (nI l)).2.2.1 129 10 = (U.2.2.1 129 10) from rfl)).trans (hls 0 (by omega)).1))]
  refine mw_go mu_g231 (k := 1) (f1 := (19, [(0, .inr (.inr (some 100))), (1, .inr (.inr (U.2.2.2.1 129 10))), (2, .inl (nI st)), (3, .inl (nI n))], [], (mu_si Q2 100 19 (nI (ls 0))))) (C := [mu_is Q2 (some 100) 5]) rfl (show mu_is Q2 (some 100) 5 from (u2.1.1.is rfl)) ?_
  obtain ⟨u3, r3, d3⟩ : um m (mu_si Q2 100 19 (nI (ls 0))) ∧ ur m C Q2 (mu_si Q2 100 19 (nI (ls 0))) ∧ ud m (mu_si Q2 100 19 (nI (ls 0))) = (upI (upI U 100 18 (nI l)) 100 19 (nI (ls 0))) := u2.sI (C := C) d2 rfl
  generalize (mu_si Q2 100 19 (nI (ls 0))) = Q3 at u3 r3 d3 ⊢
  have qf3 : uq F231 U (upI (upI U 100 18 (nI l)) 100 19 (nI (ls 0))) := qf2.I rfl
  have ht3 : ur m C H Q3 := ht2.trans r3
  refine mw_go mu_g231 (k := 4) (f1 := (25, [(0, .inr (.inr (some 100))), (1, .inr (.inr (U.2.2.2.1 129 10))), (2, .inl (nI st)), (3, .inl (nI n))], [.inl (mu_i Q3 100 18), .inl (nI st), .inr (.inr (U.2.2.2.1 129 10))], Q3)) (C := [mu_is Q3 (some 100) 5]) rfl (show mu_is Q3 (some 100) 5 from (u3.1.1.is rfl)) ?_
  rw [(show mu_i Q3 100 18 = (nI l) from (ud_i (U := (upI (upI U 100 18 (nI l)) 100 19 (nI (ls 0)))) (m := m) (P := 100) (j := 18) d3 rfl))]
  refine mw_go mu_g231 (k := 1) (f1 := (26, [(0, .inr (.inr (some 100))), (1, .inr (.inr (U.2.2.2.1 129 10))), (2, .inl (nI st)), (3, .inl (nI n))], [.inl ((nI st) + (nI l)), .inr (.inr (U.2.2.2.1 129 10))], Q3)) (C := []) rfl trivial ?_
  rw [(show ((nI st) + (nI l)) = (nI (st + l)) from (nI_add st l))]
  refine mw_go mu_g231 (k := 2) (f1 := (28, [(0, .inr (.inr (some 100))), (1, .inr (.inr (U.2.2.2.1 129 10))), (2, .inl (nI st)), (3, .inl (nI n))], [.inl ((nI (st + l)) - (1 : Int32)), .inr (.inr (U.2.2.2.1 129 10))], Q3)) (C := []) rfl trivial ?_
  rw [(show ((nI (st + l)) - (1 : Int32)) = (nI ((st + l) - 1)) from (nI_sub (a := st + l) (b := 1) (by omega)))]
  refine mw_go mu_g231 (k := 1) (f1 := (29, [(0, .inr (.inr (some 100))), (1, .inr (.inr (U.2.2.2.1 129 10))), (2, .inl (nI st)), (3, .inl (nI n))], [.inl (mu_i Q3 (mu_p (U.2.2.2.1 129 10)) (nI ((st + l) - 1)).toNatClampNeg)], Q3)) (C := [mu_isr Q3 (U.2.2.2.1 129 10) 100, vp_in (nI ((st + l) - 1)) (mu_n Q3 (mu_p (U.2.2.2.1 129 10)))]) rfl (show (mu_isr Q3 (U.2.2.2.1 129 10) 100) ∧ (vp_in (nI ((st + l) - 1)) (mu_n Q3 (mu_p (U.2.2.2.1 129 10)))) from ⟨((u3.iA d3 rfl rfl (show (upI (upI U 100 18 (nI l)) 100 19 (nI (ls 0))).2.2.2.1 129 10 = (U.2.2.2.1 129 10) from rfl))).r, (u3.vA (i := (st + l) - 1) d3 rfl rfl (show (upI (upI U 100 18 (nI l)) 100 19 (nI (ls 0))).2.2.2.1 129 10 = (U.2.2.2.1 129 10) from rfl) (show ((upI (upI U 100 18 (nI l)) 100 19 (nI (ls 0))).2.2.1 129 10).1 = (U.2.2.1 129 10).1 from rfl) (by omega) (by omega))⟩) ?_
  rw [(show (mu_i Q3 (mu_p (U.2.2.2.1 129 10)) (nI ((st + l) - 1)).toNatClampNeg) = (nI (ls (l - 1))) from ((congrArg (mu_i Q3 (mu_p (U.2.2.2.1 129 10))) (show (nI ((st + l) - 1)).toNatClampNeg = (st + l) - 1 from nI_clamp (by omega))).trans (u3.gA d3 rfl rfl (show (upI (upI U 100 18 (nI l)) 100 19 (nI (ls 0))).2.2.2.1 129 10 = (U.2.2.2.1 129 10) from rfl))).trans ((congrArg (fun z => z.2 ((st + l) - 1)) (show (upI (upI U 100 18 (nI l)) 100 19 (nI (ls 0))).2.2.1 129 10 = (U.2.2.1 129 10) from rfl)).trans (by have z := (hls (l - 1) (by omega)).1; rw [show st + (l - 1) = st + l - 1 by omega] at z; exact z)))]
  refine mw_go mu_g231 (k := 2) (f1 := (33, [(0, .inr (.inr (some 100))), (1, .inr (.inr (U.2.2.2.1 129 10))), (2, .inl (nI st)), (3, .inl (nI n))], [.inl (mu_i Q3 100 19), .inl (nI (ls (l - 1)))], Q3)) (C := [mu_is Q3 (some 100) 5]) rfl (show mu_is Q3 (some 100) 5 from (u3.1.1.is rfl)) ?_
  rw [(show mu_i Q3 100 19 = (nI (ls 0)) from (ud_i (U := (upI (upI U 100 18 (nI l)) 100 19 (nI (ls 0)))) (m := m) (P := 100) (j := 19) d3 rfl))]
  refine mw_go mu_g231 (k := 1) (f1 := (34, [(0, .inr (.inr (some 100))), (1, .inr (.inr (U.2.2.2.1 129 10))), (2, .inl (nI st)), (3, .inl (nI n))], [.inl ((nI (ls (l - 1))) - (nI (ls 0)))], Q3)) (C := []) rfl trivial ?_
  rw [(show ((nI (ls (l - 1))) - (nI (ls 0))) = (nI ((ls (l - 1)) - (ls 0))) from (nI_sub (a := ls (l - 1)) (b := ls 0) (by omega)))]
  refine mw_go mu_g231 (k := 2) (f1 := (38, [(0, .inr (.inr (some 100))), (1, .inr (.inr (U.2.2.2.1 129 10))), (2, .inl (nI st)), (3, .inl (nI n))], [.inl (mu_i Q3 100 18), .inl (nI ((ls (l - 1)) - (ls 0)))], Q3)) (C := [mu_is Q3 (some 100) 5]) rfl (show mu_is Q3 (some 100) 5 from (u3.1.1.is rfl)) ?_
  rw [(show mu_i Q3 100 18 = (nI l) from (ud_i (U := (upI (upI U 100 18 (nI l)) 100 19 (nI (ls 0)))) (m := m) (P := 100) (j := 18) d3 rfl))]
  refine mw_go mu_g231 (k := 2) (f1 := (40, [(0, .inr (.inr (some 100))), (1, .inr (.inr (U.2.2.2.1 129 10))), (2, .inl (nI st)), (3, .inl (nI n))], [.inl ((nI l) - (1 : Int32)), .inl (nI ((ls (l - 1)) - (ls 0)))], Q3)) (C := []) rfl trivial ?_
  rw [(show ((nI l) - (1 : Int32)) = (nI (l - 1)) from (nI_sub (a := l) (b := 1) (by omega)))]
  refine mw_if (P := (nI ((ls (l - 1)) - (ls 0))) = (nI (l - 1))) (a := 43) (b := 47) (fun _ => rfl) trivial (fun h4 => ?_) (fun h4 => ?_)
  · -- 43: (nI ((ls (l - 1)) - (ls 0))) = (nI (l - 1))
    have nh4 : ((ls (l - 1)) - (ls 0)) = (l - 1) := (nI_eq (by omega) (by omega)).mp (show nI ((ls (l - 1)) - (ls 0)) = nI (l - 1) from h4)
    have hun := run_list hri (show l ≤ n by omega) hl1 nh4
    refine mw_go mu_g231 (k := 5) (f1 := (54, [(5, .inl (14 : Int32)), (4, .inl (1 : Int32)), (0, .inr (.inr (some 100))), (1, .inr (.inr (U.2.2.2.1 129 10))), (2, .inl (nI st)), (3, .inl (nI n))], [], Q3)) (C := []) rfl trivial ?_
    show mu_W _ _ (54, [(5, .inl (nI 14)), (4, .inl (1 : Int32)), (0, .inr (.inr (some 100))), (1, .inr (.inr (U.2.2.2.1 129 10))), (2, .inl (nI st)), (3, .inl (nI n))], [], Q3) _
    refine mw_sub (L' := [(5, .inl (nI 14)), (0, .inr (.inr (some 100))), (1, .inr (.inr (U.2.2.2.1 129 10))), (2, .inl (nI st)), (3, .inl (nI n)), (4, .inl (1 : Int32))]) (by simp) ?_
    refine mw_down (α := Nat × mu_H) (fun zs => (54, [(5, .inl (nI zs.1)), (0, .inr (.inr (some 100))), (1, .inr (.inr (U.2.2.2.1 129 10))), (2, .inl (nI st)), (3, .inl (nI n)), (4, .inl (1 : Int32))], [], zs.2)) (fun zs => 28 - zs.1) (fun zs => um m zs.2 ∧ ur m C H zs.2 ∧ (uq F231a (upI (upI U 100 18 (nI l)) 100 19 (nI (ls 0))) (ud m zs.2)) ∧ (14 ≤ zs.1) ∧ (zs.1 ≤ 28) ∧ (tki U (ud m zs.2) W l P S0 f mk sd wt ls zs.1)) (fun zs hza iha => ?_) (14, Q3) ⟨u3, ht3, (show uq F231a (upI (upI U 100 18 (nI l)) 100 19 (nI (ls 0))) (ud m Q3) from by rw [d3]; exact uq.refl _ _), (show 14 ≤ 14 from (by omega)), (show 14 ≤ 28 from (by omega)), (show tki U (ud m Q3) W l P S0 f mk sd wt ls 14 from by rw [d3]; exact (tki_e rfl rfl rfl rfl (tki_0 hsd)))⟩
    obtain ⟨k, Hsa⟩ := zs
    obtain ⟨ua, hta, da, hk14, hk28, hi⟩ := hza
    have ua : um m Hsa := ua
    have hta : ur m C H Hsa := hta
    have zza : uq F231a (upI (upI U 100 18 (nI l)) 100 19 (nI (ls 0))) (ud m Hsa) := da
    have hk14 : 14 ≤ k := hk14
    have hk28 : k ≤ 28 := hk28
    have hi : tki U (ud m Hsa) W l P S0 f mk sd wt ls k := hi
    obtain ⟨Va, da⟩ : ∃ V, ud m Hsa = V := ⟨_, rfl⟩
    rw [da] at zza hi
    have qfa : uq F231 U Va := qf3.tr zza rfl
    show mu_W _ _ (54, [(5, .inl (nI k)), (0, .inr (.inr (some 100))), (1, .inr (.inr (U.2.2.2.1 129 10))), (2, .inl (nI st)), (3, .inl (nI n)), (4, .inl (1 : Int32))], [], Hsa) _
    refine mw_go mu_g231 (k := 2) (f1 := (58, [(5, .inl (nI k)), (0, .inr (.inr (some 100))), (1, .inr (.inr (U.2.2.2.1 129 10))), (2, .inl (nI st)), (3, .inl (nI n)), (4, .inl (1 : Int32))], [.inl (28 : Int32), .inl (nI k)], Hsa)) (C := []) rfl trivial ?_
    refine mw_if (P := (nI k) < (28 : Int32)) (a := 61) (b := 101) (fun _ => rfl) trivial (fun h5 => ?_) (fun h5 => ?_)
    · -- 61: (nI k) < (28 : Int32)
      have nh5 : k < 28 := (nI_ltI (by omega) (by omega)).mp (show nI k < nI 28 from h5)
      refine mw_go mu_g231 (k := 2) (f1 := (65, [(5, .inl (nI k)), (0, .inr (.inr (some 100))), (1, .inr (.inr (U.2.2.2.1 129 10))), (2, .inl (nI st)), (3, .inl (nI n)), (4, .inl (1 : Int32))], [.inl (mu_i Hsa 100 4)], Hsa)) (C := [mu_is Hsa (some 100) 5]) rfl (show mu_is Hsa (some 100) 5 from (ua.1.1.is rfl)) ?_
      rw [(show mu_i Hsa 100 4 = mk from (ud_i (U := Va) (m := m) (P := 100) (j := 4) da rfl).trans ((zza.i 100 4 rfl).trans hmk))]
      refine mw_go mu_g231 (k := 4) (f1 := (70, [(5, .inl (nI k)), (0, .inr (.inr (some 100))), (1, .inr (.inr (U.2.2.2.1 129 10))), (2, .inl (nI st)), (3, .inl (nI n)), (4, .inl (1 : Int32))], [.inl (((mk.toUInt32 >>> ((nI k).toUInt32 &&& Int32.toUInt32 31)).toInt32) &&& (1 : Int32))], Hsa)) (C := []) rfl trivial ?_
      refine mw_if (P := (((mk.toUInt32 >>> ((nI k).toUInt32 &&& Int32.toUInt32 31)).toInt32) &&& (1 : Int32)) = 0) (a := 95) (b := 73) (fun _ => rfl) trivial (fun h6 => ?_) (fun h6 => ?_)
      · -- 95: (((mk.toUInt32 >>> ((nI k).toUInt32 &&& Int32.toUInt32 31)).toInt32) &&& (1 : Int32)) = 0
        refine mw_go mu_g231 (k := 1) (f1 := (98, [(5, .inl ((nI k) + 1)), (0, .inr (.inr (some 100))), (1, .inr (.inr (U.2.2.2.1 129 10))), (2, .inl (nI st)), (3, .inl (nI n)), (4, .inl (1 : Int32))], [], Hsa)) (C := []) rfl trivial ?_
        rw [(show ((nI k) + 1) = (nI (k + 1)) from (nI_add k 1))]
        refine mw_go mu_g231 (k := 1) (f1 := (54, [(5, .inl (nI (k + 1))), (0, .inr (.inr (some 100))), (1, .inr (.inr (U.2.2.2.1 129 10))), (2, .inl (nI st)), (3, .inl (nI n)), (4, .inl (1 : Int32))], [], Hsa)) (C := []) rfl trivial ?_
        exact mw_sub (by simp) (iha (k + 1, Hsa) ⟨ua, hta, (show uq F231a (upI (upI U 100 18 (nI l)) 100 19 (nI (ls 0))) (ud m Hsa) from by rw [da]; exact zza), (show 14 ≤ (k + 1) from (by omega)), (show (k + 1) ≤ 28 from (by omega)), (show tki U (ud m Hsa) W l P S0 f mk sd wt ls (k + 1) from by rw [da]; exact (tki_skip hi h6))⟩ (by show 28 - (k + 1) < 28 - k; omega))
      · -- 73: not (((mk.toUInt32 >>> ((nI k).toUInt32 &&& Int32.toUInt32 31)).toInt32) &&& (1 : Int32)) = 0
        refine mw_go mu_g231 (k := 1) (f1 := (75, [(5, .inl (nI k)), (0, .inr (.inr (some 100))), (1, .inr (.inr (U.2.2.2.1 129 10))), (2, .inl (nI st)), (3, .inl (nI n)), (4, .inl (1 : Int32))], [.inl (1 : Int32)], Hsa)) (C := []) rfl trivial ?_
        refine mw_if (P := (1 : Int32) = 0) (a := 87) (b := 78) (fun _ => rfl) trivial (fun h7 => absurd h7 (by decide)) (fun h7 => ?_)
        refine mw_go mu_g231 (k := 2) (f1 := (81, [(5, .inl (nI k)), (0, .inr (.inr (some 100))), (1, .inr (.inr (U.2.2.2.1 129 10))), (2, .inl (nI st)), (3, .inl (nI n)), (4, .inl (1 : Int32))], [.inl (nI k), .inr (.inr (some 100))], Hsa)) (C := []) rfl trivial ?_
        have hsk := hi.1.2.1 k (by omega) (show ¬ mb mk k = 0 from h6)
        have hwk := hi.1.2.2.1 k (by omega)
        refine mw_cV (fun _ => rfl) (show mu_is Hsa (some 100) 5 from (ua.1.1.is rfl)) (mc_fillL (d := (d + 1)) (C := C) (at0 := ls 0) (sl := sd k) (w := wt k) ua da (spx_keep hS (zza.i 99 4 rfl) (zza.i 99 10 rfl) (zza.i 99 11 rfl) (zza.i 99 12 rfl) (zza.a 99 5 rfl) (zza.a 99 7 rfl) (zza.a 99 6 rfl) (zza.n 99 8 rfl) (zza.n 99 18 rfl) (((zza.r 100 0 rfl).trans hsp).trans hsp.symm) (zza.r 99 0 rfl)) (show mx Va A W l from ⟨((zza.i 100 17 rfl).trans hW), (zza.i 100 18 rfl), hl1, hlW, hW2, by rw [(show (Va.2.2.1 100 8).1 = (U.2.2.1 100 8).1 from (zza.n 100 8 rfl))]; exact hA8, by rw [(show (Va.2.2.1 100 8).1 = (U.2.2.1 100 8).1 from (zza.n 100 8 rfl))]; exact c8, by rw [(show (Va.2.2.1 100 12).1 = (U.2.2.1 100 12).1 from (zza.n 100 12 rfl))]; exact hA12, by rw [(show (Va.2.2.1 100 12).1 = (U.2.2.1 100 12).1 from (zza.n 100 12 rfl))]; exact c12⟩) hsk.1 (by omega) hsk.2.1 (Nat.lt_of_lt_of_le hsk.2.2.1 hSA) hwk hsk.2.2.2.2 (zza.i 100 19 rfl) (by omega) hi.1.1 hsk.2.2.2.1) (fun Q8 q8 => ?_)
        obtain ⟨u8, r8, z8, fq⟩ := q8
        have ht8 : ur m C H Q8 := hta.trans r8
        obtain ⟨V8, d8⟩ : ∃ V, ud m Q8 = V := ⟨_, rfl⟩
        rw [d8] at z8 fq
        have qf8 : uq F231 U V8 := qfa.tr z8 rfl
        have hi2 := tki_step hi (by omega) (by omega) (by omega) (show ¬ mb mk k = 0 from h6) fq (fun j hj => by unfold sdv; rw [if_neg (show ¬ wt k = 0 by rw [hwn k (by omega) (by omega) (show ¬ mb mk k = 0 from h6)]; have := (pd_tail hf (k := k % 14 + 1) (by have := hsk.1; omega)).1; rw [show P - (k % 14 + 1) = P - 1 - k % 14 by omega] at this; omega), ← hun j hj, show Va.2.2.1 99 8 = U.2.2.1 99 8 from (zza.a 99 8 rfl)]) (z8.a 99 8 rfl)
        refine mw_go mu_g231 (k := 2) (f1 := (98, [(5, .inl ((nI k) + 1)), (0, .inr (.inr (some 100))), (1, .inr (.inr (U.2.2.2.1 129 10))), (2, .inl (nI st)), (3, .inl (nI n)), (4, .inl (1 : Int32))], [], Q8)) (C := []) rfl trivial ?_
        rw [(show ((nI k) + 1) = (nI (k + 1)) from (nI_add k 1))]
        refine mw_go mu_g231 (k := 1) (f1 := (54, [(5, .inl (nI (k + 1))), (0, .inr (.inr (some 100))), (1, .inr (.inr (U.2.2.2.1 129 10))), (2, .inl (nI st)), (3, .inl (nI n)), (4, .inl (1 : Int32))], [], Q8)) (C := []) rfl trivial ?_
        exact mw_sub (by simp) (iha (k + 1, Q8) ⟨u8, ht8, (show uq F231a (upI (upI U 100 18 (nI l)) 100 19 (nI (ls 0))) (ud m Q8) from by rw [d8]; exact (zza.tr z8 rfl)), (show 14 ≤ (k + 1) from (by omega)), (show (k + 1) ≤ 28 from (by omega)), (show tki U (ud m Q8) W l P S0 f mk sd wt ls (k + 1) from by rw [d8]; exact hi2)⟩ (by show 28 - (k + 1) < 28 - k; omega))
    · -- 101: not (nI k) < (28 : Int32)
      have nh5 : ¬ k < 28 := fun z => h5 (show nI k < nI 28 from (nI_ltI (by omega) (by omega)).mpr z)
      refine mw_go mu_g231 (k := 2) (f1 := (105, [(5, .inl (nI k)), (0, .inr (.inr (some 100))), (1, .inr (.inr (U.2.2.2.1 129 10))), (2, .inl (nI st)), (3, .inl (nI n)), (4, .inl (1 : Int32))], [.inl (mu_i Hsa 100 18)], Hsa)) (C := [mu_is Hsa (some 100) 5]) rfl (show mu_is Hsa (some 100) 5 from (ua.1.1.is rfl)) ?_
      rw [(show mu_i Hsa 100 18 = (nI l) from (ud_i (U := Va) (m := m) (P := 100) (j := 18) da rfl).trans (zza.i 100 18 rfl))]
      exact mw_of (fun _ => mu_ret rfl trivial ⟨_, Hsa, rfl, rfl, ua, hta, (by rw [da]; exact qfa), (by rw [da]; exact ⟨(zza.i 100 18 rfl), (by rw [show k = 28 by omega] at hi; exact hi)⟩)⟩)
  · -- 47: not (nI ((ls (l - 1)) - (ls 0))) = (nI (l - 1))
    have nh4 : ¬ ((ls (l - 1)) - (ls 0)) = (l - 1) := fun z => h4 (show nI ((ls (l - 1)) - (ls 0)) = nI (l - 1) from (nI_eq (by omega) (by omega)).mpr z)
    refine mw_go mu_g231 (k := 4) (f1 := (54, [(5, .inl (14 : Int32)), (4, .inl (0 : Int32)), (0, .inr (.inr (some 100))), (1, .inr (.inr (U.2.2.2.1 129 10))), (2, .inl (nI st)), (3, .inl (nI n))], [], Q3)) (C := []) rfl trivial ?_
    show mu_W _ _ (54, [(5, .inl (nI 14)), (4, .inl (0 : Int32)), (0, .inr (.inr (some 100))), (1, .inr (.inr (U.2.2.2.1 129 10))), (2, .inl (nI st)), (3, .inl (nI n))], [], Q3) _
    refine mw_sub (L' := [(5, .inl (nI 14)), (0, .inr (.inr (some 100))), (1, .inr (.inr (U.2.2.2.1 129 10))), (2, .inl (nI st)), (3, .inl (nI n)), (4, .inl (0 : Int32))]) (by simp) ?_
    refine mw_down (α := Nat × mu_H) (fun zs => (54, [(5, .inl (nI zs.1)), (0, .inr (.inr (some 100))), (1, .inr (.inr (U.2.2.2.1 129 10))), (2, .inl (nI st)), (3, .inl (nI n)), (4, .inl (0 : Int32))], [], zs.2)) (fun zs => 28 - zs.1) (fun zs => um m zs.2 ∧ ur m C H zs.2 ∧ (uq F231a (upI (upI U 100 18 (nI l)) 100 19 (nI (ls 0))) (ud m zs.2)) ∧ (14 ≤ zs.1) ∧ (zs.1 ≤ 28) ∧ (tki U (ud m zs.2) W l P S0 f mk sd wt ls zs.1)) (fun zs hza iha => ?_) (14, Q3) ⟨u3, ht3, (show uq F231a (upI (upI U 100 18 (nI l)) 100 19 (nI (ls 0))) (ud m Q3) from by rw [d3]; exact uq.refl _ _), (show 14 ≤ 14 from (by omega)), (show 14 ≤ 28 from (by omega)), (show tki U (ud m Q3) W l P S0 f mk sd wt ls 14 from by rw [d3]; exact (tki_e rfl rfl rfl rfl (tki_0 hsd)))⟩
    obtain ⟨k, Hsa⟩ := zs
    obtain ⟨ua, hta, da, hk14, hk28, hi⟩ := hza
    have ua : um m Hsa := ua
    have hta : ur m C H Hsa := hta
    have zza : uq F231a (upI (upI U 100 18 (nI l)) 100 19 (nI (ls 0))) (ud m Hsa) := da
    have hk14 : 14 ≤ k := hk14
    have hk28 : k ≤ 28 := hk28
    have hi : tki U (ud m Hsa) W l P S0 f mk sd wt ls k := hi
    obtain ⟨Va, da⟩ : ∃ V, ud m Hsa = V := ⟨_, rfl⟩
    rw [da] at zza hi
    have qfa : uq F231 U Va := qf3.tr zza rfl
    show mu_W _ _ (54, [(5, .inl (nI k)), (0, .inr (.inr (some 100))), (1, .inr (.inr (U.2.2.2.1 129 10))), (2, .inl (nI st)), (3, .inl (nI n)), (4, .inl (0 : Int32))], [], Hsa) _
    refine mw_go mu_g231 (k := 2) (f1 := (58, [(5, .inl (nI k)), (0, .inr (.inr (some 100))), (1, .inr (.inr (U.2.2.2.1 129 10))), (2, .inl (nI st)), (3, .inl (nI n)), (4, .inl (0 : Int32))], [.inl (28 : Int32), .inl (nI k)], Hsa)) (C := []) rfl trivial ?_
    refine mw_if (P := (nI k) < (28 : Int32)) (a := 61) (b := 101) (fun _ => rfl) trivial (fun h9 => ?_) (fun h9 => ?_)
    · -- 61: (nI k) < (28 : Int32)
      have nh9 : k < 28 := (nI_ltI (by omega) (by omega)).mp (show nI k < nI 28 from h9)
      refine mw_go mu_g231 (k := 2) (f1 := (65, [(5, .inl (nI k)), (0, .inr (.inr (some 100))), (1, .inr (.inr (U.2.2.2.1 129 10))), (2, .inl (nI st)), (3, .inl (nI n)), (4, .inl (0 : Int32))], [.inl (mu_i Hsa 100 4)], Hsa)) (C := [mu_is Hsa (some 100) 5]) rfl (show mu_is Hsa (some 100) 5 from (ua.1.1.is rfl)) ?_
      rw [(show mu_i Hsa 100 4 = mk from (ud_i (U := Va) (m := m) (P := 100) (j := 4) da rfl).trans ((zza.i 100 4 rfl).trans hmk))]
      refine mw_go mu_g231 (k := 4) (f1 := (70, [(5, .inl (nI k)), (0, .inr (.inr (some 100))), (1, .inr (.inr (U.2.2.2.1 129 10))), (2, .inl (nI st)), (3, .inl (nI n)), (4, .inl (0 : Int32))], [.inl (((mk.toUInt32 >>> ((nI k).toUInt32 &&& Int32.toUInt32 31)).toInt32) &&& (1 : Int32))], Hsa)) (C := []) rfl trivial ?_
      refine mw_if (P := (((mk.toUInt32 >>> ((nI k).toUInt32 &&& Int32.toUInt32 31)).toInt32) &&& (1 : Int32)) = 0) (a := 95) (b := 73) (fun _ => rfl) trivial (fun h10 => ?_) (fun h10 => ?_)
      · -- 95: (((mk.toUInt32 >>> ((nI k).toUInt32 &&& Int32.toUInt32 31)).toInt32) &&& (1 : Int32)) = 0
        refine mw_go mu_g231 (k := 1) (f1 := (98, [(5, .inl ((nI k) + 1)), (0, .inr (.inr (some 100))), (1, .inr (.inr (U.2.2.2.1 129 10))), (2, .inl (nI st)), (3, .inl (nI n)), (4, .inl (0 : Int32))], [], Hsa)) (C := []) rfl trivial ?_
        rw [(show ((nI k) + 1) = (nI (k + 1)) from (nI_add k 1))]
        refine mw_go mu_g231 (k := 1) (f1 := (54, [(5, .inl (nI (k + 1))), (0, .inr (.inr (some 100))), (1, .inr (.inr (U.2.2.2.1 129 10))), (2, .inl (nI st)), (3, .inl (nI n)), (4, .inl (0 : Int32))], [], Hsa)) (C := []) rfl trivial ?_
        exact mw_sub (by simp) (iha (k + 1, Hsa) ⟨ua, hta, (show uq F231a (upI (upI U 100 18 (nI l)) 100 19 (nI (ls 0))) (ud m Hsa) from by rw [da]; exact zza), (show 14 ≤ (k + 1) from (by omega)), (show (k + 1) ≤ 28 from (by omega)), (show tki U (ud m Hsa) W l P S0 f mk sd wt ls (k + 1) from by rw [da]; exact (tki_skip hi h10))⟩ (by show 28 - (k + 1) < 28 - k; omega))
      · -- 73: not (((mk.toUInt32 >>> ((nI k).toUInt32 &&& Int32.toUInt32 31)).toInt32) &&& (1 : Int32)) = 0
        refine mw_go mu_g231 (k := 1) (f1 := (75, [(5, .inl (nI k)), (0, .inr (.inr (some 100))), (1, .inr (.inr (U.2.2.2.1 129 10))), (2, .inl (nI st)), (3, .inl (nI n)), (4, .inl (0 : Int32))], [.inl (0 : Int32)], Hsa)) (C := []) rfl trivial ?_
        refine mw_if (P := (0 : Int32) = 0) (a := 87) (b := 78) (fun _ => rfl) trivial (fun h11 => ?_) (fun h11 => absurd (by decide) h11)
        refine mw_go mu_g231 (k := 4) (f1 := (92, [(5, .inl (nI k)), (0, .inr (.inr (some 100))), (1, .inr (.inr (U.2.2.2.1 129 10))), (2, .inl (nI st)), (3, .inl (nI n)), (4, .inl (0 : Int32))], [.inl (nI st), .inr (.inr (U.2.2.2.1 129 10)), .inl (nI k), .inr (.inr (some 100))], Hsa)) (C := []) rfl trivial ?_
        have hsk := hi.1.2.1 k (by omega) (show ¬ mb mk k = 0 from h10)
        have hpk := mc_pick (d := d) (C := C) (A := A) (W := W) (l := l) (k := k) (sl := sd k) (st := st) (ls := ls) ua da (spx_keep hS (zza.i 99 4 rfl) (zza.i 99 10 rfl) (zza.i 99 11 rfl) (zza.i 99 12 rfl) (zza.a 99 5 rfl) (zza.a 99 7 rfl) (zza.a 99 6 rfl) (zza.n 99 8 rfl) (zza.n 99 18 rfl) (((zza.r 100 0 rfl).trans hsp).trans hsp.symm) (zza.r 99 0 rfl)) (show mx Va A W l from ⟨((zza.i 100 17 rfl).trans hW), (zza.i 100 18 rfl), hl1, hlW, hW2, by rw [(show (Va.2.2.1 100 8).1 = (U.2.2.1 100 8).1 from (zza.n 100 8 rfl))]; exact hA8, by rw [(show (Va.2.2.1 100 8).1 = (U.2.2.1 100 8).1 from (zza.n 100 8 rfl))]; exact c8, by rw [(show (Va.2.2.1 100 12).1 = (U.2.2.1 100 12).1 from (zza.n 100 12 rfl))]; exact hA12, by rw [(show (Va.2.2.1 100 12).1 = (U.2.2.1 100 12).1 from (zza.n 100 12 rfl))]; exact c12⟩) hsk.1 (by omega) hsk.2.1 (Nat.lt_of_lt_of_le hsk.2.2.1 hSA) (by rw [(show Va.2.2.1 129 10 = U.2.2.1 129 10 from (zza.a 129 10 rfl))]; exact fun i hi => hls i (by omega)) (by rw [(show Va.2.2.1 129 10 = U.2.2.1 129 10 from (zza.a 129 10 rfl))]; omega) (by rw [(show Va.2.2.1 129 10 = U.2.2.1 129 10 from (zza.a 129 10 rfl))]; exact hln)
        rw [show Va.2.2.2.1 129 10 = U.2.2.2.1 129 10 from (zza.r 129 10 rfl)] at hpk
        refine mw_cV (fun _ => rfl) (show mu_is Hsa (some 100) 5 from (ua.1.1.is rfl)) hpk (fun Q12 q12 => ?_)
        obtain ⟨u12, r12, d12⟩ := q12
        have ht12 : ur m C H Q12 := hta.trans r12
        have qf12 : uq F231 U (upT (upA (upF Va 100 8 (sd k * W) (fun i => (Va.2.2.1 99 8).2 (sm f 0 (k % 14) + ls i / (pd f (k % 14 + 1) (P - 1 - k % 14)) % f (k % 14))) l) 100 12 (sd k) 1) (ax 22 Va.1 (nI k) 3 (-1))) := (((qfa.F rfl).A rfl).ax rfl)
        have hi2 := tki_step (V1 := (upT (upA (upF Va 100 8 (sd k * W) (fun i => (Va.2.2.1 99 8).2 (sm f 0 (k % 14) + ls i / (pd f (k % 14 + 1) (P - 1 - k % 14)) % f (k % 14))) l) 100 12 (sd k) 1) (ax 22 Va.1 (nI k) 3 (-1)))) hi (by omega) (by omega) (by omega) (show ¬ mb mk k = 0 from h10) (pk_flq (by omega) hl1 (by rw [hi.1.1]; omega) (by omega)) (fun j hj => by rw [hwn k (by omega) (by omega) (show ¬ mb mk k = 0 from h10), show Va.2.2.1 99 8 = U.2.2.1 99 8 from (zza.a 99 8 rfl)]) rfl
        refine mw_go mu_g231 (k := 1) (f1 := (98, [(5, .inl ((nI k) + 1)), (0, .inr (.inr (some 100))), (1, .inr (.inr (U.2.2.2.1 129 10))), (2, .inl (nI st)), (3, .inl (nI n)), (4, .inl (0 : Int32))], [], Q12)) (C := []) rfl trivial ?_
        rw [(show ((nI k) + 1) = (nI (k + 1)) from (nI_add k 1))]
        refine mw_go mu_g231 (k := 1) (f1 := (54, [(5, .inl (nI (k + 1))), (0, .inr (.inr (some 100))), (1, .inr (.inr (U.2.2.2.1 129 10))), (2, .inl (nI st)), (3, .inl (nI n)), (4, .inl (0 : Int32))], [], Q12)) (C := []) rfl trivial ?_
        exact mw_sub (by simp) (iha (k + 1, Q12) ⟨u12, ht12, (show uq F231a (upI (upI U 100 18 (nI l)) 100 19 (nI (ls 0))) (ud m Q12) from by rw [d12]; exact (((zza.F rfl).A rfl).T (fun q hq => by first | exact ax_ne (in1_ne rfl hq) | exact ap_ne (in1_ne rfl hq) | exact fu_ne _ _ (in1_ne rfl hq)))), (show 14 ≤ (k + 1) from (by omega)), (show (k + 1) ≤ 28 from (by omega)), (show tki U (ud m Q12) W l P S0 f mk sd wt ls (k + 1) from by rw [d12]; exact hi2)⟩ (by show 28 - (k + 1) < 28 - k; omega))
    · -- 101: not (nI k) < (28 : Int32)
      have nh9 : ¬ k < 28 := fun z => h9 (show nI k < nI 28 from (nI_ltI (by omega) (by omega)).mpr z)
      refine mw_go mu_g231 (k := 2) (f1 := (105, [(5, .inl (nI k)), (0, .inr (.inr (some 100))), (1, .inr (.inr (U.2.2.2.1 129 10))), (2, .inl (nI st)), (3, .inl (nI n)), (4, .inl (0 : Int32))], [.inl (mu_i Hsa 100 18)], Hsa)) (C := [mu_is Hsa (some 100) 5]) rfl (show mu_is Hsa (some 100) 5 from (ua.1.1.is rfl)) ?_
      rw [(show mu_i Hsa 100 18 = (nI l) from (ud_i (U := Va) (m := m) (P := 100) (j := 18) da rfl).trans (zza.i 100 18 rfl))]
      exact mw_of (fun _ => mu_ret rfl trivial ⟨_, Hsa, rfl, rfl, ua, hta, (by rw [da]; exact qfa), (by rw [da]; exact ⟨(zza.i 100 18 rfl), (by rw [show k = 28 by omega] at hi; exact hi)⟩)⟩)
end Lists2
