/-! INPUTS: the largest parts of an E without next -/
def gnd (g : Nat → Nat) (n T k : Nat) : Nat := if k + 1 < T then g (k + 1) else n
/-- where the open parts begin -/
def OPG (Y : Ts) (a n : Nat) (g : Nat → Nat) : Prop := ∀ k, k < tpz Y a n → g k < n ∧ tpz Y a (g k) = k ∧ ∀ q, g k < q → q ≤ n → k + 1 ≤ tpz Y a q
/-- which of them have a next -/
def MVG (Y : Ts) (a n : Nat) (g mv : Nat → Nat) : Prop := ∀ k, k < tpz Y a n → mv k = 0 → ∀ q, g k ≤ q → q < gnd g n (tpz Y a n) k → ¬ oc Y (a + q) = 3
/-- those that have one are alike where the inputs are -/
def EQI (Y : Ts) (U : Ud) (f : Nat → Nat) (P : Nat) (od : Nat → Nat) (i0 a n : Nat) (mv : Nat → Nat) (I : Nat → Nat → Prop) : Prop := ∀ s s', (∀ b nb, I b nb → tru Y U f P od i0 b nb s = tru Y U f P od i0 b nb s') → ∀ t k, k < tpz Y a n → ¬ mv k = 0 → svz Y (lvl Y (vst U f P s) (vst U f P t) (evz Y od (vst U f P s)) i0) a n k = svz Y (lvl Y (vst U f P s') (vst U f P t) (evz Y od (vst U f P s')) i0) a n k
section Inputs
variable {Y : Ts} {U : Ud} {a n k N P i0 s t : Nat} {g mv f od : Nat → Nat} {I : Nat → Nat → Prop} {lv rs : Nat → Int32} {es : Nat → Int32}
theorem OPG.up (h : OPG Y a n g) (hk : k + 1 < tpz Y a n) : g k < g (k + 1) := by
  obtain ⟨h1, h2, h3⟩ := h k (by omega)
  obtain ⟨k1, k2, k3⟩ := h (k + 1) hk
  apply Nat.lt_of_not_le
  intro hle
  by_cases e : g (k + 1) = g k
  · rw [e, h2] at k2
    omega
  · have y := k3 (g k) (by omega) (by omega)
    omega
theorem OPG.nd (h : OPG Y a n g) (hk : k < tpz Y a n) : g k < gnd g n (tpz Y a n) k ∧ gnd g n (tpz Y a n) k ≤ n ∧ tpz Y a (gnd g n (tpz Y a n) k) = k + 1 := by
  unfold gnd
  by_cases c : k + 1 < tpz Y a n
  · rw [if_pos c]
    exact ⟨h.up c, Nat.le_of_lt (h (k + 1) c).1, (h (k + 1) c).2.1⟩
  · rw [if_neg c]
    exact ⟨(h k hk).1, Nat.le_refl _, by omega⟩
theorem OPG.sbc (h : OPG Y a n g) (hv : ∀ q, q < n → plen (oc Y (a + q)) (oa Y (a + q)) ≤ tpz Y a q) (hk : k < tpz Y a n) : SBC Y a (g k) (gnd g n (tpz Y a n) k) := by
  obtain ⟨y1, y2, y3⟩ := h.nd hk
  refine ⟨by omega, fun q hq => hv q (by omega), fun q q1 q2 => ?_⟩
  rw [(h k hk).2.1]
  exact (h k hk).2.2 q q1 (by omega)
theorem OPG.val (h : OPG Y a n g) (hv : ∀ q, q < n → plen (oc Y (a + q)) (oa Y (a + q)) ≤ tpz Y a q) (hE : ∀ q, q < n → oc Y (a + q) < 32) (hk : k < tpz Y a n) : svz Y lv a n k = svz Y lv (a + g k) (gnd g n (tpz Y a n) k - g k) 0 := by
  obtain ⟨y1, y2, y3⟩ := h.nd hk
  have hS := h.sbc hv hk
  have e1 : svz Y lv a n k = svz Y lv a (gnd g n (tpz Y a n) k) k := by
    by_cases c : k + 1 < tpz Y a n
    · have eg : gnd g n (tpz Y a n) k = g (k + 1) := if_pos c
      rw [eg]
      obtain ⟨k1, k2, k3⟩ := h (k + 1) c
      have hS2 : SBC Y a (g (k + 1)) n := ⟨by omega, hv, fun q q1 q2 => by rw [k2]; exact k3 q q1 q2⟩
      have y := hS2.lo (lv := lv) (n - g (k + 1)) (by omega) k (by omega)
      rw [show g (k + 1) + (n - g (k + 1)) = n by omega] at y
      exact y
    · have eg : gnd g n (tpz Y a n) k = n := if_neg c
      rw [eg]
  have hT := hS.tp (gnd g n (tpz Y a n) k - g k) (by omega)
  rw [show g k + (gnd g n (tpz Y a n) k - g k) = gnd g n (tpz Y a n) k by omega, y3, (h k hk).2.1] at hT
  have y := hS.sv (lv := lv) (fun q hq => hE q (by omega)) (gnd g n (tpz Y a n) k - g k) (by omega) 0 (by omega)
  rw [show g k + (gnd g n (tpz Y a n) k - g k) = gnd g n (tpz Y a n) k by omega, (h k hk).2.1, Nat.zero_add] at y
  rw [e1, y]
/-- without next an E does not see the second STATE -/
theorem no_nx {b nb : Nat} (h : ∀ q, q < nb → ¬ oc Y (b + q) = 3) : svz Y (lvl Y (vst U f P s) (vst U f P t) (evz Y od (vst U f P s)) i0) b nb 0 = tru Y U f P od i0 b nb s := by
  unfold tru
  refine congrFun (svz_congr (fun x hx ho => ?_)) 0
  unfold lvl
  rw [if_neg (h x hx), if_neg (h x hx)]
theorem OPG.zero : OPG Y a 0 g := fun k hk => absurd hk (Nat.not_lt_zero k)
/-- the next operator -/
theorem OPG.step (h : OPG Y a n g) (hv : plen (oc Y (a + n)) (oa Y (a + n)) ≤ tpz Y a n) : OPG Y a (n + 1) (fun k => if k = tpz Y a n - plen (oc Y (a + n)) (oa Y (a + n)) ∧ plen (oc Y (a + n)) (oa Y (a + n)) = 0 then n else g k) := by
  intro k hk
  rw [tpz_s] at hk
  by_cases c : k = tpz Y a n - plen (oc Y (a + n)) (oa Y (a + n)) ∧ plen (oc Y (a + n)) (oa Y (a + n)) = 0
  · show (if k = tpz Y a n - plen (oc Y (a + n)) (oa Y (a + n)) ∧ plen (oc Y (a + n)) (oa Y (a + n)) = 0 then n else g k) < n + 1 ∧ tpz Y a (if k = tpz Y a n - plen (oc Y (a + n)) (oa Y (a + n)) ∧ plen (oc Y (a + n)) (oa Y (a + n)) = 0 then n else g k) = k ∧ ∀ q, (if k = tpz Y a n - plen (oc Y (a + n)) (oa Y (a + n)) ∧ plen (oc Y (a + n)) (oa Y (a + n)) = 0 then n else g k) < q → q ≤ n + 1 → k + 1 ≤ tpz Y a q
    rw [if_pos c]
    refine ⟨by omega, by omega, fun q q1 q2 => ?_⟩
    rw [show q = n + 1 by omega, tpz_s]
    omega
  · show (if k = tpz Y a n - plen (oc Y (a + n)) (oa Y (a + n)) ∧ plen (oc Y (a + n)) (oa Y (a + n)) = 0 then n else g k) < n + 1 ∧ tpz Y a (if k = tpz Y a n - plen (oc Y (a + n)) (oa Y (a + n)) ∧ plen (oc Y (a + n)) (oa Y (a + n)) = 0 then n else g k) = k ∧ ∀ q, (if k = tpz Y a n - plen (oc Y (a + n)) (oa Y (a + n)) ∧ plen (oc Y (a + n)) (oa Y (a + n)) = 0 then n else g k) < q → q ≤ n + 1 → k + 1 ≤ tpz Y a q
    rw [if_neg c]
    obtain ⟨h1, h2, h3⟩ := h k (by omega)
    refine ⟨by omega, h2, fun q q1 q2 => ?_⟩
    by_cases e : q = n + 1
    · rw [e, tpz_s]
      omega
    · exact h3 q q1 (by omega)
/-- each operator from a part's begin on stands in one of the parts -/
theorem OPG.tile (h : OPG Y a n g) {c q : Nat} (hc : c < tpz Y a n) (h1 : g c ≤ q) (h2 : q < n) : ∃ k, c ≤ k ∧ k < tpz Y a n ∧ g k ≤ q ∧ q < gnd g n (tpz Y a n) k := by
  have key : ∀ m k, c ≤ k → k < tpz Y a n → tpz Y a n - k = m → g k ≤ q → ∃ k, c ≤ k ∧ k < tpz Y a n ∧ g k ≤ q ∧ q < gnd g n (tpz Y a n) k := by
    intro m
    induction m with
    | zero => intro k k1 k2 k3; omega
    | succ m ih =>
      intro k k1 k2 k3 k4
      by_cases hq : q < gnd g n (tpz Y a n) k
      · exact ⟨k, k1, k2, k4, hq⟩
      · by_cases hk : k + 1 < tpz Y a n
        · have eg : gnd g n (tpz Y a n) k = g (k + 1) := if_pos hk
          exact ih (k + 1) (by omega) hk (by omega) (by omega)
        · have eg : gnd g n (tpz Y a n) k = n := if_neg hk
          omega
  exact key _ c (Nat.le_refl _) hc rfl h1
/-- the flag of the next operator -/
theorem MVG.step {mq : Nat} (h : OPG Y a n g) (hm : MVG Y a n g mv) (hv : plen (oc Y (a + n)) (oa Y (a + n)) ≤ tpz Y a n) (hq : mq = 0 → ¬ oc Y (a + n) = 3 ∧ ∀ k, tpz Y a n - plen (oc Y (a + n)) (oa Y (a + n)) ≤ k → k < tpz Y a n → mv k = 0) : MVG Y a (n + 1) (fun k => if k = tpz Y a n - plen (oc Y (a + n)) (oa Y (a + n)) ∧ plen (oc Y (a + n)) (oa Y (a + n)) = 0 then n else g k) (fun k => if k = tpz Y a n - plen (oc Y (a + n)) (oa Y (a + n)) then mq else mv k) := by
  obtain ⟨p, hp⟩ : ∃ p, p = plen (oc Y (a + n)) (oa Y (a + n)) := ⟨_, rfl⟩
  rw [← hp] at hv hq ⊢
  have hT : tpz Y a (n + 1) = tpz Y a n - p + 1 := by rw [hp]; exact tpz_s
  intro k hk h0 q q1 q2
  rw [hT] at hk q2
  have h0 : (if k = tpz Y a n - p then mq else mv k) = 0 := h0
  have q1 : (if k = tpz Y a n - p ∧ p = 0 then n else g k) ≤ q := q1
  by_cases c : k = tpz Y a n - p
  · rw [if_pos c] at h0
    obtain ⟨z1, z2⟩ := hq h0
    have eg : gnd (fun k => if k = tpz Y a n - p ∧ p = 0 then n else g k) (n + 1) (tpz Y a n - p + 1) k = n + 1 := if_neg (by omega)
    rw [eg] at q2
    by_cases e : q = n
    · rw [e]; exact z1
    · by_cases hp0 : p = 0
      · rw [if_pos ⟨c, hp0⟩] at q1
        omega
      · rw [if_neg (fun y => hp0 y.2)] at q1
        obtain ⟨k', y1, y2, y3, y4⟩ := h.tile (c := k) (q := q) (by omega) q1 (by omega)
        exact hm k' y2 (z2 k' (by omega) y2) q y3 y4
  · rw [if_neg c] at h0
    rw [if_neg (fun y => c y.1)] at q1
    have hk' : k < tpz Y a n := by omega
    refine hm k hk' h0 q q1 ?_
    have eg : gnd (fun k => if k = tpz Y a n - p ∧ p = 0 then n else g k) (n + 1) (tpz Y a n - p + 1) k = (if k + 1 = tpz Y a n - p ∧ p = 0 then n else g (k + 1)) := if_pos (by omega)
    rw [eg] at q2
    unfold gnd
    by_cases c2 : k + 1 < tpz Y a n
    · rw [if_pos c2]
      by_cases c3 : k + 1 = tpz Y a n - p ∧ p = 0
      · omega
      · rw [if_neg c3] at q2
        exact q2
    · rw [if_neg c2]
      by_cases c3 : k + 1 = tpz Y a n - p ∧ p = 0
      · rw [if_pos c3] at q2
        exact q2
      · omega
theorem EQI.mono {J : Nat → Nat → Prop} (h : EQI Y U f P od i0 a n mv I) (hJ : ∀ b nb, I b nb → J b nb) : EQI Y U f P od i0 a n mv J := fun s s' hs => h s s' (fun b nb hb => hs b nb (hJ b nb hb))
/-- the value of the next operator -/
theorem EQI.step {mq : Nat} {J : Nat → Nat → Prop} (h : OPG Y a n g) (hm : MVG Y a n g mv) (hI : EQI Y U f P od i0 a n mv I) (hv : ∀ q, q ≤ n → plen (oc Y (a + q)) (oa Y (a + q)) ≤ tpz Y a q) (hE : ∀ q, q ≤ n → oc Y (a + q) < 32) (hs : SRT Y es i0 1 a rs N) (hn : n < N) (h15 : (Y 15).1 ≤ 67108864) (hJI : ∀ b nb, I b nb → J b nb) (hJn : ¬ mq = 0 → ∀ k, tpz Y a n - plen (oc Y (a + n)) (oa Y (a + n)) ≤ k → k < tpz Y a n → mv k = 0 → J (a + g k) (gnd g n (tpz Y a n) k - g k)) (hq : oc Y (a + n) = 3 ∨ (oc Y (a + n) ≤ 3 → mq = 0) ∧ (plen (oc Y (a + n)) (oa Y (a + n)) = 0 → mq = 0)) : EQI Y U f P od i0 (a) (n + 1) (fun k => if k = tpz Y a n - plen (oc Y (a + n)) (oa Y (a + n)) then mq else mv k) J := by
  intro s s' hss t k hk hmk
  have hvn := hv n (Nat.le_refl _)
  have hEn := hE n (Nat.le_refl _)
  rw [tpz_s] at hk
  have ih := hI s s' (fun b nb hb => hss b nb (hJI b nb hb)) t
  obtain ⟨l1, e1⟩ : ∃ l, l = lvl Y (vst U f P s) (vst U f P t) (evz Y od (vst U f P s)) i0 := ⟨_, rfl⟩
  obtain ⟨l2, e2⟩ : ∃ l, l = lvl Y (vst U f P s') (vst U f P t) (evz Y od (vst U f P s')) i0 := ⟨_, rfl⟩
  rw [← e1, ← e2] at ih ⊢
  have hmk : ¬ (if k = tpz Y a n - plen (oc Y (a + n)) (oa Y (a + n)) then mq else mv k) = 0 := hmk
  show (if k = tpz Y a n - plen (oc Y (a + n)) (oa Y (a + n)) then (if oc Y (a + n) ≤ 3 then l1 (a + n) else if oc Y (a + n) = 32 ∨ oc Y (a + n) = 33 then nI (snz Y a n) else ro (svz Y l1 a n) (nI (oc Y (a + n))) (tpz Y a n - plen (oc Y (a + n)) (oa Y (a + n))) (tpz Y a n)) else svz Y l1 a n k) = (if k = tpz Y a n - plen (oc Y (a + n)) (oa Y (a + n)) then (if oc Y (a + n) ≤ 3 then l2 (a + n) else if oc Y (a + n) = 32 ∨ oc Y (a + n) = 33 then nI (snz Y a n) else ro (svz Y l2 a n) (nI (oc Y (a + n))) (tpz Y a n - plen (oc Y (a + n)) (oa Y (a + n))) (tpz Y a n)) else svz Y l2 a n k)
  by_cases c : k = tpz Y a n - plen (oc Y (a + n)) (oa Y (a + n))
  · rw [if_pos c] at hmk
    rw [if_pos c, if_pos c]
    rcases hq with h3 | ⟨q1, q2⟩
    · have z3 : oc Y (a + n) ≤ 3 := by omega
      rw [if_pos z3, if_pos z3]
      obtain ⟨w, w1, w2, w3⟩ := lvl_next hs hn h3
      rw [e1, e2, lvl_3 h3 w3 w2 (by omega), lvl_3 h3 w3 w2 (by omega)]
    · have z3 : ¬ oc Y (a + n) ≤ 3 := fun y => hmk (q1 y)
      have z32 : ¬ (oc Y (a + n) = 32 ∨ oc Y (a + n) = 33) := by omega
      have hp0 : ¬ plen (oc Y (a + n)) (oa Y (a + n)) = 0 := fun y => hmk (q2 y)
      rw [if_neg z3, if_neg z3, if_neg z32, if_neg z32]
      refine ro_shift (B := 0) (by omega) (fun k' k1 k2 => ?_)
      rw [Nat.add_zero]
      by_cases hk0 : mv k' = 0
      · have hv' : ∀ q, q < n → plen (oc Y (a + q)) (oa Y (a + q)) ≤ tpz Y a q := fun q hq => hv q (by omega)
        have hE' : ∀ q, q < n → oc Y (a + q) < 32 := fun q hq => hE q (by omega)
        obtain ⟨y1, y2, y3⟩ := h.nd k2
        rw [h.val (lv := l1) hv' hE' k2, h.val (lv := l2) hv' hE' k2, e1, e2]
        have hno : ∀ q, q < gnd g n (tpz Y a n) k' - g k' → ¬ oc Y (a + g k' + q) = 3 := fun q hq => by
          rw [Nat.add_assoc]
          exact hm k' k2 hk0 (g k' + q) (by omega) (by omega)
        rw [no_nx (s := s) hno, no_nx (s := s') hno]
        exact hss _ _ (hJn hmk k' k1 k2 hk0)
      · exact ih k' k2 hk0
  · rw [if_neg c] at hmk
    rw [if_neg c, if_neg c]
    exact ih k (by omega) hmk
end Inputs
