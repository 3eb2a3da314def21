/-! PARTS OF AN E: a piece of closed code that stands by itself -/
/-- the stack never falls to what it was at j -/
def SBC (Y : Ts) (a j N : Nat) : Prop := j ≤ N ∧ (∀ n, n < N → plen (oc Y (a + n)) (oa Y (a + n)) ≤ tpz Y a n) ∧ ∀ n, j < n → n ≤ N → tpz Y a j + 1 ≤ tpz Y a n
section SubCode
variable {Y : Ts} {a j N n k q b p o B f t i : Nat} {lv rs : Nat → Int32} {c c' : Nat → Int32} {al x op v : Int32} {es : Nat → Int32} {kd : Bool} {L R : List Bool}
theorem tpz_s : tpz Y a (n + 1) = tpz Y a n - plen (oc Y (a + n)) (oa Y (a + n)) + 1 := rfl
theorem SBC.tp (h : SBC Y a j N) : ∀ n, j + n ≤ N → tpz Y (a + j) n + tpz Y a j = tpz Y a (j + n)
  | 0, _ => Nat.zero_add _
  | n + 1, hn => by
    have ih := SBC.tp h n (by omega)
    have h1 := h.2.1 (j + n) (by omega)
    have h2 := h.2.2 (j + n + 1) (by omega) (by omega)
    rw [tpz_s] at h2
    show tpz Y (a + j) n - plen (oc Y (a + j + n)) (oa Y (a + j + n)) + 1 + tpz Y a j = tpz Y a (j + n) - plen (oc Y (a + (j + n))) (oa Y (a + (j + n))) + 1
    rw [Nat.add_assoc a j n]
    omega
theorem SBC.pl (h : SBC Y a j N) (hn : j + n < N) : plen (oc Y (a + j + n)) (oa Y (a + j + n)) ≤ tpz Y (a + j) n := by
  have ih := h.tp n (by omega)
  have h1 := h.2.1 (j + n) hn
  have h2 := h.2.2 (j + n + 1) (by omega) (by omega)
  rw [tpz_s] at h2
  rw [Nat.add_assoc a j n]
  omega
theorem pkz_shift : ∀ p i, (∀ k, i ≤ k → k < i + 2 * p → c' k = c (k + B)) → pkz c' v p i = pkz c v p (i + B)
  | 0, _, _ => rfl
  | p + 1, i, h => by
    show (if c' i = 0 then pkz c' v p (i + 2) else c' (i + 1)) = (if c (i + B) = 0 then pkz c v p (i + B + 2) else c (i + B + 1))
    rw [h i (by omega) (by omega), h (i + 1) (by omega) (by omega), pkz_shift p (i + 2) (fun k h1 h2 => h k (by omega) (by omega)), show i + 1 + B = i + B + 1 by omega, show i + 2 + B = i + B + 2 by omega]
theorem innz_shift : ∀ p i, (∀ k, i ≤ k → k < i + p → c' k = c (k + B)) → innz c' v p i = innz c v p (i + B)
  | 0, _, _ => rfl
  | p + 1, i, h => by
    show (if c' i = v then 1 else innz c' v p (i + 1)) = (if c (i + B) = v then 1 else innz c v p (i + B + 1))
    rw [h i (by omega) (by omega), innz_shift p (i + 1) (fun k h1 h2 => h k (by omega) (by omega)), show i + 1 + B = i + B + 1 by omega]
theorem ro_shift (hft : f < t) (h : ∀ k, f ≤ k → k < t → c' k = c (k + B)) : ro c' op f t = ro c op (f + B) (t + B) := by
  unfold ro
  by_cases h1 : op = 31 ∨ op = 34
  · rw [if_pos h1, if_pos h1, show t + B - (f + B) = t - f by omega]
    exact pkz_shift _ _ (fun k k1 k2 => h k k1 (by omega))
  · rw [if_neg h1, if_neg h1]
    by_cases h2 : op = 30
    · rw [if_pos h2, if_pos h2, h f (Nat.le_refl _) hft, show t + B - (f + B + 1) = t - (f + 1) by omega, show f + B + 1 = f + 1 + B by omega]
      exact innz_shift _ _ (fun k k1 k2 => h k (by omega) (by omega))
    · rw [if_neg h2, if_neg h2, h f (Nat.le_refl _) hft, h (t - 1) (by omega) (by omega), show t - 1 + B = t + B - 1 by omega]
theorem ro_0 {ar : Nat} (h3 : ¬ o ≤ 3) (h32 : o < 32) (hp : plen o ar = 0) : ro c' (nI o) f f = ro c (nI o) t t := by
  have e : o = 31 := by
    unfold plen at hp
    rw [if_neg h3] at hp
    by_cases c1 : (9 ≤ o ∧ o ≤ 15) ∨ o = 27 ∨ o = 32
    · rw [if_pos c1] at hp
      exact absurd hp (by decide)
    · rw [if_neg c1] at hp
      by_cases c2 : o = 30
      · rw [if_pos c2] at hp
        omega
      · rw [if_neg c2, if_neg (by omega)] at hp
        by_cases c4 : o = 31
        · exact c4
        · rw [if_neg c4, if_neg (by omega)] at hp
          exact absurd hp (by decide)
  rw [e]
  unfold ro
  rw [if_pos (Or.inl (by decide)), if_pos (Or.inl (by decide)), Nat.sub_self, Nat.sub_self]
  rfl
/-- its values are those of the whole -/
theorem SBC.sv (h : SBC Y a j N) (hE : ∀ n, n < N → oc Y (a + n) < 32) : ∀ n, j + n ≤ N → ∀ k, k < tpz Y (a + j) n → svz Y lv (a + j) n k = svz Y lv a (j + n) (k + tpz Y a j)
  | 0, _, k, hk => absurd hk (Nat.not_lt_zero k)
  | n + 1, hn, k, hk => by
    have ih := SBC.sv h hE n (by omega)
    have hT := h.tp n (by omega)
    have hp := h.pl (n := n) (by omega)
    have he := hE (j + n) (by omega)
    have hpa := Nat.add_assoc a j n
    rw [tpz_s] at hk
    show (if k = tpz Y (a + j) n - plen (oc Y (a + j + n)) (oa Y (a + j + n)) then (if oc Y (a + j + n) ≤ 3 then lv (a + j + n) else if oc Y (a + j + n) = 32 ∨ oc Y (a + j + n) = 33 then nI (snz Y (a + j) n) else ro (svz Y lv (a + j) n) (nI (oc Y (a + j + n))) (tpz Y (a + j) n - plen (oc Y (a + j + n)) (oa Y (a + j + n))) (tpz Y (a + j) n)) else svz Y lv (a + j) n k) = (if k + tpz Y a j = tpz Y a (j + n) - plen (oc Y (a + (j + n))) (oa Y (a + (j + n))) then (if oc Y (a + (j + n)) ≤ 3 then lv (a + (j + n)) else if oc Y (a + (j + n)) = 32 ∨ oc Y (a + (j + n)) = 33 then nI (snz Y a (j + n)) else ro (svz Y lv a (j + n)) (nI (oc Y (a + (j + n)))) (tpz Y a (j + n) - plen (oc Y (a + (j + n))) (oa Y (a + (j + n)))) (tpz Y a (j + n))) else svz Y lv a (j + n) (k + tpz Y a j))
    rw [hpa] at hp hk ⊢
    have hc2 : (k + tpz Y a j = tpz Y a (j + n) - plen (oc Y (a + (j + n))) (oa Y (a + (j + n)))) ↔ k = tpz Y (a + j) n - plen (oc Y (a + (j + n))) (oa Y (a + (j + n))) := by omega
    have h33 : ¬ (oc Y (a + (j + n)) = 32 ∨ oc Y (a + (j + n)) = 33) := by omega
    by_cases hc : k = tpz Y (a + j) n - plen (oc Y (a + (j + n))) (oa Y (a + (j + n)))
    · rw [if_pos hc, if_pos (hc2.mpr hc)]
      by_cases h3 : oc Y (a + (j + n)) ≤ 3
      · rw [if_pos h3, if_pos h3]
      · rw [if_neg h3, if_neg h3, if_neg h33, if_neg h33]
        by_cases hp0 : plen (oc Y (a + (j + n))) (oa Y (a + (j + n))) = 0
        · rw [hp0, Nat.sub_zero, Nat.sub_zero]
          exact ro_0 h3 (by omega) hp0
        · rw [ro_shift (c := svz Y lv a (j + n)) (B := tpz Y a j) (by omega) (fun q q1 q2 => ih q q2), show tpz Y (a + j) n - plen (oc Y (a + (j + n))) (oa Y (a + (j + n))) + tpz Y a j = tpz Y a (j + n) - plen (oc Y (a + (j + n))) (oa Y (a + (j + n))) by omega, hT]
    · rw [if_neg hc, if_neg (fun y => hc (hc2.mp y))]
      exact ih k (by omega)
/-- what stood below stays -/
theorem SBC.lo (h : SBC Y a j N) : ∀ n, j + n ≤ N → ∀ k, k < tpz Y a j → svz Y lv a (j + n) k = svz Y lv a j k
  | 0, _, _, _ => rfl
  | n + 1, hn, k, hk => by
    have ih := SBC.lo h n (by omega) k hk
    have h1 := h.2.1 (j + n) (by omega)
    have h2 := h.2.2 (j + n + 1) (by omega) (by omega)
    rw [tpz_s] at h2
    show (if k = tpz Y a (j + n) - plen (oc Y (a + (j + n))) (oa Y (a + (j + n))) then _ else svz Y lv a (j + n) k) = _
    rw [if_neg (by omega)]
    exact ih
theorem SBC.sk (h : SBC Y a j N) : ∀ n, j + n ≤ N → ∀ k, k < tpz Y (a + j) n → stk Y (fun n => rs (j + n)) (a + j) n k = stk Y rs a (j + n) (k + tpz Y a j)
  | 0, _, k, hk => absurd hk (Nat.not_lt_zero k)
  | n + 1, hn, k, hk => by
    have ih := SBC.sk h n (by omega)
    have hT := h.tp n (by omega)
    have hp := h.pl (n := n) (by omega)
    rw [tpz_s] at hk
    show (if k = tpz Y (a + j) n - plen (oc Y (a + j + n)) (oa Y (a + j + n)) then rs (j + n) else stk Y (fun n => rs (j + n)) (a + j) n k) = (if k + tpz Y a j = tpz Y a (j + n) - plen (oc Y (a + (j + n))) (oa Y (a + (j + n))) then rs (j + n) else stk Y rs a (j + n) (k + tpz Y a j))
    rw [Nat.add_assoc a j n] at hp hk ⊢
    have hc2 : (k + tpz Y a j = tpz Y a (j + n) - plen (oc Y (a + (j + n))) (oa Y (a + (j + n)))) ↔ k = tpz Y (a + j) n - plen (oc Y (a + (j + n))) (oa Y (a + (j + n))) := by omega
    by_cases hc : k = tpz Y (a + j) n - plen (oc Y (a + (j + n))) (oa Y (a + (j + n)))
    · rw [if_pos hc, if_pos (hc2.mpr hc)]
    · rw [if_neg hc, if_neg (fun y => hc (hc2.mp y))]
      exact ih k (by omega)
theorem jok_shift (h : jok c o (b + B) p al x) (hs : ∀ q, b ≤ q → q < b + p → c' q = c (q + B)) (hp : 1 ≤ p) : jok c' o b p al x := by
  have hb : c' b = c (b + B) := hs b (Nat.le_refl _) (by omega)
  have all : ∀ Q : Int32 → Prop, (∀ q, b + B ≤ q → q < b + B + p → Q (c q)) → ∀ q, b ≤ q → q < b + p → Q (c' q) := fun Q y q q1 q2 => by
    rw [hs q q1 q2]
    exact y (q + B) (by omega) (by omega)
  rcases h with ⟨h1, h2, h3, h4⟩ | ⟨h1, h2, h3⟩ | ⟨h1, h2, h3⟩ | ⟨h1, h2, h3, h4⟩ | ⟨h1, h2, h3, h4⟩ | ⟨h1, h2, h3⟩
  · exact Or.inl ⟨h1, h2, h3, all (fun y => y = 1 ∨ y = 9) h4⟩
  · refine Or.inr (Or.inl ⟨h1, all (fun y => y = 1 ∨ y = 9) h2, ?_⟩)
    rcases h3 with ⟨y1, y2⟩ | ⟨y1, q, y2, y3, y4⟩
    · exact Or.inl ⟨y1, all (fun y => y = 1) y2⟩
    · refine Or.inr ⟨y1, q - B, by omega, by omega, ?_⟩
      rw [hs (q - B) (by omega) (by omega), show q - B + B = q by omega]
      exact y4
  · refine Or.inr (Or.inr (Or.inl ⟨h1, h2, fun q hq => ?_⟩))
    have y := h3 q (by omega)
    rw [hs (b + 2 * q) (by omega) (by omega), hs (b + 2 * q + 1) (by omega) (by omega), show b + 2 * q + B = b + B + 2 * q by omega, show b + 2 * q + 1 + B = b + B + 2 * q + 1 by omega]
    exact y
  · refine Or.inr (Or.inr (Or.inr (Or.inl ⟨h1, by rw [hb]; exact h2, ?_, h4⟩)))
    rw [hb]
    exact all (fun y => y = c (b + B)) h3
  · refine Or.inr (Or.inr (Or.inr (Or.inr (Or.inl ⟨h1, by rw [hb]; exact h2, ?_, by rw [hb]; exact h4⟩))))
    rw [hb]
    exact all (fun y => y = c (b + B)) h3
  · exact Or.inr (Or.inr (Or.inr (Or.inr (Or.inr ⟨h1, all (fun y => y = 2) h2, h3⟩))))
/-- it has its SORTS -/
theorem SBC.srt (h : SBC Y a j N) (hs : SRT Y es i al a rs N) (hn : j + n ≤ N) : SRT Y es i al (a + j) (fun n => rs (j + n)) n := by
  intro q hq
  obtain ⟨h1, h2, h3⟩ := hs (j + q) (by omega)
  have hp := h.pl (n := q) (by omega)
  have hT := h.tp q (by omega)
  rw [← Nat.add_assoc a j q] at h2 h3
  refine ⟨h1, h2, fun y => ?_⟩
  have y2 := h3 y
  rw [show tpz Y a (j + q) - plen (oc Y (a + j + q)) (oa Y (a + j + q)) = tpz Y (a + j) q - plen (oc Y (a + j + q)) (oa Y (a + j + q)) + tpz Y a j by omega] at y2
  exact jok_shift y2 (fun k k1 k2 => h.sk q (by omega) k (by omega)) y
/-- it is closed -/
theorem SBC.ks (h : SBC Y a j N) (hN : kst (Y 0) a N = some L) (hR : kst (Y 0) a j = some R) : ∀ n, j + n ≤ N → ∃ L', kst (Y 0) (a + j) n = some L' ∧ kst (Y 0) a (j + n) = some (L' ++ R)
  | 0, _ => ⟨[], rfl, hR⟩
  | n + 1, hn => by
    obtain ⟨L', e1, e2⟩ := SBC.ks h hN hR n (by omega)
    obtain ⟨L2, e3⟩ := kst_le hN (show j + n + 1 ≤ N by omega)
    obtain ⟨L3, e4, e5⟩ := kst_step e3
    rw [e2] at e4
    obtain ⟨r, e6, e7⟩ := ktake_some e5
    rw [← Option.some.inj e4] at e6
    have hp := h.pl (n := n) (by omega)
    rw [← kst_tp e1, Nat.add_assoc a j n, ← kin_len] at hp
    have hpre : kin (oc Y (a + (j + n))) (oa Y (a + (j + n))) <+: L' := List.prefix_of_prefix_length_le (l₃ := L' ++ R) (by rw [e6]; exact List.prefix_append _ _) (List.prefix_append _ _) hp
    obtain ⟨r2, e8⟩ := hpre
    have e9 : r = r2 ++ R := by
      rw [← e8, List.append_assoc] at e6
      exact (List.append_cancel_left e6).symm
    refine ⟨decide (32 ≤ oc Y (a + (j + n))) :: r2, ?_, ?_⟩
    · show (kst (Y 0) (a + j) n).bind (ktake (oc Y (a + j + n)) (oa Y (a + j + n))) = _
      rw [e1, Nat.add_assoc a j n]
      show ktake (oc Y (a + (j + n))) (oa Y (a + (j + n))) L' = _
      rw [← e8]
      exact ktake_app _ _ _
    · rw [show j + (n + 1) = j + n + 1 by omega, e3, e7, e9]
      rfl
/-- where the last part begins -/
theorem part_ex (h1 : 1 ≤ tpz Y a n) : ∃ j, j < n ∧ tpz Y a j + 1 = tpz Y a n ∧ ∀ q, j < q → q ≤ n → tpz Y a n ≤ tpz Y a q := by
  have key : ∀ m, m ≤ n → (∃ j, n - m ≤ j ∧ j < n ∧ tpz Y a j < tpz Y a n ∧ ∀ q, j < q → q ≤ n → tpz Y a n ≤ tpz Y a q) ∨ ∀ q, n - m ≤ q → q ≤ n → tpz Y a n ≤ tpz Y a q := by
    intro m
    induction m with
    | zero => intro _; exact Or.inr (fun q q1 q2 => by rw [show q = n by omega]; exact Nat.le_refl _)
    | succ m ih =>
      intro hm
      rcases ih (by omega) with ⟨j, y1, y2, y3, y4⟩ | y
      · exact Or.inl ⟨j, by omega, y2, y3, y4⟩
      · by_cases hc : tpz Y a (n - (m + 1)) < tpz Y a n
        · exact Or.inl ⟨n - (m + 1), Nat.le_refl _, by omega, hc, fun q q1 q2 => y q (by omega) q2⟩
        · refine Or.inr (fun q q1 q2 => ?_)
          by_cases e : q = n - (m + 1)
          · rw [e]; omega
          · exact y q (by omega) q2
  rcases key n (Nat.le_refl _) with ⟨j, y1, y2, y3, y4⟩ | y
  · refine ⟨j, y2, ?_, y4⟩
    have z1 := y4 (j + 1) (by omega) (by omega)
    rw [tpz_s] at z1
    omega
  · have z := y 0 (by omega) (Nat.zero_le _)
    have e0 : tpz Y a 0 = 0 := rfl
    omega
theorem part_one (h1 : 1 ≤ tpz Y a n) {j j' : Nat} (hj : j < n) (hj2 : tpz Y a j + 1 = tpz Y a n) (hj3 : ∀ q, j < q → q ≤ n → tpz Y a n ≤ tpz Y a q) (hj' : j' < n) (hj2' : tpz Y a j' + 1 = tpz Y a n) (hj3' : ∀ q, j' < q → q ≤ n → tpz Y a n ≤ tpz Y a q) : j = j' := by
  rcases Nat.lt_trichotomy j j' with y | y | y
  · have := hj3 j' y (by omega); omega
  · exact y
  · have := hj3' j y (by omega); omega
end SubCode
