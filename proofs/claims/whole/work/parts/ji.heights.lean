/-! HEIGHTS as data bound the timed parts that are open -/
/-- the greatest of p from b on -/
def mxz (g : Nat → Nat) (b : Nat) : Nat → Nat
  | 0 => 0
  | p + 1 => max (mxz g b p) (g (b + p))
/-- the height of an operator: lh that of a NAME, ch where chains go on -/
def hop (Y : Ts) (lh : Nat → Nat) (ch : Nat → Bool) (g : Nat → Nat) (b q : Nat) : Nat := if oc Y q = 2 then lh q else if plen (oc Y q) (oa Y q) = 2 ∧ ch q = true then max (g b) (1 + g (b + 1)) else if oc Y q = 32 then mxz g b (plen (oc Y q) (oa Y q)) else mxz g b (plen (oc Y q) (oa Y q)) + 1
/-- the heights of the parts that are open behind n operators -/
def hgz (Y : Ts) (lh : Nat → Nat) (ch : Nat → Bool) (a : Nat) : Nat → Nat → Nat
  | 0, _ => 0
  | n + 1, k => if k = bse Y a n then hop Y lh ch (hgz Y lh ch a n) (bse Y a n) (a + n) else hgz Y lh ch a n k
section Heights
variable {Y : Ts} {a n N k b p q i : Nat} {lh : Nat → Nat} {ch : Nat → Bool} {g : Nat → Nat} {es rs : Nat → Int32} {al : Int32}
theorem mxz_le : ∀ p q, q < p → g (b + q) ≤ mxz g b p
  | 0, q, hq => absurd hq (Nat.not_lt_zero q)
  | p + 1, q, hq => by
    show _ ≤ max (mxz g b p) (g (b + p))
    by_cases c : q = p
    · rw [c]
      exact Nat.le_max_right _ _
    · exact Nat.le_trans (mxz_le p q (by omega)) (Nat.le_max_left _ _)
theorem hop_up (hn : ¬ oc Y q = 2 ∨ plen (oc Y q) (oa Y q) = 0) (hk : k < plen (oc Y q) (oa Y q)) : g (b + k) ≤ hop Y lh ch g b q ∧ (0 < k → g (b + k) + 1 ≤ hop Y lh ch g b q) := by
  have h1 := mxz_le (g := g) (b := b) (plen (oc Y q) (oa Y q)) k hk
  unfold hop
  rw [if_neg (hn.resolve_right (by omega))]
  by_cases c : plen (oc Y q) (oa Y q) = 2 ∧ ch q = true
  · rw [if_pos c]
    have := c.1
    by_cases c0 : k = 0
    · rw [c0]
      exact ⟨Nat.le_max_left _ _, fun y => absurd y (by omega)⟩
    · rw [show k = 1 by omega]
      have := Nat.le_max_right (g b) (1 + g (b + 1))
      exact ⟨by omega, fun _ => by omega⟩
  · rw [if_neg c]
    by_cases c2 : oc Y q = 32
    · rw [if_pos c2]
      have e : plen (oc Y q) (oa Y q) = 1 := by rw [c2]; rfl
      exact ⟨h1, fun y => by omega⟩
    · rw [if_neg c2]
      exact ⟨by omega, fun _ => by omega⟩
/-- as tm_count, where the first part of an operator need not be lower -/
theorem tm_count2 {hg : Nat → Nat → Nat} {h0 : Nat} (h : PLN Y a N) (hup : ∀ n, n < N → ∀ q, bse Y a n ≤ q → q < tpz Y a n → hg n q ≤ hg (n + 1) (bse Y a n) ∧ (bse Y a n < q → hg n q + 1 ≤ hg (n + 1) (bse Y a n))) (hst : ∀ n, n < N → ∀ k, k < bse Y a n → hg (n + 1) k = hg n k) (htop : ∀ k, k < tpz Y a N → k = 0 ∧ hg N k ≤ h0) (htwo : ∀ n, n < N → (∃ q, bse Y a n ≤ q ∧ q < tpz Y a n ∧ TMZ Y a n q) → plen (oc Y (a + n)) (oa Y (a + n)) ≤ 2) : ∀ d n, n + d = N → ∀ k, k < tpz Y a n → ctn (TMZ Y a n) k + hg n k ≤ h0
  | 0, n, hd, k, hk => by
    rw [show n = N by omega] at hk ⊢
    obtain ⟨k1, k2⟩ := htop k hk
    rw [k1] at k2 ⊢
    show 0 + hg N 0 ≤ h0
    omega
  | d + 1, n, hd, k, hk => by
    have ih := tm_count2 h hup hst htop htwo d (n + 1) (by omega)
    have hb := bse_le h (show n < N by omega)
    have hc : ∀ j, j ≤ bse Y a n → ctn (TMZ Y a (n + 1)) j = ctn (TMZ Y a n) j := fun j => by
      induction j with
      | zero => exact fun _ => rfl
      | succ j ihj =>
        intro hj
        show ctn (TMZ Y a (n + 1)) j + @ite Nat (TMZ Y a (n + 1) j) (Classical.propDecidable _) 1 0 = ctn (TMZ Y a n) j + @ite Nat (TMZ Y a n j) (Classical.propDecidable _) 1 0
        rw [ihj (by omega)]
        have e : TMZ Y a (n + 1) j ↔ TMZ Y a n j := tmz_old (by omega)
        by_cases y : TMZ Y a n j
        · rw [if_pos y, if_pos (e.mpr y)]
        · rw [if_neg y, if_neg (fun z => y (e.mp z))]
    by_cases c : k < bse Y a n
    · have := ih k (by rw [tpz_bs]; omega)
      rw [hc k (by omega), hst n (by omega) k c] at this
      exact this
    · have h1 := ih (bse Y a n) (by rw [tpz_bs]; omega)
      rw [hc _ (Nat.le_refl _)] at h1
      have h2 := hup n (by omega) k (by omega) hk
      by_cases e : k = bse Y a n
      · rw [e] at h2 ⊢
        omega
      · have h2 := h2.2 (by omega)
        have h3 : ctn (TMZ Y a n) k ≤ ctn (TMZ Y a n) (bse Y a n) + 1 := by
          by_cases y : ∃ q, bse Y a n ≤ q ∧ q < tpz Y a n ∧ TMZ Y a n q
          · have := htwo n (by omega) y
            have e2 : k = bse Y a n + 1 := by omega
            rw [e2]
            show ctn (TMZ Y a n) (bse Y a n) + @ite Nat (TMZ Y a n (bse Y a n)) (Classical.propDecidable _) 1 0 ≤ _
            by_cases z : TMZ Y a n (bse Y a n)
            · rw [if_pos z]; exact Nat.le_refl _
            · rw [if_neg z]; omega
          · have key : ∀ d, bse Y a n + d ≤ tpz Y a n → ctn (TMZ Y a n) (bse Y a n + d) = ctn (TMZ Y a n) (bse Y a n) := fun d => by
              induction d with
              | zero => exact fun _ => rfl
              | succ d ihd =>
                intro hd2
                show ctn (TMZ Y a n) (bse Y a n + d) + @ite Nat (TMZ Y a n (bse Y a n + d)) (Classical.propDecidable _) 1 0 = _
                rw [if_neg (fun z => y ⟨bse Y a n + d, by omega, by omega, z⟩), ihd (by omega)]
                rfl
            have := key (k - bse Y a n) (by omega)
            rw [show bse Y a n + (k - bse Y a n) = k by omega] at this
            omega
        omega
/-- an E whose height is at most h0 never has more than h0 timed parts open -/
theorem hgz_count {h0 : Nat} (h : PLN Y a N) (h1 : tpz Y a N = 1) (hh : hgz Y lh ch a N 0 ≤ h0) (htwo : ∀ n, n < N → (∃ q, bse Y a n ≤ q ∧ q < tpz Y a n ∧ TMZ Y a n q) → plen (oc Y (a + n)) (oa Y (a + n)) ≤ 2) : ∀ n, n ≤ N → ∀ k, k < tpz Y a n → ctn (TMZ Y a n) k ≤ h0 := fun n hn k hk => by
  have z := tm_count2 (hg := hgz Y lh ch a) (h0 := h0) h (fun n hn q q1 q2 => ?_) (fun n hn k hk => if_neg (by omega)) (fun k hk => ?_) htwo (N - n) n (by omega) k hk
  · omega
  · have hp := h n hn
    have e : bse Y a n = tpz Y a n - plen (oc Y (a + n)) (oa Y (a + n)) := rfl
    have u := hop_up (lh := lh) (ch := ch) (g := hgz Y lh ch a n) (b := bse Y a n) (q := a + n) (k := q - bse Y a n) (by by_cases c : oc Y (a + n) = 2; (exact Or.inr (by rw [c]; rfl)); (exact Or.inl c)) (by omega)
    rw [show bse Y a n + (q - bse Y a n) = q by omega] at u
    rw [show hgz Y lh ch a (n + 1) (bse Y a n) = hop Y lh ch (hgz Y lh ch a n) (bse Y a n) (a + n) from if_pos rfl]
    exact ⟨u.1, fun y => u.2 (by omega)⟩
  · have e : k = 0 := by omega
    rw [e]
    exact ⟨rfl, hh⟩
end Heights
