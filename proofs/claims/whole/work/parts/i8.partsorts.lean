/-! SORTS OF PARTS: what has no timed operator is a truth of its own -/
section PartSorts
variable {Y : Ts} {a n N k i P i0 into : Nat} {es rs : Nat → Int32} {al : Int32} {od : Nat → Nat} {t14 : Tb}
theorem stk_b : stk Y rs a (n + 1) k = if k = bse Y a n then rs n else stk Y rs a n k := rfl
/-- only a timed operator makes the SORT of timed parts -/
theorem tmz_of9 (h : PLN Y a N) (hs : SRT Y es i al a rs N) (hl : ∀ n, n < N → plen (oc Y (a + n)) (oa Y (a + n)) = 0 → ¬ rs n = 9) : ∀ n, n ≤ N → ∀ k, k < tpz Y a n → stk Y rs a n k = 9 → TMZ Y a n k
  | 0, _, k, hk, _ => absurd hk (Nat.not_lt_zero k)
  | n + 1, hn, k, hk, h9 => by
    have ih := tmz_of9 h hs hl n (by omega)
    have hb := bse_le h (show n < N by omega)
    have hk : k < bse Y a n + 1 := hk
    rw [stk_b] at h9
    by_cases e : k = bse Y a n
    · rw [if_pos e] at h9
      rw [e]
      by_cases p0 : plen (oc Y (a + n)) (oa Y (a + n)) = 0
      · exact absurd h9 (hl n (by omega) p0)
      · rcases (hs n (by omega)).2.2 (by omega) with ⟨j1, -⟩ | ⟨-, j2, j3⟩ | ⟨j1, j2, j3⟩ | ⟨j1, j2, j3, j4⟩ | ⟨j1, j2, j3, j4⟩ | ⟨j1, j2, j3⟩
        · exact tmz_new.mpr (Or.inl j1)
        · rcases j3 with ⟨y, -⟩ | ⟨-, q, q1, q2, q3⟩
          · rw [h9] at y; exact absurd y (by decide)
          · have q1 : bse Y a n ≤ q := q1
            have q2 : q < bse Y a n + plen (oc Y (a + n)) (oa Y (a + n)) := q2
            exact tmz_new.mpr (Or.inr ⟨q, q1, by omega, ih q (by omega) q3⟩)
        · exact absurd h9 j2
        · rw [h9] at j4; exact absurd j4 (by decide)
        · rw [h9] at j4; exact absurd j4.symm j2
        · rw [h9] at j3
          by_cases c : 22 ≤ oc Y (a + n)
          · rw [if_pos c] at j3; exact absurd j3 (by decide)
          · rw [if_neg c] at j3; exact absurd j3 (by decide)
    · rw [if_neg e] at h9
      exact (tmz_old e).mpr (ih k (by omega) h9)
theorem vso_ne9 {v : Nat} : ¬ vso Y v = 9 := by
  unfold vso
  by_cases c1 : (Y 3).2 v 1 = 0
  · rw [if_pos c1]; decide
  · rw [if_neg c1]
    by_cases c2 : (Y 3).2 v 1 = 2 ∧ ¬ tget (Y 4) ((Y 3).2 v 2) 1 = 0
    · rw [if_pos c2]; decide
    · rw [if_neg c2]; decide
/-- a leaf is no timed part, if no NAME is -/
theorem lok_ne9 {q : Nat} {x : Int32} (h : lok Y es i al q x) (he : ∀ e, e < (Y 13).1 → rch Y (oa Y q) i = nI e → ((Y 9).2 (oa Y q) 2 = 1 ∨ (Y 9).2 (oa Y q) 2 = 2) → (oc Y q = 2 ∨ oc Y q = 3) → ¬ es e = 9) : ¬ x = 9 := by
  rcases h with ⟨-, y⟩ | ⟨-, y⟩ | ⟨y0, -, ⟨-, y⟩ | ⟨-, w, v, -, -, -, -, y⟩ | ⟨y1, e, y2, y3, y⟩⟩
  · rw [y]; decide
  · rw [y]; decide
  · rw [y]; decide
  · rw [y]; exact vso_ne9
  · rw [y]; exact he e y2 y3 y1 y0
/-- where none is allowed there is no timed operator -/
theorem tmz_no (h : PLN Y a N) (hs : SRT Y es i 0 a rs N) : ∀ n, n ≤ N → ∀ k, k < tpz Y a n → ¬ TMZ Y a n k
  | 0, _, k, hk => absurd hk (Nat.not_lt_zero k)
  | n + 1, hn, k, hk => by
    have ih := tmz_no h hs n (by omega)
    have hb := bse_le h (show n < N by omega)
    have hk : k < bse Y a n + 1 := hk
    by_cases e : k = bse Y a n
    · rw [e]
      intro ht
      rcases tmz_new.mp ht with z | ⟨q, q1, q2, q3⟩
      · have hp : 1 ≤ plen (oc Y (a + n)) (oa Y (a + n)) := by
          rcases tmd_two (Or.inl z) with y | y <;> omega
        rcases (hs n (by omega)).2.2 hp with ⟨-, j2, -⟩ | ⟨j1, -⟩ | ⟨j1, -⟩ | ⟨j1, -⟩ | ⟨j1, -⟩ | ⟨j1, -⟩
        · exact absurd j2 (by decide)
        · exact j1.1 z
        · unfold tmd at z; omega
        · unfold tmd at z; omega
        · unfold tmd at z; omega
        · unfold tmd at z; omega
      · exact ih q q2 q3
    · rw [tmz_old e]
      exact ih k (by omega)
/-- no NAME stands for a timed part -/
theorem es_ne9 (hW : JW Y) (hT : TOP Y t14 od) (hY : TYP Y es) (hrg : ∀ e, e < (Y 13).1 → PLN Y (enx Y e 0) (elx Y e) ∧ 1 ≤ tpz Y (enx Y e 0) (elx Y e) ∧ enx Y e 1 = enx Y e 0 + elx Y e ∧ ∀ q, q < elx Y e → (Y 0).2 (enx Y e 0 + q) 0 = nI (oc Y (enx Y e 0 + q))) : ∀ b k, k < b → k < (Y 13).1 → ¬ es (od k) = 9
  | 0, k, hk, _ => absurd hk (Nat.not_lt_zero k)
  | b + 1, k, hk, hk2 => by
    have ih := es_ne9 hW hT hY hrg b
    have he := (hT.1.2.1 k hk2).2
    obtain ⟨rs, h1, h2, -⟩ := hY.1 (od k) he
    obtain ⟨g1, g2, g3, g4⟩ := hrg (od k) he
    intro h9
    rw [h2] at h9
    have := tmz_of9 g1 h1 (fun n hn hp => lok_ne9 ((h1 n hn).2.1 hp) (fun e e1 e2 e3 e4 => ?_)) (elx Y (od k)) (Nat.le_refl _) 0 (by omega) h9
    · exact tmz_no g1 h1 (elx Y (od k)) (Nat.le_refl _) 0 (by omega) this
    · obtain ⟨k', k1, k2⟩ := hT.2 k hk2 (enx Y (od k) 0 + n) e ⟨by omega, by omega, e1, by
        unfold nmd
        rw [if_pos ⟨by
          rw [g4 n hn]
          rcases e4 with y | y
          · rw [y]; exact Or.inl rfl
          · rw [y]; exact Or.inr rfl, e3⟩]
        exact e2⟩
      rw [← k2]
      exact ih k' (by omega) (by omega)
/-- a part that is asked for and has no timed operator is a truth -/
theorem part_truth (hC : SKC Y es rs a N i0 into) (hle : ∀ n, n < N → plen (oc Y (a + n)) (oa Y (a + n)) = 0 → ¬ rs n = 9) (hroot : stk Y rs a N 0 = 1 ∨ stk Y rs a N 0 = 9) (hn : n ≤ N) (hA : ASK Y a N n) (hk1 : bsn Y a N n ≤ k) (hk2 : k < tpz Y a n) (ht : ¬ TMZ Y a n k) : stk Y rs a n k = 1 := by
  have hno : ¬ stk Y rs a n k = 9 := fun y => ht (tmz_of9 hC.pln hC.1.2.1 hle n hn k hk2 y)
  rcases hA with e | ⟨hl, hA⟩
  · rw [e] at hk2 hno ⊢
    rw [hC.one] at hk2
    rw [show k = 0 by omega] at hno ⊢
    exact hroot.resolve_right hno
  · rw [bsn_lt hl] at hk1
    have hb := bse_le hC.pln hl
    have hop := tm_op hC.pln hC.ev hC.1.2.1 hl (by omega) (tmz_new.mpr hA)
    rcases (hC.1.2.1 n hl).2.2 (by omega) with ⟨-, -, -, j4⟩ | ⟨-, j2, -⟩ | ⟨j1, -⟩ | ⟨j1, -⟩ | ⟨j1, -⟩ | ⟨j1, -⟩
    · exact (j4 k hk1 (by unfold bse at hb; omega)).resolve_right hno
    · exact (j2 k hk1 (by unfold bse at hb; omega)).resolve_right hno
    · unfold tmd at hop; omega
    · unfold tmd at hop; omega
    · unfold tmd at hop; omega
    · unfold tmd at hop; omega
end PartSorts
