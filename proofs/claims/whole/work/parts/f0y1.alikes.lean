/-! Codes that are alike mean the same -/
section AlikeMeans
variable {Y : Ts} {U : Ud} {a b n i x P s t : Nat} {f od : Nat → Nat} {vn vx ev : Nat → Int32}
theorem ALK.less {n' : Nat} (h : ALK Y a b n i) (hn : n' ≤ n) : ALK Y a b n' i := fun x hx => h x (by omega)
theorem ALK.pl (h : ALK Y a b n i) (hx : x < n) : plen (oc Y (a + x)) (oa Y (a + x)) = plen (oc Y (b + x)) (oa Y (b + x)) := by
  obtain ⟨h1, h2, -⟩ := h x hx
  rw [← h1]
  by_cases ho : oc Y (a + x) ≤ 3
  · rw [plen_0 ho, plen_0 ho]
  · have e : oa Y (a + x) = oa Y (b + x) := by
      unfold oa
      rw [h2 ⟨by omega, by omega⟩]
    rw [e]
theorem ALK.tp (h : ALK Y a b n i) : tpz Y a n = tpz Y b n := by
  induction n with
  | zero => rfl
  | succ n ih => rw [tpz_s, tpz_s, ih (h.less (by omega)), h.pl (by omega)]
theorem ALK.sn (h : ALK Y a b n i) : snz Y a n = snz Y b n := by
  induction n with
  | zero => rfl
  | succ n ih =>
    show (if oc Y (a + n) = 32 ∨ oc Y (a + n) = 33 then snz Y a n + 1 else snz Y a n) = (if oc Y (b + n) = 32 ∨ oc Y (b + n) = 33 then snz Y b n + 1 else snz Y b n)
    rw [ih (h.less (by omega)), (h n (by omega)).1]
theorem ALK.leaf (h : ALK Y a b n i) (hx : x < n) : lvl Y vn vx ev i (a + x) = lvl Y vn vx ev i (b + x) := by
  obtain ⟨h1, h2, h3⟩ := h x hx
  unfold lvl
  rw [← h1]
  by_cases h0 : oc Y (a + x) < 2
  · rw [if_pos h0, if_pos h0, h2 ⟨by omega, by omega⟩]
  · rw [if_neg h0, if_neg h0]
    by_cases ho : oc Y (a + x) = 2 ∨ oc Y (a + x) = 3
    · obtain ⟨e1, e2⟩ := h3 ho
      rw [e1, e2]
    · have e : oa Y (a + x) = oa Y (b + x) := by
        unfold oa
        rw [h2 ⟨fun y => ho (Or.inl y), fun y => ho (Or.inr y)⟩]
      rw [e]
theorem ALK.sv (h : ALK Y a b n i) : svz Y (lvl Y vn vx ev i) a n = svz Y (lvl Y vn vx ev i) b n := by
  induction n with
  | zero => rfl
  | succ n ih =>
    have ih' := ih (h.less (by omega))
    funext k
    show (if k = tpz Y a n - plen (oc Y (a + n)) (oa Y (a + n)) then (if oc Y (a + n) ≤ 3 then lvl Y vn vx ev i (a + n) else if oc Y (a + n) = 32 ∨ oc Y (a + n) = 33 then nI (snz Y a n) else ro (svz Y (lvl Y vn vx ev i) a n) (nI (oc Y (a + n))) (tpz Y a n - plen (oc Y (a + n)) (oa Y (a + n))) (tpz Y a n)) else svz Y (lvl Y vn vx ev i) a n k) = (if k = tpz Y b n - plen (oc Y (b + n)) (oa Y (b + n)) then (if oc Y (b + n) ≤ 3 then lvl Y vn vx ev i (b + n) else if oc Y (b + n) = 32 ∨ oc Y (b + n) = 33 then nI (snz Y b n) else ro (svz Y (lvl Y vn vx ev i) b n) (nI (oc Y (b + n))) (tpz Y b n - plen (oc Y (b + n)) (oa Y (b + n))) (tpz Y b n)) else svz Y (lvl Y vn vx ev i) b n k)
    rw [ih', (h.less (show n ≤ n + 1 by omega)).tp, (h.less (show n ≤ n + 1 by omega)).sn, h.pl (show n < n + 1 by omega), h.leaf (show n < n + 1 by omega), (h n (by omega)).1]
theorem ALK.trsq (h : ALK Y a b n i) : trs Y U f P od i a n s t = trs Y U f P od i b n s t := congrFun h.sv 0
end AlikeMeans
