/-! RELATION: splitPieces; pieces as rows -/
section PieceRows
variable {U V : Ud} {m P a n i j k r k' s u : Nat} {Y : Ts} {f od : Nat → Nat} {es : Nat → Int32} {t t' : Tb} {v : Int32}
theorem WTC.t1 (hK : KNV m U Y P f od es) (h : WTC Y es a n i) : trs Y U f P od i a n s u = 1 ↔ ¬ trs Y U f P od i a n s u = 0 := by
  obtain ⟨hr, rs, hs, hst⟩ := h
  rcases trs_01 (s := s) (t := u) hK hr hs (by decide) hst with y | y
  · rw [y]
    decide
  · rw [y]
    decide
theorem and_split2 (hK : KNV m U Y P f od es) (hi : i < (Y 11).1) (h : WTC Y es a (n + 1) i) (ho : oc Y (a + n) = 8) : ∃ j, 0 < j ∧ j < n ∧ tpz Y a n = 2 ∧ tpz Y a j + 1 = tpz Y a n ∧ (∀ q, j < q → q ≤ n → tpz Y a n ≤ tpz Y a q) ∧ WTC Y es a j i ∧ WTC Y es (a + j) (n - j) i ∧ ∀ s u, (trs Y U f P od i a (n + 1) s u = 1 ↔ trs Y U f P od i a j s u = 1 ∧ trs Y U f P od i (a + j) (n - j) s u = 1) := by
  obtain ⟨hr, rs, hs, hst⟩ := id h
  obtain ⟨j, j1, j2, j3, j4, j5, ⟨a1, a2, a3⟩, ⟨b1, b2, b3⟩, hx⟩ := and_split (U := U) (f := f) (P := P) (od := od) hK hi hr ho hs hst
  have w1 : WTC Y es a j i := ⟨a1, rs, a2, a3⟩
  have w2 : WTC Y es (a + j) (n - j) i := ⟨by rw [show a + j + (n - j) = a + n by omega]; exact b1, _, b2, b3⟩
  exact ⟨j, j1, j2, j3, j4, j5, w1, w2, fun s u => by rw [h.t1 hK, w1.t1 hK, w2.t1 hK]; exact hx s u⟩
theorem or_split2 (hK : KNV m U Y P f od es) (hi : i < (Y 11).1) (h : WTC Y es a (n + 1) i) (ho : oc Y (a + n) = 6) : ∃ j, 0 < j ∧ j < n ∧ tpz Y a n = 2 ∧ tpz Y a j + 1 = tpz Y a n ∧ (∀ q, j < q → q ≤ n → tpz Y a n ≤ tpz Y a q) ∧ WTC Y es a j i ∧ WTC Y es (a + j) (n - j) i ∧ ∀ s u, (trs Y U f P od i a (n + 1) s u = 1 ↔ trs Y U f P od i a j s u = 1 ∨ trs Y U f P od i (a + j) (n - j) s u = 1) := by
  obtain ⟨hr, rs, hs, hst⟩ := id h
  obtain ⟨j, j1, j2, j3, j4, j5, ⟨a1, a2, a3⟩, ⟨b1, b2, b3⟩, hx⟩ := or_split (U := U) (f := f) (P := P) (od := od) hK hi hr ho hs hst
  have w1 : WTC Y es a j i := ⟨a1, rs, a2, a3⟩
  have w2 : WTC Y es (a + j) (n - j) i := ⟨by rw [show a + j + (n - j) = a + n by omega]; exact b1, _, b2, b3⟩
  exact ⟨j, j1, j2, j3, j4, j5, w1, w2, fun s u => by rw [h.t1 hK, w1.t1 hK, w2.t1 hK]; exact hx s u⟩
theorem rw_same (h : ∀ c, c < 3 → t'.2 r c = t.2 r c) : rwa t' r = rwa t r ∧ rwn t' r = rwn t r ∧ rwi t' r = rwi t r := by
  unfold rwn rwi rwa
  rw [h 0 (by omega), h 1 (by omega), h 2 (by omega)]
  exact ⟨rfl, rfl, rfl⟩
theorem PCT.same (h : ∀ c, c < 3 → t'.2 r c = t.2 r c) (hp : PCT Y es t r) : PCT Y es t' r := by
  obtain ⟨e1, e2, e3⟩ := rw_same h
  unfold PCT at hp ⊢
  rw [e1, e2, e3, h 0 (by omega), h 1 (by omega), h 2 (by omega)]
  exact hp
theorem ts5_eq (hk : k < t.1) (hb : t.1 ≤ 67108864) : tset 5 t (nI k) 1 v = (t.1, fun i c => if i = k ∧ c = 1 then v else t.2 i c) := by
  unfold tset
  rw [if_neg (nI_pos (by omega)), nI_clamp (by omega), if_pos ⟨hk, by decide⟩]
theorem ts5_row (hk : k < t.1) (hb : t.1 ≤ 67108864) (h0 : t.2 k 0 = nI a) (h2 : t.2 k 2 = nI i) (hj : a + j < 2147483648) (hi : i < 2147483648) : rwa (tset 5 t (nI k) 1 (nI (a + j))) k = a ∧ rwn (tset 5 t (nI k) 1 (nI (a + j))) k = j ∧ rwi (tset 5 t (nI k) 1 (nI (a + j))) k = i := by
  rw [ts5_eq hk hb]
  exact rw_of (t := (t.1, fun i c => if i = k ∧ c = 1 then nI (a + j) else t.2 i c)) (by show (if k = k ∧ 0 = 1 then nI (a + j) else t.2 k 0) = nI a; rw [if_neg (by omega)]; exact h0) (by show (if k = k ∧ 1 = 1 then nI (a + j) else t.2 k 1) = nI (a + j); rw [if_pos ⟨rfl, rfl⟩]) (by show (if k = k ∧ 2 = 1 then nI (a + j) else t.2 k 2) = nI i; rw [if_neg (by omega)]; exact h2) hj hi
theorem ts5_ne (hk : k < t.1) (hb : t.1 ≤ 67108864) (hr : ¬ r = k) : ∀ c, c < 3 → (tset 5 t (nI k) 1 v).2 r c = t.2 r c := fun c _ => by
  rw [ts5_eq hk hb]
  show (if r = k ∧ c = 1 then v else t.2 r c) = t.2 r c
  rw [if_neg (fun y => hr y.1)]
/-- a piece has become shorter -/
theorem PCT.cut (hp : PCT Y es t k) (hk : k < t.1) (hb : t.1 ≤ 67108864) (hY0 : (Y 0).1 ≤ 67108864) (hY11 : (Y 11).1 ≤ 67108864) (hj : j ≤ rwn t k) (hw : j = 0 ∨ WTC Y es (rwa t k) j (rwi t k)) : PCT Y es (tset 5 t (nI k) 1 (nI (rwa t k + j))) k ∧ rwa (tset 5 t (nI k) 1 (nI (rwa t k + j))) k = rwa t k ∧ rwn (tset 5 t (nI k) 1 (nI (rwa t k + j))) k = j ∧ rwi (tset 5 t (nI k) 1 (nI (rwa t k + j))) k = rwi t k := by
  obtain ⟨⟨p0, p1, p2⟩, pi, pb, -⟩ := hp
  obtain ⟨e1, e2, e3⟩ := ts5_row (j := j) hk hb p0 p2 (by omega) (by omega)
  refine ⟨?_, e1, e2, e3⟩
  unfold PCT
  rw [e1, e2, e3, ts5_eq hk hb]
  refine ⟨⟨?_, ?_, ?_⟩, pi, by omega, hw⟩
  · show (if k = k ∧ 0 = 1 then nI (rwa t k + j) else t.2 k 0) = _
    rw [if_neg (by omega)]
    exact p0
  · show (if k = k ∧ 1 = 1 then nI (rwa t k + j) else t.2 k 1) = _
    rw [if_pos ⟨rfl, rfl⟩]
  · show (if k = k ∧ 2 = 1 then nI (rwa t k + j) else t.2 k 2) = _
    rw [if_neg (by omega)]
    exact p2
/-- what stands right of an outer & is there already -/
theorem pnd_set (hPC : ∀ r, r < t.1 → PCT Y es t r) (hk : k < t.1) (hb : t.1 ≤ 67108864) (hY0 : (Y 0).1 ≤ 67108864) (hY11 : (Y 11).1 ≤ 67108864) (hn : rwn t k = n + 1) (hj : j < n) (hw : WTC Y es (rwa t k) j (rwi t k)) (hx : ∀ s u, (trs Y U f P od (rwi t k) (rwa t k) (n + 1) s u = 1 ↔ trs Y U f P od (rwi t k) (rwa t k) j s u = 1 ∧ trs Y U f P od (rwi t k) (rwa t k + j) (n - j) s u = 1)) (hal : ∃ k', k' < t.1 ∧ rwi t k' = rwi t k ∧ rwn t k' = n - j ∧ ALK Y (rwa t k') (rwa t k + j) (n - j) (rwi t k)) : (∀ r, r < (tset 5 t (nI k) 1 (nI (rwa t k + j))).1 → PCT Y es (tset 5 t (nI k) 1 (nI (rwa t k + j))) r) ∧ (tset 5 t (nI k) 1 (nI (rwa t k + j))).1 = t.1 ∧ rwa (tset 5 t (nI k) 1 (nI (rwa t k + j))) k = rwa t k ∧ ∀ s u, PND Y U f P od (tset 5 t (nI k) 1 (nI (rwa t k + j))) s u ↔ PND Y U f P od t s u := by
  obtain ⟨c1, c2, c3, c4⟩ := PCT.cut (hPC k hk) hk hb hY0 hY11 (show j ≤ rwn t k by omega) (Or.inr hw)
  have hsz : (tset 5 t (nI k) 1 (nI (rwa t k + j))).1 = t.1 := by rw [ts5_eq hk hb]
  have hne := fun r (hr : ¬ r = k) => ts5_ne (v := nI (rwa t k + j)) hk hb hr
  have hw0 := hw.pos
  refine ⟨fun r hr => ?_, hsz, c2, fun s u => ⟨fun h r hr h0 => ?_, fun h r hr h0 => ?_⟩⟩
  · rw [hsz] at hr
    by_cases e : r = k
    · rw [e]
      exact c1
    · exact PCT.same (hne r e) (hPC r hr)
  · by_cases e : r = k
    · rw [e, hn, hx s u]
      refine ⟨?_, ?_⟩
      · have y := h k (by rw [hsz]; exact hk) (by rw [c3]; exact hw0)
        rw [c2, c3, c4] at y
        exact y
      · obtain ⟨k', k1, k2, k3, k4⟩ := hal
        have hkk : ¬ k' = k := fun y => by rw [y, hn] at k3; omega
        obtain ⟨e1, e2, e3⟩ := rw_same (hne k' hkk)
        have y := h k' (by rw [hsz]; exact k1) (by rw [e2, k3]; omega)
        rw [e1, e2, e3, k2, k3, k4.trsq] at y
        exact y
    · obtain ⟨e1, e2, e3⟩ := rw_same (hne r e)
      have y := h r (by rw [hsz]; exact hr) (by rw [e2]; exact h0)
      rw [e1, e2, e3] at y
      exact y
  · rw [hsz] at hr
    by_cases e : r = k
    · rw [e, c2, c3, c4]
      have y := h k hk (by rw [hn]; omega)
      rw [hn, hx s u] at y
      exact y.1
    · obtain ⟨e1, e2, e3⟩ := rw_same (hne r e)
      rw [e2] at h0
      rw [e1, e2, e3]
      exact h r hr h0
theorem tp5_eq {a b c e : Int32} : tput 5 t a b c e = (t.1 + 1, fun i k => if i = t.1 then (if k < 5 then rw_col a b c e k else 0) else t.2 i k) := rfl
/-- what stands right of an outer & is a piece of its own -/
theorem pnd_put (hPC : ∀ r, r < t.1 → PCT Y es t r) (hk : k < t.1) (hb : t.1 < 67108864) (hY0 : (Y 0).1 ≤ 67108864) (hY11 : (Y 11).1 ≤ 67108864) (hn : rwn t k = n + 1) (hj : j < n) (hw : WTC Y es (rwa t k) j (rwi t k)) (hw2 : WTC Y es (rwa t k + j) (n - j) (rwi t k)) (hx : ∀ s u, (trs Y U f P od (rwi t k) (rwa t k) (n + 1) s u = 1 ↔ trs Y U f P od (rwi t k) (rwa t k) j s u = 1 ∧ trs Y U f P od (rwi t k) (rwa t k + j) (n - j) s u = 1)) (ht' : t' = tput 5 t (nI (rwa t k + j)) (nI (rwa t k + n)) (nI (rwi t k)) (-1)) : (∀ r, r < (tset 5 t' (nI k) 1 (nI (rwa t k + j))).1 → PCT Y es (tset 5 t' (nI k) 1 (nI (rwa t k + j))) r) ∧ (tset 5 t' (nI k) 1 (nI (rwa t k + j))).1 = t.1 + 1 ∧ rwa (tset 5 t' (nI k) 1 (nI (rwa t k + j))) k = rwa t k ∧ ∀ s u, PND Y U f P od (tset 5 t' (nI k) 1 (nI (rwa t k + j))) s u ↔ PND Y U f P od t s u := by
  have ha := (hPC k hk).2.1
  have hab := (hPC k hk).2.2.1
  have hsz' : t'.1 = t.1 + 1 := by rw [ht']; rfl
  have hold : ∀ r, r < t.1 → ∀ c, c < 3 → t'.2 r c = t.2 r c := fun r hr c _ => by
    rw [ht', tp5_eq]
    show (if r = t.1 then (if c < 5 then rw_col _ _ _ _ c else 0) else t.2 r c) = _
    rw [if_neg (by omega)]
  have hnew : t'.2 t.1 0 = nI (rwa t k + j) ∧ t'.2 t.1 1 = nI (rwa t k + j + (n - j)) ∧ t'.2 t.1 2 = nI (rwi t k) := by
    rw [ht', tp5_eq, show rwa t k + j + (n - j) = rwa t k + n by omega]
    refine ⟨?_, ?_, ?_⟩
    · show (if t.1 = t.1 then _ else _) = _
      rw [if_pos rfl]
      rfl
    · show (if t.1 = t.1 then _ else _) = _
      rw [if_pos rfl]
      rfl
    · show (if t.1 = t.1 then _ else _) = _
      rw [if_pos rfl]
      rfl
  obtain ⟨g1, g2, g3⟩ := rw_of hnew.1 hnew.2.1 hnew.2.2 (by omega) (by omega)
  have hPC' : ∀ r, r < t'.1 → PCT Y es t' r := fun r hr => by
    by_cases e : r = t.1
    · rw [e]
      unfold PCT
      rw [g1, g2, g3]
      exact ⟨hnew, ha, by omega, Or.inr hw2⟩
    · exact PCT.same (hold r (by omega)) (hPC r (by omega))
  obtain ⟨f1, f2, f3⟩ := rw_same (hold k hk)
  obtain ⟨q1, q2, q3, q4⟩ := pnd_set (U := U) (f := f) (P := P) (od := od) (t := t') (k := k) (n := n) (j := j) hPC' (by omega) (by omega) hY0 hY11 (by rw [f2]; exact hn) hj (by rw [f1, f3]; exact hw) (by rw [f1, f3]; exact hx) ⟨t.1, by omega, by rw [f3]; exact g3, g2, by rw [f1, f3, g1]; exact fun x _ => ⟨rfl, fun _ => rfl, fun _ => ⟨rfl, rfl⟩⟩⟩
  rw [f1] at q1 q2 q3 q4
  refine ⟨q1, q2.trans hsz', q3, fun s u => (q4 s u).trans ⟨fun h r hr h0 => ?_, fun h r hr h0 => ?_⟩⟩
  · obtain ⟨e1, e2, e3⟩ := rw_same (hold r hr)
    have y := h r (by omega) (by rw [e2]; exact h0)
    rw [e1, e2, e3] at y
    exact y
  · by_cases e : r = t.1
    · rw [e, g1, g2, g3]
      have y := h k hk (by rw [hn]; omega)
      rw [hn, hx s u] at y
      exact y.2
    · obtain ⟨e1, e2, e3⟩ := rw_same (hold r (by omega))
      rw [e2] at h0
      rw [e1, e2, e3]
      exact h r (by omega) h0
/-- a piece has been taken -/
theorem pnd_take (hPC : ∀ r, r < t.1 → PCT Y es t r) (hk : k < t.1) (hb : t.1 ≤ 67108864) (hY0 : (Y 0).1 ≤ 67108864) (hY11 : (Y 11).1 ≤ 67108864) (hn : ¬ rwn t k = 0) : (∀ r, r < (tset 5 t (nI k) 1 (nI (rwa t k))).1 → PCT Y es (tset 5 t (nI k) 1 (nI (rwa t k))) r) ∧ (tset 5 t (nI k) 1 (nI (rwa t k))).1 = t.1 ∧ ∀ s u, PND Y U f P od t s u ↔ (PND Y U f P od (tset 5 t (nI k) 1 (nI (rwa t k))) s u ∧ trs Y U f P od (rwi t k) (rwa t k) (rwn t k) s u = 1) := by
  obtain ⟨c1, c2, c3, c4⟩ := PCT.cut (j := 0) (hPC k hk) hk hb hY0 hY11 (Nat.zero_le _) (Or.inl rfl)
  rw [Nat.add_zero] at c1 c2 c3 c4
  have hsz : (tset 5 t (nI k) 1 (nI (rwa t k))).1 = t.1 := by rw [ts5_eq hk hb]
  have hne := fun r (hr : ¬ r = k) => ts5_ne (v := nI (rwa t k)) hk hb hr
  refine ⟨fun r hr => ?_, hsz, fun s u => ⟨fun h => ⟨fun r hr h0 => ?_, h k hk hn⟩, fun ⟨h, hh⟩ r hr h0 => ?_⟩⟩
  · rw [hsz] at hr
    by_cases e : r = k
    · rw [e]
      exact c1
    · exact PCT.same (hne r e) (hPC r hr)
  · rw [hsz] at hr
    by_cases e : r = k
    · rw [e, c3] at h0
      exact absurd rfl h0
    · obtain ⟨e1, e2, e3⟩ := rw_same (hne r e)
      rw [e2] at h0
      rw [e1, e2, e3]
      exact h r hr h0
  · by_cases e : r = k
    · rw [e]
      exact hh
    · obtain ⟨e1, e2, e3⟩ := rw_same (hne r e)
      have y := h r (by rw [hsz]; exact hr) (by rw [e2]; exact h0)
      rw [e1, e2, e3] at y
      exact y
end PieceRows
