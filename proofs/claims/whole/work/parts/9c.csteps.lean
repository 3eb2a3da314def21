/-! WHAT THE PARSER WRITES: each step keeps the content -/
section Steps
variable {s s' : Ts} {j : Nat} {a b c e : Int32}
theorem tp_ne {i : Nat} (h : i ≠ j) : tp j s a b c e i = s i := fu_ne _ _ h
theorem tp_at : tp j s a b c e j = tput (wd j) (s j) a b c e := fu_at _ _
theorem tp_n : (tp j s a b c e j).1 = (s j).1 + 1 := by rw [tp_at]; rfl
theorem tp_lt {i k : Nat} (h : i < (s j).1) : (tp j s a b c e j).2 i k = (s j).2 i k := by
  rw [tp_at]
  exact if_neg (by omega)
theorem tp_new {k : Nat} (h : k < wd j) : (tp j s a b c e j).2 (s j).1 k = rw_col a b c e k := by
  rw [tp_at]
  show (if (s j).1 = (s j).1 then (if k < wd j then rw_col a b c e k else 0) else (s j).2 (s j).1 k) = _
  rw [if_pos rfl, if_pos h]
theorem ex_tp (hj : j ≠ 1) : ex s (tp j s a b c e) := by
  refine ⟨fun i => ?_, tp_ne (fun h => hj h.symm), fun p k hp => ?_, fun p k hp => ?_⟩
  · by_cases hi : i = j
    · subst hi; rw [tp_n]; omega
    · rw [tp_ne hi]; exact Nat.le_refl _
  · by_cases hi : 0 = j
    · subst hi; exact tp_lt hp
    · rw [tp_ne hi]
  · by_cases hi : 5 = j
    · subst hi; exact tp_lt hp
    · rw [tp_ne hi]
theorem tx_ne {i k : Nat} {row v : Int32} (h : i ≠ j) : tx j s row k v i = s i := fu_ne _ _ h
theorem tx_at {k : Nat} {row v : Int32} : tx j s row k v j = tset (wd j) (s j) row k v := fu_at _ _
theorem tset_n {W k : Nat} {t : Tb} {row v : Int32} : (tset W t row k v).1 = t.1 := by
  unfold tset
  split
  · rfl
  · split <;> rfl
theorem tset_ne {W k i k' : Nat} {t : Tb} {row v : Int32} (h : i = row.toNatClampNeg → k' ≠ k) : (tset W t row k v).2 i k' = t.2 i k' := by
  unfold tset
  split
  · rfl
  · split
    · exact if_neg (fun z => h z.1 z.2)
    · rfl
theorem tset_hit {W k i : Nat} {t : Tb} {v : Int32} (hi : i < t.1) (hk : k < W) (hb : i < 2147483648) : (tset W t (nI i) k v).2 i k = v := by
  unfold tset
  rw [if_neg (nI_pos hb), nI_clamp hb, if_pos ⟨hi, hk⟩]
  exact if_pos ⟨rfl, rfl⟩
theorem ex_tx {k : Nat} {row v : Int32} (h0 : j ≠ 0) (h1 : j ≠ 1) (h5 : j ≠ 5) : ex s (tx j s row k v) := by
  refine ⟨fun i => ?_, tx_ne (fun h => h1 h.symm), fun p c _ => ?_, fun p c _ => ?_⟩
  · by_cases hi : i = j
    · subst hi; rw [tx_at, tset_n]; exact Nat.le_refl _
    · rw [tx_ne hi]; exact Nat.le_refl _
  · rw [tx_ne (fun h => h0 h.symm)]
  · rw [tx_ne (fun h => h5 h.symm)]
theorem Cm.last (h : Cm s) {c : Nat} (h1 : 1 ≤ c) (h6 : c ≤ 6) : sp s ((s 1).1 - 1) c ≤ (s (tabc c)).1 := by
  by_cases hn : (s 1).1 = 0
  · unfold sp
    rw [if_neg (by omega)]
    exact Nat.le_refl _
  · have h2 := h ((s 1).1 - 1) (by omega) c h1 h6
    exact Nat.le_trans h2.2.1 h2.2.2
/-- the content behind a step, from what the step adds -/
theorem CT.up {B : Nat} (h : CT s) (x : ex s s') (hc : ∀ p, (s 0).1 ≤ p → p < (s' 0).1 → okc ((s' 0).2 p 0) ((s' 0).2 p 1))
    (hrow : ∀ j, j = 6 ∨ j = 7 ∨ j = 8 → ∀ i k, i < (s j).1 → (s' j).2 i k = (s j).2 i k)
    (h8 : ∀ i, (s 8).1 ≤ i → i < (s' 8).1 → rgr s' ((s 1).1 - 1) false (s' 8) i 1 2) (h6 : ∀ i, (s 6).1 ≤ i → i < (s' 6).1 → rgr s' ((s 1).1 - 1) false (s' 6) i 1 2) (h7 : ∀ i, (s 7).1 ≤ i → i < (s' 7).1 → rgr s' ((s 1).1 - 1) true (s' 7) i 2 3)
    (hB1 : sp s ((s 1).1 - 1) 2 ≤ B) (hB2 : B ≤ (s 3).1) (hv : ∀ v c, v < B → (s' 3).2 v c = (s 3).2 v c) (hvn : 1 ≤ (s 1).1 → ∀ v, B ≤ v → v < (s' 3).1 → vok s' ((s 1).1 - 1) v) (hf : Cf s') (hl : Cl s') : CT s' := by
  obtain ⟨c1, c2, ⟨c3, c4, c5⟩, c6, -, -⟩ := h
  refine ⟨c1.up x, fun p hp => ?_, ⟨c3.up x (fun i hi => ⟨hrow 8 (by decide) i 1 hi, hrow 8 (by decide) i 2 hi⟩) c1 (by decide) (by decide) h8, c4.up x (fun i hi => ⟨hrow 6 (by decide) i 1 hi, hrow 6 (by decide) i 2 hi⟩) c1 (by decide) (by decide) h6, c5.1.up x (fun i hi => ⟨hrow 7 (by decide) i 2 hi, hrow 7 (by decide) i 3 hi⟩) c1 (by decide) (by decide) h7, by unfold Cz; rw [x.2.1]; exact c5.2⟩, c6.up x c1 hB1 hB2 hv hvn, hf, hl⟩
  by_cases hp2 : p < (s 0).1
  · rw [x.2.2.1 p 0 hp2, x.2.2.1 p 1 hp2]
    exact c2 p hp2
  · exact hc p (by omega) hp
/-- a step that leaves claims, DEFINES, lines and VARS as they are -/
theorem CT.up0 (h : CT s) (x : ex s s') (hc : ∀ p, (s 0).1 ≤ p → p < (s' 0).1 → okc ((s' 0).2 p 0) ((s' 0).2 p 1)) (e6 : s' 6 = s 6) (e7 : s' 7 = s 7) (e8 : s' 8 = s 8) (e3 : s' 3 = s 3) (hf : Cf s') : CT s' :=
  h.up x hc (fun j hj i k hi => hj.elim (fun z => by subst z; exact by rw [e6]) (fun hj => hj.elim (fun z => by subst z; exact by rw [e7]) (fun z => by subst z; exact by rw [e8]))) (fun i h1 h2 => by rw [e8] at h2; omega) (fun i h1 h2 => by rw [e6] at h2; omega) (fun i h1 h2 => by rw [e7] at h2; omega) (h.1.last (c := 2) (by decide) (by decide)) (Nat.le_refl _) (fun v c _ => by rw [e3]) (fun _ v h1 h2 => by rw [e3] at h2; have : v < (s 3).1 := h2; have : (s (tabc 2)).1 ≤ v := h1; have : (s (tabc 2)).1 = (s 3).1 := rfl; omega) hf (h.2.2.2.2.2.same e3 (x.1 4))
theorem CT.emit (h : CT s) {op arg : Int32} (hk : okc op arg) : CT (tp 0 s op arg 0 0) := by
  refine h.up0 (ex_tp (by decide)) (fun p hp1 hp2 => ?_) rfl rfl rfl rfl (h.2.2.2.2.1.same rfl (Nat.le_refl _))
  rw [tp_n] at hp2
  have : p = (s 0).1 := by omega
  subst this
  rw [tp_new (show 0 < 2 by decide), tp_new (show 1 < 2 by decide)]
  exact hk
theorem CT.param (h : CT s) : CT (tp 2 s a b c e) := h.up0 (ex_tp (by decide)) (fun p h1 h2 => by have : p < (s 0).1 := h2; omega) rfl rfl rfl rfl (h.2.2.2.2.1.same rfl (Nat.le_refl _))
theorem CT.value (h : CT s) : CT (tp 4 s a b c e) := h.up0 (ex_tp (by decide)) (fun p h1 h2 => by have : p < (s 0).1 := h2; omega) rfl rfl rfl rfl (h.2.2.2.2.1.same rfl (Nat.le_refl _))
theorem CT.given (h : CT s) : CT (tp 5 s a b c e) := h.up0 (ex_tp (by decide)) (fun p h1 h2 => by have : p < (s 0).1 := h2; omega) rfl rfl rfl rfl (h.2.2.2.2.1.same rfl (Nat.le_refl _))
theorem CT.step (h : CT s) : CT (tp 10 s a b c e) := h.up0 (ex_tp (by decide)) (fun p h1 h2 => by have : p < (s 0).1 := h2; omega) rfl rfl rfl rfl (h.2.2.2.2.1.same rfl (by show (s 10).1 ≤ (tp 10 s a b c e 10).1; rw [tp_n]; omega))
theorem CT.ref (h : CT s) (hb : (s 10).1 < 2147483648) : CT (tp 9 s (nI (s 10).1) 0 0 e) := by
  refine h.up0 (ex_tp (by decide)) (fun p h1 h2 => by have : p < (s 0).1 := h2; omega) rfl rfl rfl rfl (fun r hr => ?_)
  rw [tp_n] at hr
  by_cases hr2 : r < (s 9).1
  · obtain ⟨a, l, e1, e2, e3, e4, e5⟩ := h.2.2.2.2.1 r hr2
    refine ⟨a, l, by rw [tp_lt hr2]; exact e1, by rw [tp_lt hr2]; exact e2, e3, by rw [tp_lt hr2]; exact e4, fun r' h1 h2 => ?_⟩
    rw [tp_n] at h2
    by_cases hr3 : r' < (s 9).1
    · rw [tp_lt hr3]
      exact e5 r' h1 hr3
    · have : r' = (s 9).1 := by omega
      subst this
      rw [tp_new (show 0 < 4 by decide)]
      show a + l ≤ (nI (s 10).1).toNatClampNeg
      rw [nI_clamp hb]
      exact e3
  · have : r = (s 9).1 := by omega
    subst this
    refine ⟨(s 10).1, 0, by rw [tp_new (show 0 < 4 by decide)]; rfl, by rw [tp_new (show 1 < 4 by decide)]; rfl, Nat.le_refl _, by rw [tp_new (show 2 < 4 by decide)]; rfl, fun r' h1 h2 => ?_⟩
    rw [tp_n] at h2
    omega
theorem CT.rlen (h : CT s) {r a l : Nat} (hr : r + 1 = (s 9).1) (hb : r < 2147483648) (ha : (s 9).2 r 0 = nI a) (hl : a + l ≤ (s 10).1) : CT (tx 9 s (nI r) 1 (nI l)) := by
  refine h.up0 (ex_tx (by decide) (by decide) (by decide)) (fun p h1 h2 => by have : p < (s 0).1 := h2; omega) rfl rfl rfl rfl (fun i hi => ?_)
  have hi2 : i < (tset 4 (s 9) (nI r) 1 (nI l)).1 := hi
  rw [tset_n] at hi2
  clear hi
  have ne : ∀ i c, ¬ (i = r ∧ c = 1) → (tset 4 (s 9) (nI r) 1 (nI l)).2 i c = (s 9).2 i c := fun i c hn => tset_ne (fun z => by rw [nI_clamp hb] at z; exact fun z2 => hn ⟨z, z2⟩)
  show ∃ a' l', (tset 4 (s 9) (nI r) 1 (nI l)).2 i 0 = nI a' ∧ (tset 4 (s 9) (nI r) 1 (nI l)).2 i 1 = nI l' ∧ a' + l' ≤ (s 10).1 ∧ (tset 4 (s 9) (nI r) 1 (nI l)).2 i 2 = 0 ∧ ∀ r', i < r' → r' < (tset 4 (s 9) (nI r) 1 (nI l)).1 → a' + l' ≤ ((tset 4 (s 9) (nI r) 1 (nI l)).2 r' 0).toNatClampNeg
  rw [tset_n, ne i 0 (by omega), ne i 2 (by omega)]
  by_cases hir : i = r
  · subst hir
    refine ⟨a, l, ha, tset_hit (by omega) (by decide) hb, hl, ?_, fun r' h1 h2 => by omega⟩
    obtain ⟨a', l', -, -, -, e4, -⟩ := h.2.2.2.2.1 i hi2
    exact e4
  · obtain ⟨a', l', e1, e2, e3, e4, e5⟩ := h.2.2.2.2.1 i hi2
    exact ⟨a', l', e1, by rw [ne i 1 (by omega)]; exact e2, e3, e4, fun r' h1 h2 => by rw [ne r' 0 (by omega)]; exact e5 r' h1 h2⟩
theorem CT.sym (h : CT s) {row v : Int32} : CT (tx 9 s row 3 v) := by
  refine h.up0 (ex_tx (by decide) (by decide) (by decide)) (fun p h1 h2 => by have : p < (s 0).1 := h2; omega) rfl rfl rfl rfl (fun i hi => ?_)
  have hi : i < (tset 4 (s 9) row 3 v).1 := hi
  rw [tset_n] at hi
  have ne : ∀ i c, c ≠ 3 → (tset 4 (s 9) row 3 v).2 i c = (s 9).2 i c := fun i c hn => tset_ne (fun _ => hn)
  show ∃ a' l', (tset 4 (s 9) row 3 v).2 i 0 = nI a' ∧ (tset 4 (s 9) row 3 v).2 i 1 = nI l' ∧ a' + l' ≤ (s 10).1 ∧ (tset 4 (s 9) row 3 v).2 i 2 = 0 ∧ ∀ r', i < r' → r' < (tset 4 (s 9) row 3 v).1 → a' + l' ≤ ((tset 4 (s 9) row 3 v).2 r' 0).toNatClampNeg
  rw [tset_n, ne i 0 (by decide), ne i 1 (by decide), ne i 2 (by decide)]
  obtain ⟨a', l', e1, e2, e3, e4, e5⟩ := h.2.2.2.2.1 i hi
  exact ⟨a', l', e1, e2, e3, e4, fun r' h1 h2 => by rw [ne r' 0 (by decide)]; exact e5 r' h1 h2⟩
theorem rg_up {k x y : Nat} {kd : Bool} (hk : k < (s 1).1) (hr : rg s k kd x y) (hj : j ≠ 1) : rg (tp j s a b c e) k kd x y := (ex_tp hj).rgk hk hr
theorem CT.claim (h : CT s) {x y : Nat} (h1 : 1 ≤ (s 1).1) (hr : rg s ((s 1).1 - 1) false x y) : CT (tp 8 s a (nI x) (nI y) e) := by
  refine h.up (ex_tp (by decide)) (fun p h1 h2 => by have : p < (s 0).1 := h2; omega) (fun j hj i k hi => hj.elim (fun z => by subst z; exact rfl) (fun hj => hj.elim (fun z => by subst z; exact rfl) (fun z => by subst z; exact tp_lt hi))) (fun i hi1 hi2 => ?_) (fun i h1 h2 => by have : i < (s 6).1 := h2; omega) (fun i h1 h2 => by have : i < (s 7).1 := h2; omega) (h.1.last (c := 2) (by decide) (by decide)) (Nat.le_refl _) (fun v c _ => rfl) (fun _ v h1 h2 => by have : v < (s 3).1 := h2; have : (s 3).1 ≤ v := h1; omega) (h.2.2.2.2.1.same rfl (Nat.le_refl _)) (h.2.2.2.2.2.same rfl (Nat.le_refl _))
  rw [tp_n] at hi2
  have : i = (s 8).1 := by omega
  subst this
  exact ⟨x, y, by rw [tp_new (show 1 < 3 by decide)]; rfl, by rw [tp_new (show 2 < 3 by decide)]; rfl, rg_up (by omega) hr (by decide)⟩
theorem CT.defn (h : CT s) {x y : Nat} (h1 : 1 ≤ (s 1).1) (hr : rg s ((s 1).1 - 1) false x y) : CT (tp 6 s a (nI x) (nI y) e) := by
  refine h.up (ex_tp (by decide)) (fun p h1 h2 => by have : p < (s 0).1 := h2; omega) (fun j hj i k hi => hj.elim (fun z => by subst z; exact tp_lt hi) (fun hj => hj.elim (fun z => by subst z; exact rfl) (fun z => by subst z; exact rfl))) (fun i h1 h2 => by have : i < (s 8).1 := h2; omega) (fun i hi1 hi2 => ?_) (fun i h1 h2 => by have : i < (s 7).1 := h2; omega) (h.1.last (c := 2) (by decide) (by decide)) (Nat.le_refl _) (fun v c _ => rfl) (fun _ v h1 h2 => by have : v < (s 3).1 := h2; have : (s 3).1 ≤ v := h1; omega) (h.2.2.2.2.1.same rfl (Nat.le_refl _)) (h.2.2.2.2.2.same rfl (Nat.le_refl _))
  rw [tp_n] at hi2
  have : i = (s 6).1 := by omega
  subst this
  exact ⟨x, y, by rw [tp_new (show 1 < 3 by decide)]; rfl, by rw [tp_new (show 2 < 3 by decide)]; rfl, rg_up (by omega) hr (by decide)⟩
theorem CT.line (h : CT s) {x y : Nat} (h1 : 1 ≤ (s 1).1) (hr : rg s ((s 1).1 - 1) true x y) : CT (tp 7 s a b (nI x) (nI y)) := by
  refine h.up (ex_tp (by decide)) (fun p h1 h2 => by have : p < (s 0).1 := h2; omega) (fun j hj i k hi => hj.elim (fun z => by subst z; exact rfl) (fun hj => hj.elim (fun z => by subst z; exact tp_lt hi) (fun z => by subst z; exact rfl))) (fun i h1 h2 => by have : i < (s 8).1 := h2; omega) (fun i h1 h2 => by have : i < (s 6).1 := h2; omega) (fun i hi1 hi2 => ?_) (h.1.last (c := 2) (by decide) (by decide)) (Nat.le_refl _) (fun v c _ => rfl) (fun _ v h1 h2 => by have : v < (s 3).1 := h2; have : (s 3).1 ≤ v := h1; omega) (h.2.2.2.2.1.same rfl (Nat.le_refl _)) (h.2.2.2.2.2.same rfl (Nat.le_refl _))
  rw [tp_n] at hi2
  have : i = (s 7).1 := by omega
  subst this
  exact ⟨x, y, by rw [tp_new (show 2 < 4 by decide)]; rfl, by rw [tp_new (show 3 < 4 by decide)]; rfl, rg_up (by omega) hr (by decide)⟩
theorem ls2_congr {t t' : Tb} : ∀ {n : Nat}, (∀ i, i < n → t'.2 i 1 = t.2 i 1 ∧ t'.2 i 3 = t.2 i 3) → ls2 t' n = ls2 t n
  | 0, _ => rfl
  | n + 1, h => by
    unfold ls2
    rw [ls2_congr (n := n) (fun i hi => h i (by omega)), (h n (by omega)).1, (h n (by omega)).2]
theorem CT.varn (h : CT s) : CT (tp 3 s a 0 0 0) := by
  refine h.up (ex_tp (by decide)) (fun p h1 h2 => by have : p < (s 0).1 := h2; omega) (fun j hj i k hi => by rcases hj with z | z | z <;> subst z <;> rfl) (fun i h1 h2 => by have : i < (s 8).1 := h2; omega) (fun i h1 h2 => by have : i < (s 6).1 := h2; omega) (fun i h1 h2 => by have : i < (s 7).1 := h2; omega) (h.1.last (c := 2) (by decide) (by decide)) (Nat.le_refl _) (fun v c hv => tp_lt hv) (fun _ v h1 h2 => ?_) (h.2.2.2.2.1.same rfl (Nat.le_refl _)) ?_
  · rw [tp_n] at h2
    have : v = (s 3).1 := by have : (s 3).1 ≤ v := h1; omega
    subst this
    exact ⟨0, by decide, by rw [tp_new (show 1 < 6 by decide)]; rfl, fun z => by omega, fun z => by omega⟩
  · show ls2 (tp 3 s a 0 0 0 3) (tp 3 s a 0 0 0 3).1 ≤ (s 4).1
    rw [tp_n]
    show ls2 (tp 3 s a 0 0 0 3) (s 3).1 + (if (tp 3 s a 0 0 0 3).2 (s 3).1 1 = 2 then ((tp 3 s a 0 0 0 3).2 (s 3).1 3).toNatClampNeg else 0) ≤ (s 4).1
    rw [tp_new (show 1 < 6 by decide), if_neg (show ¬ rw_col a 0 0 0 1 = 2 by show ¬ (0 : Int32) = 2; decide), ls2_congr (t := s 3) (fun i hi => ⟨tp_lt hi, tp_lt hi⟩)]
    exact h.2.2.2.2.2
/-- the last VAR is written -/
theorem CT.vset (h : CT s) {v k : Nat} {x : Int32} (hv : v + 1 = (s 3).1) (hb : v < 2147483648) (hK : sp s ((s 1).1 - 1) 2 ≤ v) (hn : vok (tx 3 s (nI v) k x) ((s 1).1 - 1) v) (hl : Cl (tx 3 s (nI v) k x)) : CT (tx 3 s (nI v) k x) := by
  refine h.up (B := v) (ex_tx (by decide) (by decide) (by decide)) (fun p h1 h2 => by have : p < (s 0).1 := h2; omega) (fun j hj i k hi => by rcases hj with z | z | z <;> subst z <;> rfl) (fun i h1 h2 => by have : i < (s 8).1 := h2; omega) (fun i h1 h2 => by have : i < (s 6).1 := h2; omega) (fun i h1 h2 => by have : i < (s 7).1 := h2; omega) hK (by omega) (fun v' c hv' => ?_) (fun _ v' h1 h2 => ?_) (h.2.2.2.2.1.same rfl (Nat.le_refl _)) hl
  · rw [tx_at]
    exact tset_ne (fun z => by rw [nI_clamp hb] at z; omega)
  · rw [tx_at, tset_n] at h2
    have : v' = v := by omega
    subst this
    exact hn
/-- a MODULE more -/
theorem CT.mod (h : CT s) {T : Tb} (hT : T.1 = (s 1).1 + 1) (hrow : ∀ k c, k < (s 1).1 → T.2 k c = (s 1).2 k c) (hnew : ∀ c, 1 ≤ c → c ≤ 6 → T.2 (s 1).1 c = nI (s (tabc c)).1) (hb : ∀ j, j < 11 → (s j).1 < 2147483648) (hz : (s 1).1 = 0 → ∀ j, j < 11 → (s j).1 = 0) (h8 : T.2 (s 1).1 8 = 0) : CT (fu s 1 T) := by
  have tc : ∀ c, c ≤ 6 → tabc c < 11 := by decide
  have t1 : ∀ c, c ≤ 6 → tabc c ≠ 1 := by decide
  have f1 : fu s 1 T 1 = T := rfl
  have fs : ∀ i, i ≠ 1 → fu s 1 T i = s i := fun i hi => fu_ne _ _ hi
  have sp1 : ∀ k c, 1 ≤ c → c ≤ 6 → k ≤ (s 1).1 → sp (fu s 1 T) k c = sp s k c := fun k c h1 h6 hk => by
    unfold sp
    rw [f1, hT, if_pos (by omega)]
    by_cases h2 : k < (s 1).1
    · rw [if_pos h2, hrow k c h2]
    · have : k = (s 1).1 := by omega
      subst this
      rw [if_neg h2, hnew c h1 h6, nI_clamp (hb _ (tc c h6))]
  have sp2 : ∀ c, c ≤ 6 → sp (fu s 1 T) ((s 1).1 + 1) c = (s (tabc c)).1 := fun c h6 => by
    unfold sp
    rw [f1, hT, if_neg (by omega), fs _ (t1 c h6)]
  have hrg : ∀ k kd x y, k < (s 1).1 → rg s k kd x y → rg (fu s 1 T) k kd x y := fun k kd x y hk hr => by
    unfold rg
    rw [fs 0 (by decide), sp1 k 6 (by decide) (by decide) (by omega), sp1 (k + 1) 6 (by decide) (by decide) (by omega)]
    exact hr
  have hCr : ∀ c kd c1 c2, 1 ≤ c → c ≤ 6 → Cr s c kd c1 c2 → Cr (fu s 1 T) c kd c1 c2 := fun c kd c1 c2 h1 h6 hc k hk i hi1 hi2 => by
    rw [f1, hT] at hk
    rw [sp1 k c h1 h6 (by omega)] at hi1
    by_cases hk2 : k < (s 1).1
    · rw [sp1 (k + 1) c h1 h6 (by omega)] at hi2
      obtain ⟨x, y, e1, e2, e3⟩ := hc k hk2 i hi1 hi2
      exact ⟨x, y, by rw [fs _ (t1 c h6)]; exact e1, by rw [fs _ (t1 c h6)]; exact e2, hrg _ _ _ _ hk2 e3⟩
    · have : k = (s 1).1 := by omega
      subst this
      rw [sp2 c h6] at hi2
      unfold sp at hi1
      rw [if_neg hk2] at hi1
      omega
  obtain ⟨c1, c2, ⟨c3, c4, c5⟩, c6, c7, c8⟩ := h
  have hZ : Cz (fu s 1 T) := by
    refine ⟨fun _ c d1 d6 => ?_, fun k hk => ?_⟩
    · rw [f1]
      by_cases h0 : (s 1).1 = 0
      · have hx := hnew c d1 d6
        rw [h0] at hx
        rw [hx, hz h0 _ (tc c d6)]
        rfl
      · rw [hrow 0 c (by omega)]
        exact c5.2.1 (by omega) c d1 d6
    · rw [f1, hT] at hk
      rw [f1]
      by_cases hk2 : k < (s 1).1
      · rw [hrow k 8 hk2]
        exact c5.2.2 k hk2
      · have : k = (s 1).1 := by omega
        subst this
        exact h8
  refine ⟨fun k hk c d1 d6 => ?_, c2, ⟨hCr _ _ _ _ (by decide) (by decide) c3, hCr _ _ _ _ (by decide) (by decide) c4, hCr _ _ _ _ (by decide) (by decide) c5.1, hZ⟩, fun k hk v hv1 hv2 => ?_, c7, c8⟩
  · rw [f1, hT] at hk
    rw [fs _ (t1 c d6)]
    by_cases hk2 : k < (s 1).1
    · rw [sp1 k c d1 d6 (by omega), sp1 (k + 1) c d1 d6 (by omega), f1, hrow k c hk2]
      exact c1 k hk2 c d1 d6
    · have : k = (s 1).1 := by omega
      subst this
      rw [sp1 _ c d1 d6 (Nat.le_refl _), sp2 c d6, f1, hnew c d1 d6]
      unfold sp
      rw [if_neg hk2]
      exact ⟨rfl, Nat.le_refl _, Nat.le_refl _⟩
  · rw [f1, hT] at hk
    rw [sp1 k 2 (by decide) (by decide) (by omega)] at hv1
    by_cases hk2 : k < (s 1).1
    · rw [sp1 (k + 1) 2 (by decide) (by decide) (by omega)] at hv2
      obtain ⟨y, y1, y2, y4, y5⟩ := c6 k hk2 v hv1 hv2
      refine ⟨y, y1, y2, y4, fun z => ?_⟩
      obtain ⟨p, q, e1, e2, e3, e4⟩ := y5 z
      refine ⟨p, q, e1, e2, e3, fun g hg1 hg2 => ?_⟩
      obtain ⟨p', q', f1', f2', f3'⟩ := e4 g hg1 hg2
      exact ⟨p', q', f1', f2', hrg _ _ _ _ hk2 f3'⟩
    · have : k = (s 1).1 := by omega
      subst this
      rw [sp2 2 (by decide)] at hv2
      unfold sp at hv1
      rw [if_neg hk2] at hv1
      omega
end Steps
