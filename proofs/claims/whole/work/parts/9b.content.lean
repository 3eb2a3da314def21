/-! WHAT THE PARSER WRITES: the tables' content -/
/-- where the rows of the k-th MODULE begin in the table of a column -/
def sp (s : Ts) (k c : Nat) : Nat := if k < (s 1).1 then ((s 1).2 k c).toNatClampNeg else (s (tabc c)).1
def Cm (s : Ts) : Prop := ∀ k, k < (s 1).1 → ∀ c, 1 ≤ c → c ≤ 6 → (s 1).2 k c = nI (sp s k c) ∧ sp s k c ≤ sp s (k + 1) c ∧ sp s (k + 1) c ≤ (s (tabc c)).1
def okc (op arg : Int32) : Prop := ∃ k, k ≤ 34 ∧ op = nI k ∧ (k = 0 → arg = 0 ∨ arg = 1) ∧ (k = 30 ∨ k = 31 ∨ k = 33 ∨ k = 34 → ∃ a, 1 ≤ a ∧ a ≤ 16777216 ∧ arg = nI a)
def Cc (s : Ts) : Prop := ∀ p, p < (s 0).1 → okc ((s 0).2 p 0) ((s 0).2 p 1)
/-- a closed piece of the code whose NAMES are those of the k-th MODULE -/
def rg (s : Ts) (k : Nat) (kd : Bool) (a b : Nat) : Prop := a ≤ b ∧ b ≤ (s 0).1 ∧ kst (s 0) a (b - a) = some [kd] ∧ ∀ p, a ≤ p → p < b → ((s 0).2 p 0 = 2 ∨ (s 0).2 p 0 = 3) → ∃ r, (s 0).2 p 1 = nI r ∧ sp s k 6 ≤ r ∧ r < sp s (k + 1) 6
def rgr (s : Ts) (k : Nat) (kd : Bool) (t : Tb) (i c1 c2 : Nat) : Prop := ∃ a b, t.2 i c1 = nI a ∧ t.2 i c2 = nI b ∧ rg s k kd a b
def Cr (s : Ts) (c : Nat) (kd : Bool) (c1 c2 : Nat) : Prop := ∀ k, k < (s 1).1 → ∀ i, sp s k c ≤ i → i < sp s (k + 1) c → rgr s k kd (s (tabc c)) i c1 c2
def vok (s : Ts) (k v : Nat) : Prop := ∃ y, y ≤ 3 ∧ (s 3).2 v 1 = nI y ∧
  (y = 2 → ∃ a b, (s 3).2 v 2 = nI a ∧ (s 3).2 v 3 = nI b ∧ a + b ≤ (s 4).1) ∧
  (y = 3 → ∃ a b, (s 3).2 v 2 = nI a ∧ (s 3).2 v 3 = nI b ∧ a + b ≤ (s 5).1 ∧ ∀ g, a ≤ g → g < a + b → rgr s k false (s 5) g 0 1)
def Cv (s : Ts) : Prop := ∀ k, k < (s 1).1 → ∀ v, sp s k 2 ≤ v → v < sp s (k + 1) 2 → vok s k v
def Cf (s : Ts) : Prop := ∀ r, r < (s 9).1 → ∃ a l, (s 9).2 r 0 = nI a ∧ (s 9).2 r 1 = nI l ∧ a + l ≤ (s 10).1 ∧ (s 9).2 r 2 = 0 ∧ ∀ r', r < r' → r' < (s 9).1 → a + l ≤ ((s 9).2 r' 0).toNatClampNeg
def ls2 (t : Tb) : Nat → Nat
  | 0 => 0
  | k + 1 => ls2 t k + (if t.2 k 1 = 2 then (t.2 k 3).toNatClampNeg else 0)
def Cl (s : Ts) : Prop := ls2 (s 3) (s 3).1 ≤ (s 4).1
/-- the first MODULE's rows begin with the tables -/
def Cz (s : Ts) : Prop := (1 ≤ (s 1).1 → ∀ c, 1 ≤ c → c ≤ 6 → (s 1).2 0 c = 0) ∧ ∀ k, k < (s 1).1 → (s 1).2 k 8 = 0
def CT (s : Ts) : Prop := Cm s ∧ Cc s ∧ (Cr s 5 false 1 2 ∧ Cr s 3 false 1 2 ∧ Cr s 4 true 2 3 ∧ Cz s) ∧ Cv s ∧ Cf s ∧ Cl s
/-- there is a MODULE, or nothing -/
def CE (s : Ts) : Prop := 1 ≤ (s 1).1 ∨ ∀ j, j < 11 → (s j).1 = 0
/-- what grows: rows are added, none of the code's and of what is given changes -/
def ex (s s' : Ts) : Prop := (∀ j, (s j).1 ≤ (s' j).1) ∧ s' 1 = s 1 ∧ (∀ p c, p < (s 0).1 → (s' 0).2 p c = (s 0).2 p c) ∧ (∀ p c, p < (s 5).1 → (s' 5).2 p c = (s 5).2 p c)
section Content
variable {s s' : Ts}
theorem ex.refl (s : Ts) : ex s s := ⟨fun _ => Nat.le_refl _, rfl, fun _ _ _ => rfl, fun _ _ _ => rfl⟩
theorem ex.spq (h : ex s s') {k c : Nat} (hk : k < (s 1).1) : sp s' k c = sp s k c := by
  unfold sp
  rw [h.2.1, if_pos hk, if_pos hk]
theorem ex.spl (h : ex s s') {k c : Nat} : sp s k c ≤ sp s' k c := by
  unfold sp
  rw [h.2.1]
  split
  · exact Nat.le_refl _
  · exact h.1 _
theorem ex.rgk (h : ex s s') {k a b : Nat} {kd : Bool} (hk : k < (s 1).1) (hr : rg s k kd a b) : rg s' k kd a b := by
  obtain ⟨h1, h2, h3, h4⟩ := hr
  refine ⟨h1, Nat.le_trans h2 (h.1 0), ?_, fun p hp1 hp2 ho => ?_⟩
  · rw [kst_congr (t := s 0) (fun i hi => ⟨h.2.2.1 _ _ (by omega), h.2.2.1 _ _ (by omega)⟩)]
    exact h3
  · rw [h.2.2.1 _ _ (by omega)] at ho
    rw [h.2.2.1 _ _ (by omega), h.spq hk]
    obtain ⟨r, e1, e2, e3⟩ := h4 p hp1 hp2 ho
    exact ⟨r, e1, e2, Nat.lt_of_lt_of_le e3 h.spl⟩
theorem Cm.mono (h : Cm s) {c i j : Nat} (h1 : 1 ≤ c) (h6 : c ≤ 6) (hij : i ≤ j) (hj : j ≤ (s 1).1) : sp s i c ≤ sp s j c := by
  obtain ⟨k, rfl⟩ : ∃ k, j = i + k := ⟨j - i, by omega⟩
  clear hij
  induction k with
  | zero => exact Nat.le_refl _
  | succ k ih => exact Nat.le_trans (ih (by omega)) (h (i + k) (by omega) c h1 h6).2.1
theorem Cm.up (h : Cm s) (e : ex s s') : Cm s' := by
  intro k hk c h1 h6
  rw [e.2.1] at hk ⊢
  obtain ⟨a, b, d⟩ := h k hk c h1 h6
  refine ⟨by rw [e.spq hk]; exact a, by rw [e.spq hk]; exact Nat.le_trans b e.spl, ?_⟩
  by_cases h2 : k + 1 < (s 1).1
  · rw [e.spq h2]
    exact Nat.le_trans d (e.1 _)
  · unfold sp
    rw [e.2.1, if_neg h2]
    exact Nat.le_refl _
theorem Cr.up {c c1 c2 : Nat} {kd : Bool} (h : Cr s c kd c1 c2) (e : ex s s') (hrow : ∀ i, i < (s (tabc c)).1 → (s' (tabc c)).2 i c1 = (s (tabc c)).2 i c1 ∧ (s' (tabc c)).2 i c2 = (s (tabc c)).2 i c2) (hm : Cm s) (h1 : 1 ≤ c) (h6 : c ≤ 6) (hnew : ∀ i, (s (tabc c)).1 ≤ i → i < (s' (tabc c)).1 → rgr s' ((s 1).1 - 1) kd (s' (tabc c)) i c1 c2) : Cr s' c kd c1 c2 := by
  intro k hk i hi1 hi2
  rw [e.2.1] at hk
  rw [e.spq hk] at hi1
  by_cases hold : i < sp s (k + 1) c
  · obtain ⟨a, b, e1, e2, e3⟩ := h k hk i hi1 hold
    have hlt := Nat.lt_of_lt_of_le hold (hm k hk c h1 h6).2.2
    refine ⟨a, b, ?_, ?_, e.rgk hk e3⟩
    · rw [(hrow i hlt).1]; exact e1
    · rw [(hrow i hlt).2]; exact e2
  · by_cases h2 : k + 1 < (s 1).1
    · rw [e.spq h2] at hi2
      exact absurd hi2 hold
    · have hk2 : k = (s 1).1 - 1 := by omega
      subst hk2
      refine hnew i ?_ ?_
      · unfold sp at hold
        rw [if_neg h2] at hold
        omega
      · unfold sp at hi2
        rw [e.2.1, if_neg h2] at hi2
        exact hi2
theorem vok.up {k v : Nat} (h : vok s k v) (e : ex s s') (hk : k < (s 1).1) (hrow : ∀ c, (s' 3).2 v c = (s 3).2 v c) : vok s' k v := by
  obtain ⟨y, h1, h2, h4, h5⟩ := h
  refine ⟨y, h1, by rw [hrow]; exact h2, fun z => ?_, fun z => ?_⟩
  · obtain ⟨a, b, e1, e2, e3⟩ := h4 z
    exact ⟨a, b, by rw [hrow]; exact e1, by rw [hrow]; exact e2, Nat.le_trans e3 (e.1 4)⟩
  · obtain ⟨a, b, e1, e2, e3, e4⟩ := h5 z
    refine ⟨a, b, by rw [hrow]; exact e1, by rw [hrow]; exact e2, Nat.le_trans e3 (e.1 5), fun g hg1 hg2 => ?_⟩
    obtain ⟨a', b', e1', e2', e3'⟩ := e4 g hg1 hg2
    exact ⟨a', b', by rw [e.2.2.2 g 0 (by omega)]; exact e1', by rw [e.2.2.2 g 1 (by omega)]; exact e2', e.rgk hk e3'⟩
/-- rows of VARS from B on, in the last MODULE, are other ones -/
theorem Cv.up {B : Nat} (h : Cv s) (e : ex s s') (hm : Cm s) (hB1 : sp s ((s 1).1 - 1) 2 ≤ B) (hB2 : B ≤ (s 3).1) (hrow : ∀ v c, v < B → (s' 3).2 v c = (s 3).2 v c) (hnew : 1 ≤ (s 1).1 → ∀ v, B ≤ v → v < (s' 3).1 → vok s' ((s 1).1 - 1) v) : Cv s' := by
  intro k hk v hv1 hv2
  rw [e.2.1] at hk
  rw [e.spq hk] at hv1
  by_cases hvB : v < B
  · refine vok.up (h k hk v hv1 ?_) e hk (fun c => hrow v c hvB)
    by_cases h2 : k + 1 < (s 1).1
    · rw [e.spq h2] at hv2
      exact hv2
    · unfold sp
      rw [if_neg h2]
      exact Nat.lt_of_lt_of_le hvB hB2
  · by_cases h2 : k + 1 < (s 1).1
    · rw [e.spq h2] at hv2
      have := hm.mono (c := 2) (by decide) (by decide) (show k + 1 ≤ (s 1).1 - 1 by omega) (by omega)
      omega
    · have hk2 : k = (s 1).1 - 1 := by omega
      subst hk2
      refine hnew (by omega) v (by omega) ?_
      unfold sp at hv2
      rw [e.2.1, if_neg h2] at hv2
      exact hv2
theorem Cf.same (h : Cf s) (h9 : s' 9 = s 9) (h10 : (s 10).1 ≤ (s' 10).1) : Cf s' := by
  intro r hr
  rw [h9] at hr ⊢
  obtain ⟨a, l, e1, e2, e3, e4, e5⟩ := h r hr
  exact ⟨a, l, e1, e2, Nat.le_trans e3 h10, e4, e5⟩
theorem Cl.same (h : Cl s) (h3 : s' 3 = s 3) (h4 : (s 4).1 ≤ (s' 4).1) : Cl s' := by
  unfold Cl
  rw [h3]
  exact Nat.le_trans h h4
/-- nothing of the tables 0 to 10 changes -/
theorem CT.same (h : CT s) (e : ∀ j, j < 11 → s' j = s j) : CT s' := by
  have hs : ∀ k c, 1 ≤ c → c ≤ 6 → sp s' k c = sp s k c := fun k c h1 h6 => by
    unfold sp
    have ht : tabc c < 11 := by
      have : ∀ c, c ≤ 6 → tabc c < 11 := by decide
      exact this c h6
    rw [e 1 (by decide), e _ ht]
  have hrg : ∀ k kd a b, rg s k kd a b → rg s' k kd a b := fun k kd a b hr => by
    unfold rg
    rw [e 0 (by decide), hs k 6 (by decide) (by decide), hs (k + 1) 6 (by decide) (by decide)]
    exact hr
  have hCr : ∀ c kd c1 c2, 1 ≤ c → c ≤ 6 → Cr s c kd c1 c2 → Cr s' c kd c1 c2 := fun c kd c1 c2 h1 h6 hc k hk i hi1 hi2 => by
    rw [e 1 (by decide)] at hk
    rw [hs k c h1 h6] at hi1
    rw [hs (k + 1) c h1 h6] at hi2
    have ht : tabc c < 11 := by
      have : ∀ c, c ≤ 6 → tabc c < 11 := by decide
      exact this c h6
    obtain ⟨a, b, e1, e2, e3⟩ := hc k hk i hi1 hi2
    exact ⟨a, b, by rw [e _ ht]; exact e1, by rw [e _ ht]; exact e2, hrg _ _ _ _ e3⟩
  obtain ⟨h1, h2, ⟨h3, h4, h5⟩, h6, h7, h8⟩ := h
  refine ⟨fun k hk c c1 c6 => ?_, fun p hp => ?_, ⟨hCr _ _ _ _ (by decide) (by decide) h3, hCr _ _ _ _ (by decide) (by decide) h4, hCr _ _ _ _ (by decide) (by decide) h5.1, by unfold Cz; rw [e 1 (by decide)]; exact h5.2⟩, fun k hk v hv1 hv2 => ?_, h7.same (e 9 (by decide)) (by rw [e 10 (by decide)]; exact Nat.le_refl _), h8.same (e 3 (by decide)) (by rw [e 4 (by decide)]; exact Nat.le_refl _)⟩
  · have ht : tabc c < 11 := by
      have : ∀ c, c ≤ 6 → tabc c < 11 := by decide
      exact this c c6
    rw [e 1 (by decide)] at hk ⊢
    rw [hs k c c1 c6, hs (k + 1) c c1 c6, e _ ht]
    exact h1 k hk c c1 c6
  · rw [e 0 (by decide)] at hp ⊢
    exact h2 p hp
  · rw [e 1 (by decide)] at hk
    rw [hs k 2 (by decide) (by decide)] at hv1
    rw [hs (k + 1) 2 (by decide) (by decide)] at hv2
    obtain ⟨y, y1, y2, y4, y5⟩ := h6 k hk v hv1 hv2
    refine ⟨y, y1, by rw [e 3 (by decide)]; exact y2, by rw [e 3 (by decide), e 4 (by decide)]; exact y4, fun z => ?_⟩
    obtain ⟨a, b, e1, e2, e3, e4⟩ := y5 z
    refine ⟨a, b, by rw [e 3 (by decide)]; exact e1, by rw [e 3 (by decide)]; exact e2, by rw [e 5 (by decide)]; exact e3, fun g hg1 hg2 => ?_⟩
    obtain ⟨a', b', f1, f2, f3⟩ := e4 g hg1 hg2
    exact ⟨a', b', by rw [e 5 (by decide)]; exact f1, by rw [e 5 (by decide)]; exact f2, hrg _ _ _ _ f3⟩
end Content
