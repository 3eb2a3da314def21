/-! GRAPH: rows that lead to each other are found together, the last ones first; without the machine -/
def RT (E : Nat → Nat → Prop) (a b : Nat) : Prop := ∀ S : Nat → Prop, S a → (∀ x y, S x → E x y → S y) → S b
/-- a row leads to a row through a set of STATES -/
def EDG (RB : Nat → Nat → Prop) (A : Nat → Prop) (rx : Nat → Nat) (x y : Nat) : Prop := ∃ t, RB x t ∧ A t ∧ rx t = y
/-- a ring with each FAIRNESS in it -/
def FRG (RB : Nat → Nat → Prop) (A : Nat → Prop) (rx : Nat → Nat) (ed : Prop) (nf : Nat) (Fs : Nat → Nat → Prop) (r : Nat) : Prop := ed ∧ (∃ y, EDG RB A rx r y ∧ RT (EDG RB A rx) y r) ∧ ∀ f, f < nf → ∃ x t, RT (EDG RB A rx) r x ∧ RB x t ∧ A t ∧ Fs f t ∧ RT (EDG RB A rx) (rx t) r
/-- a row leads to the goal, or to such a ring -/
def GDR (RB : Nat → Nat → Prop) (A : Nat → Prop) (rx : Nat → Nat) (g0 : Nat → Prop) (ed : Prop) (nf : Nat) (Fs : Nat → Nat → Prop) (r : Nat) : Prop := ∀ S : Nat → Prop, (∀ x t, RB x t → g0 t → S x) → (∀ x, FRG RB A rx ed nf Fs x → S x) → (∀ x y, EDG RB A rx x y → S y → S x) → S r
/-- which row of the path a row of the pile belongs to -/
def OWN (pp : Nat → Nat) (ps i j : Nat) : Prop := j < ps ∧ pp j ≤ i ∧ ∀ j', j' < ps → j < j' → i < pp j'
def ONP (pl : Nat → Nat) (ls x : Nat) : Prop := ∃ i, i < ls ∧ pl i = x
/-- what was found together under one number is no such ring -/
def BDR (RB : Nat → Nat → Prop) (A : Nat → Prop) (rx : Nat → Nat) (ed : Prop) (nf : Nat) (Fs : Nat → Nat → Prop) (St : Nat → Prop) (rk : Nat → Nat) (k : Nat) : Prop := ¬ ed ∨ (∃ f, f < nf ∧ ∀ x t, St x → rk x = k → RB x t → A t → rk (rx t) = k → ¬ Fs f t) ∨ ∀ x t, St x → rk x = k → RB x t → A t → ¬ rk (rx t) = k
def TJ (RB : Nat → Nat → Prop) (A : Nat → Prop) (rx : Nat → Nat) (g0 : Nat → Prop) (ed : Prop) (nf : Nat) (Fs : Nat → Nat → Prop) (R : Nat) (un pi go : Nat → Prop) (ix lw cu ld pa pl pp : Nat → Nat) (en ps ls : Nat) (St Gd : Nat → Prop) (rk : Nat → Nat) (nr xr : Nat) : Prop :=
  ((∀ t, pi t ↔ A t ∧ ONP pl ls (rx t)) ∧ (∀ t, un t ↔ A t ∧ ¬ St (rx t) ∧ ¬ ONP pl ls (rx t)) ∧ (∀ t, go t ↔ g0 t ∨ (A t ∧ St (rx t) ∧ Gd (rx t)))) ∧
  ((∀ i, i < ls → pl i < R ∧ ¬ St (pl i) ∧ 1 ≤ ix (pl i) ∧ ix (pl i) ≤ en) ∧ (∀ i i', i < i' → i' < ls → ix (pl i) < ix (pl i'))) ∧
  ((∀ j, j < ps → pp j < ls ∧ pl (pp j) = pa j) ∧ (∀ j j', j < j' → j' < ps → pp j < pp j') ∧ (0 < ls → 0 < ps ∧ pp 0 = 0)) ∧
  ((∀ i j, i < ls → OWN pp ps i j → RT (EDG RB A rx) (pa j) (pl i) ∧ RT (EDG RB A rx) (pl i) (pa j)) ∧ (∀ j, j + 1 < ps → RT (EDG RB A rx) (pa j) (pa (j + 1)))) ∧
  ((∀ j, j < ps → lw (pa j) ≤ ix (pa j) ∧ ∃ i, i < ls ∧ ix (pl i) = lw (pa j) ∧ RT (EDG RB A rx) (pa j) (pl i)) ∧ (∀ i j t, i < ls → OWN pp ps i j → RB (pl i) t → A t → un t ∨ St (rx t) ∨ ∃ i', i' < ls ∧ pl i' = rx t ∧ lw (pa j) ≤ ix (pl i')) ∧ (∀ i j t, i < ls → OWN pp ps i j → RB (pl i) t → un t → i = pp j ∧ (cu (pa j) ≤ t ∨ rx t = xr))) ∧
  ((∀ r t, St r → RB r t → A t → St (rx t) ∧ rk (rx t) ≤ rk r) ∧ (∀ r, St r → Gd r → GDR RB A rx g0 ed nf Fs r) ∧ (∀ r, St r → ¬ Gd r → (∀ t, RB r t → ¬ go t) ∧ BDR RB A rx ed nf Fs St rk (rk r)) ∧ (∀ r, St r → r < R ∧ rk r < nr)) ∧
  ((∀ j, j < ps → ld (pa j) % 2 = 1 → GDR RB A rx g0 ed nf Fs (pa j)) ∧ (∀ i j t, i < ls → OWN pp ps i j → RB (pl i) t → go t → ∃ j', j ≤ j' ∧ j' < ps ∧ ld (pa j') % 2 = 1) ∧ (∀ i, i < ls → ld (pl i) < 4 ∧ (2 ≤ ld (pl i) ↔ ∃ t, A t ∧ rx t = pl i ∧ RB (pl i) t))) ∧
  ∃ er : Nat → Nat, (∀ k, k < en → er k < R ∧ (St (er k) ∨ ONP pl ls (er k))) ∧ ∀ k k', k < en → k' < en → er k = er k' → k = k'
section Tarjan
variable {E : Nat → Nat → Prop} {RB Fs : Nat → Nat → Prop} {A g0 un pi go St Gd : Nat → Prop} {rx ix lw cu ld pa pl pp rk : Nat → Nat} {ed : Prop} {nf R en ps ls nr xr a b c r p k lo ldv i j : Nat}
theorem RT.refl (a : Nat) : RT E a a := fun _ h _ => h
theorem RT.trans (h : RT E a b) (h' : RT E b c) : RT E a c := fun S ha hs => h' S (h S ha hs) hs
theorem RT.one (h : E a b) : RT E a b := fun S ha hs => hs a b ha h
theorem GDR.back (h : GDR RB A rx g0 ed nf Fs b) (hr : RT (EDG RB A rx) a b) : GDR RB A rx g0 ed nf Fs a := by
  refine hr (fun x => GDR RB A rx g0 ed nf Fs x → GDR RB A rx g0 ed nf Fs a) (fun z => z) (fun x y hx he hy => hx ?_) h
  exact fun S s1 s2 s3 => s3 x y he (hy S s1 s2 s3)
theorem GDR.lead {t : Nat} (h : RB r t) (hg : g0 t) : GDR RB A rx g0 ed nf Fs r := fun S s1 _ _ => s1 r t h hg
theorem GDR.ring (h : FRG RB A rx ed nf Fs r) : GDR RB A rx g0 ed nf Fs r := fun S _ s2 _ => s2 r h
/-- nothing is entered yet -/
theorem TJ.init (hg : ∀ t, go t ↔ g0 t) (hu : ∀ t, un t ↔ A t) (hp : ∀ t, ¬ pi t) : TJ RB A rx g0 ed nf Fs R un pi go ix lw cu ld pa pl pp 0 0 0 (fun _ => False) (fun _ => False) rk 0 xr := by
  have no : ∀ x, ¬ ONP pl 0 x := fun x ⟨i, hi, _⟩ => absurd hi (Nat.not_lt_zero i)
  refine ⟨⟨fun t => ⟨fun h => absurd h (hp t), fun h => absurd h.2 (no _)⟩, fun t => ⟨fun h => ⟨(hu t).mp h, fun z => z, no _⟩, fun h => (hu t).mpr h.1⟩, fun t => ⟨fun h => Or.inl ((hg t).mp h), fun h => ?_⟩⟩, ⟨fun i hi => absurd hi (Nat.not_lt_zero i), fun i j _ hj => absurd hj (Nat.not_lt_zero j)⟩, ⟨fun i hi => absurd hi (Nat.not_lt_zero i), fun i j _ hj => absurd hj (Nat.not_lt_zero j), fun h => absurd h (Nat.lt_irrefl 0)⟩, ⟨fun i j hi => absurd hi (Nat.not_lt_zero i), fun j hj => absurd hj (Nat.not_lt_zero _)⟩, ⟨fun j hj => absurd hj (Nat.not_lt_zero j), fun i j t hi => absurd hi (Nat.not_lt_zero i), fun i j t hi => absurd hi (Nat.not_lt_zero i)⟩, ⟨fun r t h => absurd h id, fun r h => absurd h id, fun r h => absurd h id, fun r h => absurd h id⟩, ⟨fun j hj => absurd hj (Nat.not_lt_zero j), fun i j t hi => absurd hi (Nat.not_lt_zero i), fun i hi => absurd hi (Nat.not_lt_zero i)⟩, fun x => x, fun k hk => absurd hk (Nat.not_lt_zero k), fun k k' hk => absurd hk (Nat.not_lt_zero k)⟩
  rcases h with h | h
  · exact (hg t).mpr h
  · exact absurd h.2.1 id
/-- no row is entered twice -/
theorem TJ.room (h : TJ RB A rx g0 ed nf Fs R un pi go ix lw cu ld pa pl pp en ps ls St Gd rk nr xr) : en ≤ R ∧ ls ≤ R ∧ ps ≤ ls := by
  obtain ⟨-, ⟨p1, p2⟩, ⟨q1, q2, -⟩, -, -, -, -, er, e1, e2⟩ := h
  refine ⟨pig_le R en er (fun k hk => (e1 k hk).1) e2, pig_le R ls pl (fun i hi => (p1 i hi).1) (fun i j hi hj he => ?_), pig_le ls ps pp (fun j hj => (q1 j hj).1) (fun i j hi hj he => ?_)⟩
  · rcases Nat.lt_or_ge i j with y | y
    · have := p2 i j y hj
      rw [he] at this
      omega
    · rcases Nat.lt_or_ge j i with z | z
      · have := p2 j i z hi
        rw [he] at this
        omega
      · omega
  · rcases Nat.lt_or_ge i j with y | y
    · have := q2 i j y hj
      omega
    · rcases Nat.lt_or_ge j i with z | z
      · have := q2 j i z hi
        omega
      · omega
theorem TJ.pinj (h : TJ RB A rx g0 ed nf Fs R un pi go ix lw cu ld pa pl pp en ps ls St Gd rk nr xr) (hi : i < ls) (hj : j < ls) (he : pl i = pl j) : i = j := by
  obtain ⟨-, ⟨-, p2⟩, -⟩ := h
  rcases Nat.lt_or_ge i j with y | y
  · have := p2 i j y hj
    rw [he] at this
    omega
  · rcases Nat.lt_or_ge j i with z | z
    · have := p2 j i z hi
      rw [he] at this
      omega
    · omega
/-- at the end -/
theorem TJ.fin (h : TJ RB A rx g0 ed nf Fs R un pi go ix lw cu ld pa pl pp en ps 0 St Gd rk nr xr) (hu : ∀ t, ¬ un t) (t : Nat) : go t ↔ g0 t ∨ (A t ∧ GDR RB A rx g0 ed nf Fs (rx t)) := by
  obtain ⟨⟨-, s2, s3⟩, -, -, -, -, ⟨c1, c2, c3, -⟩, -⟩ := h
  rw [s3 t]
  constructor
  · rintro (y | ⟨y1, y2, y3⟩)
    · exact Or.inl y
    · exact Or.inr ⟨y1, c2 _ y2 y3⟩
  · rintro (y | ⟨y1, y2⟩)
    · exact Or.inl y
    refine Or.inr ⟨y1, ?_⟩
    have hs : St (rx t) := Classical.byContradiction (fun z => hu t ((s2 t).mpr ⟨y1, z, fun ⟨i, hi, _⟩ => absurd hi (Nat.not_lt_zero i)⟩))
    refine ⟨hs, Classical.byContradiction (fun z => ?_)⟩
    refine y2 (fun x => ¬ (St x ∧ ¬ Gd x)) ?_ ?_ ?_ ⟨hs, z⟩
    · rintro x u hx hg ⟨w1, w2⟩
      exact (c3 x w1 w2).1 u hx ((s3 u).mpr (Or.inl hg))
    · rintro x ⟨f1, ⟨y, ⟨u, hu1, hu2, hu3⟩, f3⟩, f4⟩ ⟨w1, w2⟩
      have key : ∀ a b, St a → RT (EDG RB A rx) a b → St b ∧ rk b ≤ rk a := fun a b ha hr => by
        refine hr (fun z => St z ∧ rk z ≤ rk a) ⟨ha, Nat.le_refl _⟩ (fun x y hx he => ?_)
        obtain ⟨v, v1, v2, rfl⟩ := he
        have := c1 x v hx.1 v1 v2
        exact ⟨this.1, Nat.le_trans this.2 hx.2⟩
      have hxu := c1 x u w1 hu1 hu2
      have hback := (key (rx u) x hxu.1 (by rw [hu3]; exact f3)).2
      rcases (c3 x w1 w2).2 with b1 | ⟨f, b2, b3⟩ | b4
      · exact b1 f1
      · obtain ⟨x', v, g1, g2, g3, g4, g5⟩ := f4 f b2
        obtain ⟨k1, k2⟩ := key x x' w1 g1
        obtain ⟨k3, k4⟩ := c1 x' v k1 g2 g3
        have k5 := (key (rx v) x k3 g5).2
        exact b3 x' v k1 (by omega) g2 g3 (by omega) g4
      · exact b4 x u w1 rfl hu1 hu2 (by omega)
    · rintro x y ⟨u, hu1, hu2, rfl⟩ hy ⟨w1, w2⟩
      refine hy ⟨(c1 x u w1 hu1 hu2).1, fun hg => ?_⟩
      exact (c3 x w1 w2).1 u hu1 ((s3 u).mpr (Or.inr ⟨hu2, (c1 x u w1 hu1 hu2).1, hg⟩))
theorem own_top (q2 : ∀ j j', j < j' → j' < p + 1 → pp j < pp j') (hi : pp p ≤ i) (h : OWN pp (p + 1) i j) : j = p := by
  obtain ⟨h1, -, h3⟩ := h
  rcases Nat.lt_or_ge j p with y | y
  · have := h3 p (Nat.lt_succ_self p) y
    omega
  · omega
theorem own_at (q2 : ∀ j j', j < j' → j' < ps → pp j < pp j') (hj : j < ps) : OWN pp ps (pp j) j := ⟨hj, Nat.le_refl _, fun j' h1 h2 => q2 j j' h2 h1⟩
end Tarjan
