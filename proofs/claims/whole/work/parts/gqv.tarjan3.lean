/-! GRAPH: what was found together is settled; without the machine -/
/-- the end of the pile, from a place on -/
def SCC (pl : Nat → Nat) (k ls x : Nat) : Prop := ∃ i, k ≤ i ∧ i < ls ∧ pl i = x
section Tarjan3
variable {RB Fs : Nat → Nat → Prop} {A g0 un pi go un' pi' go' St Gd : Nat → Prop} {rx ix lw cu ld pa pl pp rk lw' ld' : Nat → Nat} {ed fine : Prop} {nf R en ps ls nr xr r p k lo ldv t0 : Nat}
/-- what the rows at the end of the pile lead to is there too, or settled -/
theorem TJ.shut (h : TJ RB A rx g0 ed nf Fs R un pi go ix lw cu ld pa pl pp en (p + 1) ls St Gd rk nr xr) (hn : ∀ t, RB (pa p) t → ¬ un t) (heq : lw (pa p) = ix (pa p)) {i t : Nat} (hi1 : pp p ≤ i) (hi2 : i < ls) (hb : RB (pl i) t) (ha : A t) : St (rx t) ∨ SCC pl (pp p) ls (rx t) := by
  obtain ⟨-, ⟨p1, p2⟩, ⟨q1, q2, -⟩, -, ⟨-, l2, l3⟩, -⟩ := h
  have ho : OWN pp (p + 1) i p := ⟨by omega, hi1, fun j' h1 h2 => by omega⟩
  have hpp := q1 p (Nat.lt_succ_self p)
  rcases l2 i p t hi2 ho hb ha with y | y | ⟨i', y1, y2, y3⟩
  · exfalso
    have z := (l3 i p t hi2 ho hb y).1
    rw [z, hpp.2] at hb
    exact hn t hb y
  · exact Or.inl y
  · refine Or.inr ⟨i', ?_, y1, y2⟩
    rcases Nat.lt_or_ge i' (pp p) with z | z
    · have := p2 i' (pp p) z hpp.1
      rw [hpp.2] at this
      omega
    · exact z
/-- they lead to each other -/
theorem TJ.ring (h : TJ RB A rx g0 ed nf Fs R un pi go ix lw cu ld pa pl pp en (p + 1) ls St Gd rk nr xr) {x : Nat} (hx : SCC pl (pp p) ls x) : RT (EDG RB A rx) (pa p) x ∧ RT (EDG RB A rx) x (pa p) := by
  obtain ⟨i, h1, h2, rfl⟩ := hx
  exact h.2.2.2.1.1 i p h2 ⟨by omega, h1, fun j' h1 h2 => by omega⟩
theorem TJ.settle (h : TJ RB A rx g0 ed nf Fs R un pi go ix lw cu ld pa pl pp en (p + 1) ls St Gd rk nr xr) (hn : ∀ t, RB (pa p) t → ¬ un t) (heq : lw (pa p) = ix (pa p)) (hf1 : fine → GDR RB A rx g0 ed nf Fs (pa p)) (hf0 : ld (pa p) % 2 = 1 → fine)
    (hf2 : ¬ fine → ¬ ed ∨ (∃ f, f < nf ∧ ∀ i t, pp p ≤ i → i < ls → RB (pl i) t → A t → SCC pl (pp p) ls (rx t) → ¬ Fs f t) ∨ ∀ i t, pp p ≤ i → i < ls → RB (pl i) t → A t → ¬ SCC pl (pp p) ls (rx t))
    (hpi : ∀ t, pi' t ↔ pi t ∧ ¬ SCC pl (pp p) ls (rx t)) (hgo : ∀ t, go' t ↔ go t ∨ (fine ∧ A t ∧ SCC pl (pp p) ls (rx t))) (hlw : ∀ j, j < p → lw' (pa j) = lw (pa j)) (hld1 : ∀ j, j < p → (ld' (pa j) % 2 = 1 ↔ ld (pa j) % 2 = 1 ∨ (j + 1 = p ∧ fine))) (hld2 : ∀ i, i < pp p → ld' (pl i) / 2 = ld (pl i) / 2) :
    ∃ (St' Gd' : Nat → Prop) (rk' : Nat → Nat), TJ RB A rx g0 ed nf Fs R un pi' go' ix lw' cu ld' pa pl pp en p (pp p) St' Gd' rk' (nr + 1) xr := by
  replace hf2 := HID.mk hf2
  have hshut := fun i t (hi1 : pp p ≤ i) (hi2 : i < ls) (hb : RB (pl i) t) (ha : A t) => h.shut hn heq hi1 hi2 hb ha
  have hring := fun x (hx : SCC pl (pp p) ls x) => h.ring hx
  have hpj := fun i j (hi : i < ls) (hj : j < ls) (he : pl i = pl j) => h.pinj hi hj he
  obtain ⟨⟨s1, s2, s3⟩, ⟨p1, p2⟩, ⟨q1, q2, q3⟩, ⟨r1, r2⟩, ⟨l1, l2, l3⟩, ⟨c1, c2, c3, c4⟩, ⟨d1, d2, d3⟩, er, e1, e2⟩ := h
  have hpp := q1 p (Nat.lt_succ_self p)
  have hSn : ∀ x, SCC pl (pp p) ls x → ¬ St x := fun x ⟨i, h1, h2, h3⟩ z => (p1 i h2).2.1 (by rw [h3]; exact z)
  have hlow : ∀ i, i < pp p → ¬ SCC pl (pp p) ls (pl i) := fun i hi ⟨i', h1, h2, h3⟩ => by
    have := hpj i' i h2 (by omega) h3
    omega
  have hon : ∀ x, ONP pl ls x ↔ ONP pl (pp p) x ∨ SCC pl (pp p) ls x := fun x => by
    constructor
    · rintro ⟨i, h1, h2⟩
      rcases Nat.lt_or_ge i (pp p) with y | y
      · exact Or.inl ⟨i, y, h2⟩
      · exact Or.inr ⟨i, y, h1, h2⟩
    · rintro (⟨i, h1, h2⟩ | ⟨i, h1, h2, h3⟩)
      · exact ⟨i, by omega, h2⟩
      · exact ⟨i, h2, h3⟩
  have hon2 : ∀ x, ONP pl (pp p) x → ¬ SCC pl (pp p) ls x := fun x ⟨i, h1, h2⟩ z => hlow i h1 (by rw [h2]; exact z)
  obtain ⟨RK, hRK⟩ : ∃ f : Nat → Nat, ∀ x, (SCC pl (pp p) ls x → f x = nr) ∧ (¬ SCC pl (pp p) ls x → f x = rk x) := by
    refine ⟨fun x => @ite _ (SCC pl (pp p) ls x) (Classical.propDecidable _) nr (rk x), fun x => ⟨fun z => if_pos z, fun z => if_neg z⟩⟩
  have hgd : ∀ x, SCC pl (pp p) ls x → fine → GDR RB A rx g0 ed nf Fs x := fun x hx hf => (hf1 hf).back (hring x hx).2
  have hown : ∀ i j, OWN pp p i j → i < pp p → OWN pp (p + 1) i j := fun i j ⟨o1, o2, o3⟩ hi => ⟨by omega, o2, fun j' h1 h2 => by
    rcases Nat.lt_or_ge j' p with y | y
    · exact o3 j' y h2
    · rw [show j' = p by omega]; exact hi⟩
  refine ⟨fun x => St x ∨ SCC pl (pp p) ls x, fun x => (St x ∧ Gd x) ∨ (fine ∧ SCC pl (pp p) ls x), RK, ⟨fun t => ?_, fun t => ?_, fun t => ?_⟩, ⟨fun i hi => ?_, fun i i' h1 h2 => p2 i i' h1 (by omega)⟩, ⟨fun j hj => ⟨q2 j p hj (by omega), (q1 j (by omega)).2⟩, fun j j' h1 h2 => q2 j j' h1 (by omega), fun h0 => ?_⟩, ⟨fun i j hi ho => r1 i j (by omega) (hown i j ho hi), fun j hj => r2 j (by omega)⟩, ⟨fun j hj => ?_, fun i j t hi ho hb ha => ?_, fun i j t hi ho hb ht => l3 i j t (by omega) (hown i j ho hi) hb ht⟩, ⟨fun x t hx hb ha => ?_, fun x hx hg => ?_, fun x hx hg => ?_, fun x hx => ?_⟩, ⟨fun j hj hl => ?_, fun i j t hi ho hb hg => ?_, fun i hi => ?_⟩, er, fun k hk => ?_, e2⟩
  · rw [hpi t, s1 t, hon]
    constructor
    · rintro ⟨⟨y1, y2⟩, y3⟩
      exact ⟨y1, y2.resolve_right y3⟩
    · rintro ⟨y1, y2⟩
      exact ⟨⟨y1, Or.inl y2⟩, hon2 _ y2⟩
  · rw [s2 t, hon]
    constructor
    · rintro ⟨y1, y2, y3⟩
      exact ⟨y1, fun z => z.elim y2 (fun w => y3 (Or.inr w)), fun z => y3 (Or.inl z)⟩
    · rintro ⟨y1, y2, y3⟩
      exact ⟨y1, fun z => y2 (Or.inl z), fun z => z.elim y3 (fun w => y2 (Or.inr w))⟩
  · rw [hgo t, s3 t]
    constructor
    · rintro ((y | ⟨y1, y2, y3⟩) | ⟨y1, y2, y3⟩)
      · exact Or.inl y
      · exact Or.inr ⟨y1, Or.inl y2, Or.inl ⟨y2, y3⟩⟩
      · exact Or.inr ⟨y2, Or.inr y3, Or.inr ⟨y1, y3⟩⟩
    · rintro (y | ⟨y1, y2, ⟨y3, y4⟩ | ⟨y3, y4⟩⟩)
      · exact Or.inl (Or.inl y)
      · exact Or.inl (Or.inr ⟨y1, y3, y4⟩)
      · exact Or.inr ⟨y3, y1, y4⟩
  · obtain ⟨y1, y2, y3, y4⟩ := p1 i (by omega)
    exact ⟨y1, fun z => z.elim y2 (hlow i hi), y3, y4⟩
  · rcases Nat.eq_zero_or_pos p with y | y
    · rw [y] at h0
      rw [(q3 (by omega)).2] at h0
      exact absurd h0 (Nat.lt_irrefl 0)
    · exact ⟨y, (q3 (by omega)).2⟩
  · obtain ⟨y1, i, y2, y3, y4⟩ := l1 j (by omega)
    rw [hlw j hj]
    refine ⟨y1, i, ?_, y3, y4⟩
    rcases Nat.lt_or_ge i (pp p) with z | z
    · exact z
    · exfalso
      have z1 := q1 j (by omega)
      have z2 := p2 (pp j) (pp p) (q2 j p hj (by omega)) hpp.1
      rw [z1.2] at z2
      rcases Nat.lt_or_ge (pp p) i with w | w
      · have := p2 (pp p) i w y2
        omega
      · rw [show i = pp p by omega] at y3
        omega
  · rw [hlw j ho.1]
    rcases l2 i j t (by omega) (hown i j ho hi) hb ha with z | z | ⟨i', z1, z2, z3⟩
    · exact Or.inl z
    · exact Or.inr (Or.inl (Or.inl z))
    · rcases Nat.lt_or_ge i' (pp p) with w | w
      · exact Or.inr (Or.inr ⟨i', w, z2, z3⟩)
      · exact Or.inr (Or.inl (Or.inr ⟨i', w, z1, z2⟩))
  · rcases hx with y | ⟨i, i1, i2, rfl⟩
    · obtain ⟨z1, z2⟩ := c1 x t y hb ha
      refine ⟨Or.inl z1, ?_⟩
      rw [(hRK (rx t)).2 (fun w => hSn _ w z1), (hRK x).2 (fun w => hSn _ w y)]
      exact z2
    · have hrk := (hRK (pl i)).1 ⟨i, i1, i2, rfl⟩
      rcases hshut i t i1 i2 hb ha with z | z
      · refine ⟨Or.inl z, ?_⟩
        rw [hrk, (hRK (rx t)).2 (fun w => hSn _ w z)]
        exact Nat.le_of_lt (c4 _ z).2
      · exact ⟨Or.inr z, by rw [hrk, (hRK (rx t)).1 z]; exact Nat.le_refl _⟩
  · rcases hg with ⟨y1, y2⟩ | ⟨y1, y2⟩
    · exact c2 x y1 y2
    · exact hgd x y2 y1
  · by_cases hin : SCC pl (pp p) ls x
    · have hnf : ¬ fine := fun z => hg (Or.inr ⟨z, hin⟩)
      obtain ⟨i, i1, i2, rfl⟩ := hin
      have ho : OWN pp (p + 1) i p := ⟨by omega, i1, fun j' h1 h2 => by omega⟩
      have hrk := (hRK (pl i)).1 ⟨i, i1, i2, rfl⟩
      refine ⟨fun t hb hg' => ?_, ?_⟩
      · rcases (hgo t).mp hg' with z | z
        · obtain ⟨j', z1, z2, z3⟩ := d2 i p t i2 ho hb z
          rw [show j' = p by omega] at z3
          exact hnf (hf0 z3)
        · exact hnf z.1
      · have hback : ∀ y, (St y ∨ SCC pl (pp p) ls y) → RK y = nr → SCC pl (pp p) ls y := fun y hy hk => by
          rcases hy with z | z
          · exfalso
            rw [(hRK y).2 (fun w => hSn _ w z)] at hk
            have := (c4 y z).2
            omega
          · exact z
        have hback2 : ∀ y t, SCC pl (pp p) ls y → RB y t → A t → RK (rx t) = nr → SCC pl (pp p) ls (rx t) := fun y t ⟨i', a1, a2, a3⟩ hb ha hk => by
          rw [← a3] at hb
          rcases hshut i' t a1 a2 hb ha with z | z
          · exact hback _ (Or.inl z) hk
          · exact z
        rw [hrk]
        rcases hf2.out hnf with z | ⟨f, z1, z2⟩ | z
        · exact Or.inl z
        · refine Or.inr (Or.inl ⟨f, z1, fun y t hy hk hb ha hk2 => ?_⟩)
          have w := hback y hy hk
          have w2 := hback2 y t w hb ha hk2
          obtain ⟨i', a1, a2, a3⟩ := w
          rw [← a3] at hb
          exact z2 i' t a1 a2 hb ha w2
        · refine Or.inr (Or.inr (fun y t hy hk hb ha hk2 => ?_))
          have w := hback y hy hk
          have w2 := hback2 y t w hb ha hk2
          obtain ⟨i', a1, a2, a3⟩ := w
          rw [← a3] at hb
          exact z i' t a1 a2 hb ha w2
    · have hx : St x := hx.resolve_right hin
      have hng : ¬ Gd x := fun z => hg (Or.inl ⟨hx, z⟩)
      obtain ⟨y1, y2⟩ := c3 x hx hng
      have hrk := (hRK x).2 hin
      refine ⟨fun t hb hg' => ?_, ?_⟩
      · rcases (hgo t).mp hg' with z | z
        · exact y1 t hb z
        · exact hSn _ z.2.2 (c1 x t hx hb z.2.1).1
      · have hback : ∀ y, (St y ∨ SCC pl (pp p) ls y) → RK y = rk x → St y ∧ rk y = rk x := fun y hy hk => by
          rcases hy with z | z
          · rw [(hRK y).2 (fun w => hSn _ w z)] at hk
            exact ⟨z, hk⟩
          · exfalso
            rw [(hRK y).1 z] at hk
            have := (c4 x hx).2
            omega
        rw [hrk]
        rcases y2 with z | ⟨f, z1, z2⟩ | z
        · exact Or.inl z
        · refine Or.inr (Or.inl ⟨f, z1, fun y t hy hk hb ha hk2 => ?_⟩)
          obtain ⟨w1, w2⟩ := hback y hy hk
          exact z2 y t w1 w2 hb ha (hback _ (Or.inl (c1 y t w1 hb ha).1) hk2).2
        · refine Or.inr (Or.inr (fun y t hy hk hb ha hk2 => ?_))
          obtain ⟨w1, w2⟩ := hback y hy hk
          exact z y t w1 w2 hb ha (hback _ (Or.inl (c1 y t w1 hb ha).1) hk2).2
  · rcases hx with y | ⟨i, i1, i2, rfl⟩
    · refine ⟨(c4 x y).1, ?_⟩
      rw [(hRK x).2 (fun w => hSn _ w y)]
      have := (c4 x y).2
      omega
    · refine ⟨(p1 i i2).1, ?_⟩
      rw [(hRK (pl i)).1 ⟨i, i1, i2, rfl⟩]
      omega
  · rcases (hld1 j hj).mp hl with z | ⟨z1, z2⟩
    · exact d1 j (by omega) z
    · have := r2 j (by omega)
      rw [z1] at this
      exact (hf1 z2).back this
  · have hfl : fine → ∃ j', j ≤ j' ∧ j' < p ∧ ld' (pa j') % 2 = 1 := fun hf => by
      have := ho.1
      exact ⟨p - 1, by omega, by omega, (hld1 (p - 1) (by omega)).mpr (Or.inr ⟨by omega, hf⟩)⟩
    rcases (hgo t).mp hg with z | z
    · obtain ⟨j', z1, z2, z3⟩ := d2 i j t (by omega) (hown i j ho hi) hb z
      rcases Nat.lt_or_ge j' p with w | w
      · exact ⟨j', z1, w, (hld1 j' w).mpr (Or.inl z3)⟩
      · rw [show j' = p by omega] at z3
        exact hfl (hf0 z3)
    · exact hfl z.1
  · obtain ⟨y1, y2⟩ := d3 i (by omega)
    have := hld2 i hi
    exact ⟨by omega, ⟨fun z => y2.mp (by omega), fun z => by have := y2.mpr z; omega⟩⟩
  · obtain ⟨y1, y2⟩ := e1 k hk
    refine ⟨y1, ?_⟩
    rcases y2 with z | z
    · exact Or.inl (Or.inl z)
    · rcases (hon _).mp z with w | w
      · exact Or.inr w
      · exact Or.inl (Or.inr w)
end Tarjan3
