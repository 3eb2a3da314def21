/-! GRAPH: a row is entered, left, settled; without the machine -/
section Tarjan2
variable {RB Fs : Nat → Nat → Prop} {A g0 un pi go un' pi' go' St Gd : Nat → Prop} {rx ix lw cu ld pa pl pp rk : Nat → Nat} {ed : Prop} {nf R en ps ls nr xr xr2 r p k lo ldv t0 : Nat}
theorem TJ.enter (h : TJ RB A rx g0 ed nf Fs R un pi go ix lw cu ld pa pl pp en ps ls St Gd rk nr xr) (hxr : ∀ t, un t → rx t = xr → rx t = r) (hu : un t0) (hr : rx t0 = r) (hR : r < R) (he : ∀ j, j + 1 = ps → RT (EDG RB A rx) (pa j) r)
    (hun : ∀ t, un' t ↔ un t ∧ ¬ rx t = r) (hpi : ∀ t, pi' t ↔ pi t ∨ (A t ∧ rx t = r)) (hld : ldv < 4) (hl1 : ldv % 2 = 1 ↔ ∃ t, RB r t ∧ go t) (hl2 : 2 ≤ ldv ↔ ∃ t, A t ∧ rx t = r ∧ RB r t) (hlo : lo ≤ en + 1)
    (hmin : ∀ t, RB r t → pi' t → lo ≤ (if rx t = r then en + 1 else ix (rx t))) (hat : lo = en + 1 ∨ ∃ t, RB r t ∧ pi' t ∧ (if rx t = r then en + 1 else ix (rx t)) = lo) :
    TJ RB A rx g0 ed nf Fs R un' pi' go (fun x => if x = r then en + 1 else ix x) (fun x => if x = r then lo else lw x) (fun x => if x = r then 0 else cu x) (fun x => if x = r then ldv else ld x) (fun j => if j = ps then r else pa j) (fun i => if i = ls then r else pl i) (fun j => if j = ps then ls else pp j) (en + 1) (ps + 1) (ls + 1) St Gd rk nr xr2 := by
  replace hl1 := HID.mk hl1
  replace hl2 := HID.mk hl2
  replace hat := HID.mk hat
  obtain ⟨⟨s1, s2, s3⟩, ⟨p1, p2⟩, ⟨q1, q2, q3⟩, ⟨r1, r2⟩, ⟨l1, l2, l3⟩, ⟨c1, c2, c3, c4⟩, ⟨d1, d2, d3⟩, er, e1, e2⟩ := h
  obtain ⟨hA0, hS0, hN0⟩ := (s2 t0).mp hu
  rw [hr] at hS0 hN0
  have hpn : ∀ i, i < ls → ¬ pl i = r := fun i hi z => hN0 ⟨i, hi, z⟩
  have han : ∀ j, j < ps → ¬ pa j = r := fun j hj z => hpn _ (q1 j hj).1 ((q1 j hj).2.trans z)
  obtain ⟨PL, hPL⟩ : ∃ y, y = (fun i => if i = ls then r else pl i) := ⟨_, rfl⟩
  obtain ⟨PA, hPA⟩ : ∃ y, y = (fun j => if j = ps then r else pa j) := ⟨_, rfl⟩
  obtain ⟨PP, hPP⟩ : ∃ y, y = (fun j => if j = ps then ls else pp j) := ⟨_, rfl⟩
  obtain ⟨IX, hIX⟩ : ∃ y, y = (fun x => if x = r then en + 1 else ix x) := ⟨_, rfl⟩
  obtain ⟨LW, hLW⟩ : ∃ y, y = (fun x => if x = r then lo else lw x) := ⟨_, rfl⟩
  obtain ⟨CU, hCU⟩ : ∃ y, y = (fun x => if x = r then 0 else cu x) := ⟨_, rfl⟩
  obtain ⟨LD, hLD⟩ : ∃ y, y = (fun x => if x = r then ldv else ld x) := ⟨_, rfl⟩
  rw [← hPL, ← hPA, ← hPP, ← hIX, ← hLW, ← hCU, ← hLD]
  have PLo : ∀ i, i < ls → PL i = pl i := fun i hi => by rw [hPL]; exact if_neg (by omega)
  have PLn : PL ls = r := by rw [hPL]; exact if_pos rfl
  have PAo : ∀ j, j < ps → PA j = pa j := fun j hj => by rw [hPA]; exact if_neg (by omega)
  have PAn : PA ps = r := by rw [hPA]; exact if_pos rfl
  have PPo : ∀ j, j < ps → PP j = pp j := fun j hj => by rw [hPP]; exact if_neg (by omega)
  have PPn : PP ps = ls := by rw [hPP]; exact if_pos rfl
  have IXo : ∀ x, ¬ x = r → IX x = ix x := fun x hx => by rw [hIX]; exact if_neg hx
  have IXn : IX r = en + 1 := by rw [hIX]; exact if_pos rfl
  have LWo : ∀ x, ¬ x = r → LW x = lw x := fun x hx => by rw [hLW]; exact if_neg hx
  have LWn : LW r = lo := by rw [hLW]; exact if_pos rfl
  have CUo : ∀ x, ¬ x = r → CU x = cu x := fun x hx => by rw [hCU]; exact if_neg hx
  have CUn : CU r = 0 := by rw [hCU]; exact if_pos rfl
  have LDo : ∀ x, ¬ x = r → LD x = ld x := fun x hx => by rw [hLD]; exact if_neg hx
  have LDn : LD r = ldv := by rw [hLD]; exact if_pos rfl
  have IXe : ∀ x, (if x = r then en + 1 else ix x) = IX x := fun x => by rw [hIX]
  clear hPL hPA hPP hIX hLW hCU hLD
  have hon : ∀ x, ONP PL (ls + 1) x ↔ ONP pl ls x ∨ x = r := fun x => by
    constructor
    · rintro ⟨i, hi, z⟩
      rcases Nat.lt_or_ge i ls with y | y
      · exact Or.inl ⟨i, y, (PLo i y).symm.trans z⟩
      · rw [show i = ls by omega, PLn] at z
        exact Or.inr z.symm
    · rintro (⟨i, hi, z⟩ | z)
      · exact ⟨i, by omega, (PLo i hi).trans z⟩
      · exact ⟨ls, by omega, PLn.trans z.symm⟩
  have hown : ∀ i j, i < ls + 1 → OWN PP (ps + 1) i j → (i < ls ∧ OWN pp ps i j) ∨ (i = ls ∧ j = ps) := fun i j hi ⟨o1, o2, o3⟩ => by
    rcases Nat.lt_or_ge i ls with y | y
    · refine Or.inl ⟨y, ?_⟩
      have hj : j < ps := by
        rcases Nat.lt_or_ge j ps with z | z
        · exact z
        · rw [show j = ps by omega, PPn] at o2
          omega
      refine ⟨hj, by rw [PPo j hj] at o2; exact o2, fun j' hj' hlt => ?_⟩
      have := o3 j' (by omega) hlt
      rw [PPo j' hj'] at this
      exact this
    · refine Or.inr ⟨by omega, ?_⟩
      rcases Nat.lt_or_ge j ps with z | z
      · have := o3 ps (by omega) z
        rw [PPn] at this
        omega
      · omega
  have hpt : ∀ t, pi' t ↔ A t ∧ ONP PL (ls + 1) (rx t) := fun t => by
    rw [hpi t, s1 t, hon]
    constructor
    · rintro (y | y)
      · exact ⟨y.1, Or.inl y.2⟩
      · exact ⟨y.1, Or.inr y.2⟩
    · rintro ⟨y, z | z⟩
      · exact Or.inl ⟨y, z⟩
      · exact Or.inr ⟨y, z⟩
  refine ⟨⟨hpt, fun t => ?_, s3⟩, ⟨fun i hi => ?_, fun i i' hii hi' => ?_⟩, ⟨fun j hj => ?_, fun j j' hjj hj' => ?_, fun _ => ⟨by omega, ?_⟩⟩, ⟨fun i j hi ho => ?_, fun j hj => ?_⟩, ⟨fun j hj => ?_, fun i j t hi ho hb ha => ?_, fun i j t hi ho hb ht => ?_⟩, ⟨c1, c2, c3, c4⟩, ⟨fun j hj hl => ?_, fun i j t hi ho hb hg => ?_, fun i hi => ?_⟩, fun k => if k = en then r else er k, fun k hk => ?_, fun k k' hk hk' hkk => ?_⟩
  · rw [hun t, s2 t, hon]
    constructor
    · rintro ⟨⟨y1, y2, y3⟩, y4⟩
      exact ⟨y1, y2, fun z => z.elim y3 y4⟩
    · rintro ⟨y1, y2, y3⟩
      exact ⟨⟨y1, y2, fun z => y3 (Or.inl z)⟩, fun z => y3 (Or.inr z)⟩
  · rcases Nat.lt_or_ge i ls with y | y
    · rw [PLo i y, IXo _ (hpn i y)]
      obtain ⟨y1, y2, y3, y4⟩ := p1 i y
      exact ⟨y1, y2, y3, by omega⟩
    · rw [show i = ls by omega, PLn, IXn]
      exact ⟨hR, hS0, by omega, by omega⟩
  · rcases Nat.lt_or_ge i' ls with y | y
    · rw [PLo i (by omega), PLo i' y, IXo _ (hpn i (by omega)), IXo _ (hpn i' y)]
      exact p2 i i' hii y
    · rw [show i' = ls by omega, PLn, IXn, PLo i (by omega), IXo _ (hpn i (by omega))]
      have := (p1 i (by omega)).2.2.2
      omega
  · rcases Nat.lt_or_ge j ps with y | y
    · rw [PPo j y, PAo j y, PLo _ (q1 j y).1]
      exact ⟨by have := (q1 j y).1; omega, (q1 j y).2⟩
    · rw [show j = ps by omega, PPn, PAn, PLn]
      exact ⟨by omega, rfl⟩
  · rcases Nat.lt_or_ge j' ps with y | y
    · rw [PPo j (by omega), PPo j' y]
      exact q2 j j' hjj y
    · rw [show j' = ps by omega, PPn, PPo j (by omega)]
      exact (q1 j (by omega)).1
  · rcases Nat.eq_zero_or_pos ps with y | y
    · have : ls = 0 := by
        rcases Nat.eq_zero_or_pos ls with z | z
        · exact z
        · have := (q3 z).1
          omega
      rw [← y, PPn]
      omega
    · rw [PPo 0 y]
      have := (q1 0 y).1
      exact (q3 (by omega)).2
  · rcases hown i j hi ho with ⟨y1, y2⟩ | ⟨rfl, rfl⟩
    · rw [PLo i y1, PAo j y2.1]
      exact r1 i j y1 y2
    · rw [PLn, PAn]
      exact ⟨RT.refl _, RT.refl _⟩
  · rcases Nat.lt_or_ge (j + 1) ps with y | y
    · rw [PAo j (by omega), PAo (j + 1) y]
      exact r2 j y
    · have hj1 : j + 1 = ps := by omega
      rw [hj1, PAn, PAo j (by omega)]
      exact he j hj1
  · rcases Nat.lt_or_ge j ps with y | y
    · rw [PAo j y, LWo _ (han j y), IXo _ (han j y)]
      obtain ⟨y1, i, y2, y3, y4⟩ := l1 j y
      exact ⟨y1, i, by omega, by rw [PLo i y2, IXo _ (hpn i y2)]; exact y3, by rw [PLo i y2]; exact y4⟩
    · rw [show j = ps by omega, PAn, LWn, IXn]
      refine ⟨hlo, ?_⟩
      rcases hat.out with y1 | ⟨t, y1, y2, y3⟩
      · exact ⟨ls, by omega, by rw [PLn, IXn, y1], by rw [PLn]; exact RT.refl _⟩
      · obtain ⟨z1, i, z2, z3⟩ := (hpt t).mp y2
        rw [IXe] at y3
        exact ⟨i, z2, by rw [z3]; exact y3, by rw [z3]; exact RT.one ⟨t, y1, z1, rfl⟩⟩
  · rcases hown i j hi ho with ⟨y1, y2⟩ | ⟨rfl, rfl⟩
    · rw [PLo i y1] at hb
      rw [PAo j y2.1, LWo _ (han j y2.1)]
      rcases l2 i j t y1 y2 hb ha with z | z | ⟨i', z1, z2, z3⟩
      · by_cases hx : rx t = r
        · refine Or.inr (Or.inr ⟨ls, by omega, by rw [PLn, hx], ?_⟩)
          rw [PLn, IXn]
          have w1 := (l1 j y2.1).1
          have w2 := (p1 _ (q1 j y2.1).1).2.2.2
          rw [(q1 j y2.1).2] at w2
          omega
        · exact Or.inl ((hun t).mpr ⟨z, hx⟩)
      · exact Or.inr (Or.inl z)
      · exact Or.inr (Or.inr ⟨i', by omega, by rw [PLo i' z1]; exact z2, by rw [PLo i' z1, IXo _ (hpn i' z1)]; exact z3⟩)
    · rw [PLn] at hb
      rw [PAn, LWn]
      by_cases hs : St (rx t)
      · exact Or.inr (Or.inl hs)
      by_cases ho2 : ONP PL (i + 1) (rx t)
      · obtain ⟨i', z1, z2⟩ := ho2
        refine Or.inr (Or.inr ⟨i', z1, z2, ?_⟩)
        rw [z2]
        have := hmin t hb ((hpt t).mpr ⟨ha, i', z1, z2⟩)
        rw [IXe] at this
        exact this
      · refine Or.inl ((hun t).mpr ⟨(s2 t).mpr ⟨ha, hs, fun z => ho2 ((hon _).mpr (Or.inl z))⟩, fun z => ho2 ((hon _).mpr (Or.inr z))⟩)
  · rcases hown i j hi ho with ⟨y1, y2⟩ | ⟨rfl, rfl⟩
    · rw [PLo i y1] at hb
      rw [PPo j y2.1, PAo j y2.1, CUo _ (han j y2.1)]
      obtain ⟨z1, z2⟩ := l3 i j t y1 y2 hb ((hun t).mp ht).1
      refine ⟨z1, ?_⟩
      rcases z2 with w | w
      · exact Or.inl w
      · exact absurd (hxr t ((hun t).mp ht).1 w) ((hun t).mp ht).2
    · rw [PPn, PAn, CUn]
      exact ⟨rfl, Or.inl (Nat.zero_le _)⟩
  · rcases Nat.lt_or_ge j ps with y | y
    · rw [PAo j y] at hl ⊢
      rw [LDo _ (han j y)] at hl
      exact d1 j y hl
    · rw [show j = ps by omega, PAn] at hl ⊢
      rw [LDn] at hl
      obtain ⟨t, y1, y2⟩ := hl1.out.mp hl
      rcases (s3 t).mp y2 with y3 | ⟨y3, y4, y5⟩
      · exact GDR.lead y1 y3
      · exact (c2 _ y4 y5).back (RT.one ⟨t, y1, y3, rfl⟩)
  · rcases hown i j hi ho with ⟨y1, y2⟩ | ⟨rfl, rfl⟩
    · rw [PLo i y1] at hb
      obtain ⟨j', z1, z2, z3⟩ := d2 i j t y1 y2 hb hg
      exact ⟨j', z1, by omega, by rw [PAo j' z2, LDo _ (han j' z2)]; exact z3⟩
    · rw [PLn] at hb
      exact ⟨j, Nat.le_refl _, by omega, by rw [PAn, LDn]; exact hl1.out.mpr ⟨t, hb, hg⟩⟩
  · rcases Nat.lt_or_ge i ls with y | y
    · rw [PLo i y, LDo _ (hpn i y)]
      exact d3 i y
    · rw [show i = ls by omega, PLn, LDn]
      exact ⟨hld, hl2.out⟩
  · show (if k = en then r else er k) < R ∧ (St (if k = en then r else er k) ∨ ONP PL (ls + 1) (if k = en then r else er k))
    by_cases hk2 : k = en
    · rw [if_pos hk2]
      exact ⟨hR, Or.inr ((hon _).mpr (Or.inr rfl))⟩
    · rw [if_neg hk2]
      obtain ⟨y1, y2⟩ := e1 k (by omega)
      exact ⟨y1, y2.imp id (fun z => (hon _).mpr (Or.inl z))⟩
  · have hkk : (if k = en then r else er k) = (if k' = en then r else er k') := hkk
    have hne : ∀ x, x < en → ¬ er x = r := fun x hx z => by
      rcases (e1 x hx).2 with w | w
      · rw [z] at w; exact hS0 w
      · rw [z] at w; exact hN0 w
    by_cases h1 : k = en <;> by_cases h2 : k' = en
    · omega
    · rw [if_pos h1, if_neg h2] at hkk
      exact absurd hkk.symm (hne k' (by omega))
    · rw [if_neg h1, if_pos h2] at hkk
      exact absurd hkk (hne k (by omega))
    · rw [if_neg h1, if_neg h2] at hkk
      exact e2 k k' (by omega) (by omega) hkk
/-- the cursor of the last row of the path moves on -/
theorem TJ.cursor (h : TJ RB A rx g0 ed nf Fs R un pi go ix lw cu ld pa pl pp en (p + 1) ls St Gd rk nr xr) (hxr : ∀ t, un t → ¬ rx t = xr) (hc : ∀ t, RB (pa p) t → un t → k ≤ t ∨ rx t = xr2) : TJ RB A rx g0 ed nf Fs R un pi go ix lw (fun x => if x = pa p then k else cu x) ld pa pl pp en (p + 1) ls St Gd rk nr xr2 := by
  obtain ⟨hs, hp, ⟨q1, q2, q3⟩, hr, ⟨l1, l2, l3⟩, hc', hd, her⟩ := h
  refine ⟨hs, hp, ⟨q1, q2, q3⟩, hr, ⟨l1, l2, fun i j t hi ho hb ht => ?_⟩, hc', hd, her⟩
  obtain ⟨y1, y2⟩ := l3 i j t hi ho hb ht
  have y2 := y2.resolve_right (hxr t ht)
  refine ⟨y1, ?_⟩
  show (if pa j = pa p then k else cu (pa j)) ≤ t ∨ rx t = xr2
  by_cases hj : pa j = pa p
  · rw [if_pos hj]
    refine hc t ?_ ht
    rw [y1, (q1 j ho.1).2, hj] at hb
    exact hb
  · rw [if_neg hj]
    exact Or.inl y2
/-- where the low one is before the row itself, it stays on the pile, and belongs to the row above -/
theorem TJ.merge (h : TJ RB A rx g0 ed nf Fs R un pi go ix lw cu ld pa pl pp en (p + 1) ls St Gd rk nr xr) (hn : ∀ t, RB (pa p) t → ¬ un t) (hne : ¬ lw (pa p) = ix (pa p)) : ∃ q, p = q + 1 ∧ TJ RB A rx g0 ed nf Fs R un pi go ix (fun x => if x = pa q then min (lw (pa q)) (lw (pa p)) else lw x) cu (fun x => if x = pa q then (if ld (pa p) % 2 = 1 ∧ ld (pa q) % 2 = 0 then ld (pa q) + 1 else ld (pa q)) else ld x) pa pl pp en (q + 1) ls St Gd rk nr xr := by
  have hpj := fun i j (hi : i < ls) (hj : j < ls) (he : pl i = pl j) => h.pinj hi hj he
  obtain ⟨hs, ⟨p1, p2⟩, ⟨q1, q2, q3⟩, ⟨r1, r2⟩, ⟨l1, l2, l3⟩, hc', ⟨d1, d2, d3⟩, her⟩ := h
  obtain ⟨w1, i0, w2, w3, w4⟩ := l1 p (Nat.lt_succ_self p)
  have hpp := q1 p (Nat.lt_succ_self p)
  have hlt : i0 < pp p := by
    rcases Nat.lt_or_ge i0 (pp p) with y | y
    · exact y
    · exfalso
      rcases Nat.lt_or_ge (pp p) i0 with z | z
      · have := p2 (pp p) i0 z w2
        rw [hpp.2] at this
        omega
      · rw [show i0 = pp p by omega, hpp.2] at w3
        omega
  obtain ⟨g0', hq⟩ : ∃ q, p = q + 1 := by
    cases p with
    | zero =>
      have := (q3 (by omega)).2
      omega
    | succ q => exact ⟨q, rfl⟩
  subst hq
  refine ⟨g0', rfl, ?_⟩
  have hinjA : ∀ j j', j < g0' + 1 + 1 → j' < g0' + 1 + 1 → pa j = pa j' → j = j' := fun j j' hj hj' he => by
    have e := hpj (pp j) (pp j') (q1 j hj).1 (q1 j' hj').1 (by rw [(q1 j hj).2, (q1 j' hj').2, he])
    rcases Nat.lt_or_ge j j' with y | y
    · have := q2 j j' y hj'
      omega
    · rcases Nat.lt_or_ge j' j with z | z
      · have := q2 j' j z hj
        omega
      · omega
  have hqq := q2 g0' (g0' + 1) (by omega) (by omega)
  -- the row left leads to the row above
  have hback : RT (EDG RB A rx) (pa (g0' + 1)) (pa g0') := by
    have hex : ∃ j, OWN pp (g0' + 1 + 1) i0 j ∧ j ≤ g0' := by
      have key : ∀ n, n ≤ g0' + 1 → (i0 < pp n) → 0 < n → ∃ j, j < n ∧ pp j ≤ i0 ∧ i0 < pp (j + 1) := by
        intro n
        induction n with
        | zero => intro _ _ h0; exact absurd h0 (Nat.lt_irrefl 0)
        | succ n ih =>
          intro hn hi _
          rcases Nat.lt_or_ge i0 (pp n) with y | y
          · rcases Nat.eq_zero_or_pos n with z | z
            · rw [z, (q3 (by omega)).2] at y
              exact absurd y (Nat.not_lt_zero _)
            · obtain ⟨j, j1, j2, j3⟩ := ih (by omega) y z
              exact ⟨j, by omega, j2, j3⟩
          · exact ⟨n, by omega, y, hi⟩
      obtain ⟨j, j1, j2, j3⟩ := key (g0' + 1) (Nat.le_refl _) hlt (by omega)
      refine ⟨j, ⟨by omega, j2, fun j' hj' hjj => ?_⟩, by omega⟩
      rcases Nat.lt_or_ge (j + 1) j' with z | z
      · have := q2 (j + 1) j' z hj'
        omega
      · rw [show j' = j + 1 by omega]
        exact j3
    obtain ⟨j, hj1, hj2⟩ := hex
    have hup : ∀ n, j + n ≤ g0' → RT (EDG RB A rx) (pa j) (pa (j + n)) := by
      intro n
      induction n with
      | zero => intro _; exact RT.refl _
      | succ n ih => intro hn; exact (ih (by omega)).trans (r2 (j + n) (by omega))
    have h3 := hup (g0' - j) (by omega)
    rw [show j + (g0' - j) = g0' by omega] at h3
    exact w4.trans ((r1 i0 j w2 hj1).2.trans h3)
  have hown : ∀ i j, i < ls → OWN pp (g0' + 1) i j → OWN pp (g0' + 1 + 1) i j ∨ (j = g0' ∧ OWN pp (g0' + 1 + 1) i (g0' + 1)) := fun i j hi ⟨o1, o2, o3⟩ => by
    by_cases y : i < pp (g0' + 1)
    · refine Or.inl ⟨by omega, o2, fun j' hj' hjj => ?_⟩
      rcases Nat.lt_or_ge j' (g0' + 1) with z | z
      · exact o3 j' z hjj
      · rw [show j' = g0' + 1 by omega]
        exact y
    · refine Or.inr ⟨?_, by omega, by omega, fun j' hj' hjj => by omega⟩
      rcases Nat.lt_or_ge j g0' with z | z
      · have := o3 g0' (by omega) z
        omega
      · omega
  obtain ⟨LW, hLW⟩ : ∃ y, y = (fun x => if x = pa g0' then min (lw (pa g0')) (lw (pa (g0' + 1))) else lw x) := ⟨_, rfl⟩
  obtain ⟨LD, hLD⟩ : ∃ y, y = (fun x => if x = pa g0' then (if ld (pa (g0' + 1)) % 2 = 1 ∧ ld (pa g0') % 2 = 0 then ld (pa g0') + 1 else ld (pa g0')) else ld x) := ⟨_, rfl⟩
  rw [← hLW, ← hLD]
  have LWn : LW (pa g0') = min (lw (pa g0')) (lw (pa (g0' + 1))) := by rw [hLW]; exact if_pos rfl
  have LWo : ∀ j, j < g0' → LW (pa j) = lw (pa j) := fun j hj => by
    rw [hLW]
    exact if_neg (fun z => by have := hinjA j g0' (by omega) (by omega) z; omega)
  have LDn1 : LD (pa g0') % 2 = 1 ↔ ld (pa (g0' + 1)) % 2 = 1 ∨ ld (pa g0') % 2 = 1 := by
    rw [hLD]
    show (if pa g0' = pa g0' then _ else _) % 2 = 1 ↔ _
    rw [if_pos rfl]
    by_cases y : ld (pa (g0' + 1)) % 2 = 1 ∧ ld (pa g0') % 2 = 0
    · rw [if_pos y]
      constructor
      · intro _; exact Or.inl y.1
      · intro _; omega
    · rw [if_neg y]
      constructor
      · exact fun z => Or.inr z
      · rintro (z | z)
        · rcases Nat.mod_two_eq_zero_or_one (ld (pa g0')) with x | x
          · exact absurd ⟨z, x⟩ y
          · exact x
        · exact z
  have LDo : ∀ x, ¬ x = pa g0' → LD x = ld x := fun x hx => by rw [hLD]; exact if_neg hx
  have LDo2 : ∀ j, j < g0' → LD (pa j) = ld (pa j) := fun j hj => LDo _ (fun z => by have := hinjA j g0' (by omega) (by omega) z; omega)
  have LD3 : ∀ x, LD x / 2 = ld x / 2 := fun x => by
    by_cases hx : x = pa g0'
    · rw [hLD]
      show (if x = pa g0' then _ else _) / 2 = _
      rw [if_pos hx, hx]
      by_cases y : ld (pa (g0' + 1)) % 2 = 1 ∧ ld (pa g0') % 2 = 0
      · rw [if_pos y]; omega
      · rw [if_neg y]
    · rw [LDo x hx]
  clear hLW hLD
  refine ⟨hs, ⟨p1, p2⟩, ⟨fun j hj => q1 j (by omega), fun j j' hjj hj' => q2 j j' hjj (by omega), fun h0 => ⟨by omega, (q3 h0).2⟩⟩, ⟨fun i j hi ho => ?_, fun j hj => r2 j (by omega)⟩, ⟨fun j hj => ?_, fun i j t hi ho hb ha => ?_, fun i j t hi ho hb ht => ?_⟩, hc', ⟨fun j hj hl => ?_, fun i j t hi ho hb hg => ?_, fun i hi => ?_⟩, her⟩
  · rcases hown i j hi ho with y | ⟨rfl, y⟩
    · exact r1 i j hi y
    · obtain ⟨z1, z2⟩ := r1 i _ hi y
      exact ⟨(r2 j (by omega)).trans z1, z2.trans hback⟩
  · rcases Nat.lt_or_ge j g0' with y | y
    · rw [LWo j y]
      exact l1 j (by omega)
    · rw [show j = g0' by omega, LWn]
      obtain ⟨y1, i1, y2, y3, y4⟩ := l1 g0' (by omega)
      refine ⟨by omega, ?_⟩
      by_cases z : lw (pa g0') ≤ lw (pa (g0' + 1))
      · exact ⟨i1, y2, by rw [Nat.min_eq_left z]; exact y3, y4⟩
      · exact ⟨i0, w2, by rw [Nat.min_eq_right (by omega)]; exact w3, (r2 g0' (by omega)).trans w4⟩
  · rcases hown i j hi ho with y | ⟨rfl, y⟩
    · rcases l2 i j t hi y hb ha with z | z | ⟨i', z1, z2, z3⟩
      · exact Or.inl z
      · exact Or.inr (Or.inl z)
      · refine Or.inr (Or.inr ⟨i', z1, z2, ?_⟩)
        rcases Nat.lt_or_ge j g0' with x | x
        · rw [LWo j x]; exact z3
        · have hj : j = g0' := by have := ho.1; omega
          rw [hj] at z3 ⊢
          rw [LWn]
          omega
    · rcases l2 i (j + 1) t hi y hb ha with z | z | ⟨i', z1, z2, z3⟩
      · exact Or.inl z
      · exact Or.inr (Or.inl z)
      · exact Or.inr (Or.inr ⟨i', z1, z2, by rw [LWn]; omega⟩)
  · rcases hown i j hi ho with y | ⟨rfl, y⟩
    · exact l3 i j t hi y hb ht
    · obtain ⟨z1, -⟩ := l3 i (j + 1) t hi y hb ht
      rw [z1, (q1 (j + 1) (by omega)).2] at hb
      exact absurd ht (hn t hb)
  · rcases Nat.lt_or_ge j g0' with y | y
    · rw [LDo2 j y] at hl
      exact d1 j (by omega) hl
    · rw [show j = g0' by omega] at hl ⊢
      rcases LDn1.mp hl with z | z
      · exact (d1 (g0' + 1) (by omega) z).back (r2 g0' (by omega))
      · exact d1 g0' (by omega) z
  · have key : ∀ j', j' < g0' + 1 + 1 → j ≤ j' → ld (pa j') % 2 = 1 → ∃ j', j ≤ j' ∧ j' < g0' + 1 ∧ LD (pa j') % 2 = 1 := fun j' z1 z2 z3 => by
      rcases Nat.lt_or_ge j' g0' with x | x
      · exact ⟨j', z2, by omega, by rw [LDo2 j' x]; exact z3⟩
      · refine ⟨g0', by have := ho.1; omega, by omega, LDn1.mpr ?_⟩
        rcases Nat.lt_or_ge g0' j' with w | w
        · rw [show j' = g0' + 1 by omega] at z3
          exact Or.inl z3
        · rw [show j' = g0' by omega] at z3
          exact Or.inr z3
    rcases hown i j hi ho with y | ⟨rfl, y⟩
    · obtain ⟨j', z1, z2, z3⟩ := d2 i j t hi y hb hg
      exact key j' z2 z1 z3
    · obtain ⟨j', z1, z2, z3⟩ := d2 i (j + 1) t hi y hb hg
      exact key j' z2 (by omega) z3
  · obtain ⟨y1, y2⟩ := d3 i hi
    have := LD3 (pl i)
    exact ⟨by omega, ⟨fun z => y2.mp (by omega), fun z => by have := y2.mpr z; omega⟩⟩
end Tarjan2
