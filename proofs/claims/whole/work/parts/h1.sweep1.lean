/-! GRAPH: a row is left, settled: data and meaning -/
section Sweep2
variable {U V W : Ud} {T R wn ga gi gq ev nf en ps ls nr xr bf bt r p t0 lo ldv k c2 lvx : Nat} {rx mb me pa pl pp ix lw cu ld rk : Nat → Nat} {RB : Nat → Nat → Prop} {A g0 St Gd : Nat → Prop} {FS : Nat → Nat → Bool} {F : Uf}
theorem SWS.top (h : SWS U T R wn rx mb me ga gi gq RB A g0 ev nf FS en (p + 1) ls pa pl pp ix lw cu ld St Gd rk nr xr) : (pp p < ls ∧ pl (pp p) = pa p ∧ pa p < R ∧ p ≤ T) ∧ (∀ i, pp p < i → i < ls → ¬ pl i = pa p) ∧ ((U.2.2.1 147 10).2 (p * 7 + 5) = nI (pa p) ∧ (U.2.2.1 147 10).2 (pa p * 7 + 1) = nI (ix (pa p)) ∧ (U.2.2.1 147 10).2 (pa p * 7 + 2) = nI (lw (pa p)) ∧ (U.2.2.1 147 10).2 (pa p * 7 + 3) = nI (cu (pa p)) ∧ (U.2.2.1 147 10).2 (pa p * 7 + 4) = nI (ld (pa p))) ∧ (ix (pa p) ≤ T + 1 ∧ lw (pa p) ≤ 20000 ∧ cu (pa p) ≤ T ∧ ld (pa p) < 4) ∧ (0 < p → (U.2.2.1 147 10).2 ((p - 1) * 7 + 5) = nI (pa (p - 1)) ∧ pa (p - 1) < R ∧ (U.2.2.1 147 10).2 (pa (p - 1) * 7 + 2) = nI (lw (pa (p - 1))) ∧ (U.2.2.1 147 10).2 (pa (p - 1) * 7 + 4) = nI (ld (pa (p - 1))) ∧ ¬ pa (p - 1) = pa p ∧ lw (pa (p - 1)) ≤ 20000 ∧ ld (pa (p - 1)) < 4) := by
  obtain ⟨⟨b1, b2, b3⟩, p1, p2, p3⟩ := h.pile
  obtain ⟨a, b, c, ⟨⟨d1, d1b, d1c⟩, d2⟩, e1⟩ := h
  have hq := e1.2.2.1
  obtain ⟨y1, y2⟩ := hq.1 p (by omega)
  have y3 := d1c _ y1
  have y4 := d2 _ y1
  have y5 := (e1.2.2.2.2.2.2.1.2.2 _ y1).1
  have y6 := (p1 _ y1).2
  have y7 := (p2 _ y1).2
  rw [y2] at y3 y4 y5 y6 y7
  refine ⟨⟨y1, y2, y6, by omega⟩, fun i h1 h2 z => ?_, ⟨d1b p (by omega), y3.1, y3.2.1, y3.2.2.1, y3.2.2.2⟩, ⟨by omega, y4.1, y4.2, y5⟩, fun hp => ?_⟩
  · have := p3 i (pp p) h2 y1 (z.trans y2.symm)
    omega
  · obtain ⟨z1, z2⟩ := hq.1 (p - 1) (by omega)
    have z3 := d1c _ z1
    have z4 := d2 _ z1
    have z5 := (e1.2.2.2.2.2.2.1.2.2 _ z1).1
    have z6 := (p1 _ z1).2
    rw [z2] at z3 z4 z5 z6
    refine ⟨d1b (p - 1) (by omega), z6, z3.2.1, z3.2.2.2, fun w => ?_, z4.1, z5⟩
    have e := p3 (pp (p - 1)) (pp p) z1 y1 (by rw [z2, y2, w])
    have := hq.2.1 (p - 1) p (by omega) (by omega)
    omega
theorem SWS.merge (h : SWS U T R wn rx mb me ga gi gq RB A g0 ev nf FS en (p + 1) ls pa pl pp ix lw cu ld St Gd rk nr xr) (hn : ∀ t, t < T → RB (pa p) t → ¬ bts (U.2.2.2.2.1 150) t = true) (hne : ¬ lw (pa p) = ix (pa p)) (hq : uq F333 U V) (h20 : V.2.1 147 20 = nI p)
    (hcl : (p = 0 ∧ V.2.2.1 147 10 = U.2.2.1 147 10) ∨ (0 < p ∧ ∀ j, (V.2.2.1 147 10).2 j = if j = pa (p - 1) * 7 + 4 then nI (if ld (pa p) % 2 = 1 ∧ ld (pa (p - 1)) % 2 = 0 then ld (pa (p - 1)) + 1 else ld (pa (p - 1))) else if j = pa (p - 1) * 7 + 2 then nI (min (lw (pa (p - 1))) (lw (pa p))) else (U.2.2.1 147 10).2 j)) :
    ∃ lw' ld', SWS V T R wn rx mb me ga gi gq RB A g0 ev nf FS en p ls pa pl pp ix lw' cu ld' St Gd rk nr xr := by
  obtain ⟨⟨t1, t2, t3, t4⟩, t5, t6, ⟨t7, t8, t9, t10⟩, t11⟩ := h.top
  obtain ⟨⟨b1, b2, b3⟩, p1, p2, p3⟩ := h.pile
  obtain ⟨⟨a1, a2, a3, a4⟩, ⟨k1, k2, k3, k4, k5⟩, ⟨c1, c2, c3, c4, c5⟩, ⟨⟨d1, d1b, d1c⟩, d2⟩, e1⟩ := h
  obtain ⟨q, hpq, e2⟩ := e1.merge (fun t hb ht => hn t ht.1 hb ht.2) hne
  subst hpq
  have hat : ∀ j, (V.2.2.1 147 10).2 j = if j = pa q * 7 + 4 then nI (if ld (pa (q + 1)) % 2 = 1 ∧ ld (pa q) % 2 = 0 then ld (pa q) + 1 else ld (pa q)) else if j = pa q * 7 + 2 then nI (min (lw (pa q)) (lw (pa (q + 1)))) else (U.2.2.1 147 10).2 j := by
    rcases hcl with y | y
    · exact absurd y.1 (by omega)
    · exact y.2
  obtain ⟨z1, z2, z3, z4, z5, z6, z7⟩ := t11 (by omega)
  have z6 : lw (pa q) ≤ 20000 := z6
  have z7 : ld (pa q) < 4 := z7
  have el := lsf_q a2 hq rfl rfl rfl
  obtain ⟨LW, hLW⟩ : ∃ y, y = (fun x => if x = pa q then min (lw (pa q)) (lw (pa (q + 1))) else lw x) := ⟨_, rfl⟩
  obtain ⟨LD, hLD⟩ : ∃ y, y = (fun x => if x = pa q then (if ld (pa (q + 1)) % 2 = 1 ∧ ld (pa q) % 2 = 0 then ld (pa q) + 1 else ld (pa q)) else ld x) := ⟨_, rfl⟩
  rw [← hLW, ← hLD] at e2
  have LWo : ∀ x, ¬ x = pa q → LW x = lw x := fun x hx => by rw [hLW]; exact if_neg hx
  have LWn : LW (pa q) = min (lw (pa q)) (lw (pa (q + 1))) := by rw [hLW]; exact if_pos rfl
  have LDo : ∀ x, ¬ x = pa q → LD x = ld x := fun x hx => by rw [hLD]; exact if_neg hx
  have LDn : LD (pa q) = (if ld (pa (q + 1)) % 2 = 1 ∧ ld (pa q) % 2 = 0 then ld (pa q) + 1 else ld (pa q)) := by rw [hLD]; exact if_pos rfl
  rw [← LWn, ← LDn] at hat
  clear hLW hLD hcl
  refine ⟨LW, LD, ⟨a1.keep hq rfl (fun j hj => by rw [hat, if_neg (by omega), if_neg (by omega)]), a2.q hq (fun _ => rfl) (fun _ => rfl) rfl, (hq.r 147 8 rfl).trans a3, a4.eq (hq.i 99 19 rfl) (hq.a 113 3 rfl) (fun c => by rw [hq.2.2.2.2.2 rfl])⟩, ⟨h20, (hq.i 147 21 rfl).trans k2, (hq.i 147 22 rfl).trans k3, (hq.i 147 9 rfl).trans k4, k5⟩, ⟨?_, c2, c3, c4, ?_⟩, ⟨⟨fun i hi => ?_, fun j hj => ?_, fun i hi => ?_⟩, fun i hi => ?_⟩, ?_⟩
  · rw [hq.l 153 rfl]; exact c1
  · rw [hq.l 150 rfl, el]; exact c5
  · rw [hat, if_neg (by omega), if_neg (by omega)]; exact d1 i hi
  · rw [hat, if_neg (by omega), if_neg (by omega)]; exact d1b j (by omega)
  · obtain ⟨y1, y2, y3, y4⟩ := d1c i hi
    refine ⟨by rw [hat, if_neg (by omega), if_neg (by omega)]; exact y1, ?_, by rw [hat, if_neg (by omega), if_neg (by omega)]; exact y3, ?_⟩
    · rw [hat, if_neg (by omega)]
      by_cases y : pl i = pa q
      · rw [if_pos (by omega), y]
      · rw [if_neg (by omega), LWo _ y]; exact y2
    · rw [hat]
      by_cases y : pl i = pa q
      · rw [if_pos (by omega), y]
      · rw [if_neg (by omega), if_neg (by omega), LDo _ y]; exact y4
  · obtain ⟨y1, y2⟩ := d2 i hi
    refine ⟨?_, y2⟩
    by_cases y : pl i = pa q
    · rw [y, LWn]; omega
    · rw [LWo _ y]; exact y1
  · rw [hq.l 150 rfl, hq.l 151 rfl, el]; exact e2
theorem SWS.settle (h : SWS U T R wn rx mb me ga gi gq RB A g0 ev nf FS en (p + 1) ls pa pl pp ix lw cu ld St Gd rk nr xr) (hn : ∀ t, t < T → RB (pa p) t → ¬ bts (U.2.2.2.2.1 150) t = true) (heq : lw (pa p) = ix (pa p)) (hf1 : lvx % 2 = 1 → GDR RB A rx g0 (¬ ev = 0) nf (fun f t => FS f t = true) (pa p)) (hf0 : ld (pa p) % 2 = 1 → lvx % 2 = 1)
    (hf2 : ¬ lvx % 2 = 1 → ¬ ¬ ev = 0 ∨ (∃ f, f < nf ∧ ∀ i t, pp p ≤ i → i < ls → RB (pl i) t → A t → SCC pl (pp p) ls (rx t) → ¬ FS f t = true) ∨ ∀ i t, pp p ≤ i → i < ls → RB (pl i) t → A t → ¬ SCC pl (pp p) ls (rx t))
    (hq : uq F U V) (hF : (!in2 F.i 147 22 && (!in2 F.i 147 9 && (!in2 F.n 147 8 && (!in2 F.i 99 19 && (!in2 F.a 113 3 && (!in1 F.l 153 && (!in1 F.l 150 && grok F))))))) = true) (h161 : ∀ c, in2 F.n 161 c = false) (h163 : ∀ c, in2 F.n 163 c = false) (h20 : V.2.1 147 20 = nI p) (h21 : V.2.1 147 21 = nI (pp p)) (hcl : CLV V U p (pa p) lvx (pa (p - 1)) (lw (pa (p - 1))) (ld (pa (p - 1))) (lw (pa p))) (hg : GKP ga gi U V) (hl : LSN V ga gi gq 256)
    (h51 : (∀ t, t < T → (bts (V.2.2.2.2.1 151) t = true ↔ bts (U.2.2.2.2.1 151) t = true ∧ ¬ (bts (U.2.2.2.2.1 153) t = true ∧ SCC pl (pp p) ls (rx t)))) ∧ ∀ t, bts (V.2.2.2.2.1 151) t = true → bts (U.2.2.2.2.1 151) t = true) (hgo : ∀ t, t < T → (bts (lgf V ga gi) t = true ↔ bts (lgf U ga gi) t = true ∨ (lvx % 2 = 1 ∧ bts (U.2.2.2.2.1 153) t = true ∧ SCC pl (pp p) ls (rx t)))) (hgx : ∀ t, bts (lgf V ga gi) t = true → bts (lgf U ga gi) t = true ∨ t < T) :
    ∃ lw' ld' St' Gd' rk', SWS V T R wn rx mb me ga gi gq RB A g0 ev nf FS en p (pp p) pa pl pp ix lw' cu ld' St' Gd' rk' (nr + 1) xr := by
  replace hf2 := HID.mk hf2
  simp only [Bool.and_eq_true, Bool.not_eq_true'] at hF
  obtain ⟨f1, f2', f3, f4, f5, f6, f7, f8⟩ := hF
  obtain ⟨⟨t1, t2, t3, t4⟩, t5, t6, ⟨t7, t8, t9, t10⟩, t11⟩ := h.top
  obtain ⟨⟨b1, b2, b3⟩, p1, p2, p3⟩ := h.pile
  obtain ⟨⟨a1, a2, a3, a4⟩, ⟨k1, k2, k3, k4, k5⟩, ⟨c1, c2, c3, c4, c5⟩, ⟨⟨d1, d1b, d1c⟩, d2⟩, e1⟩ := h
  have ha : ¬ ga = 114 := by
    rcases a2 with y | y
    · have := y.1; omega
    · have := y.1; omega
  have hpath := e1.2.2.1
  have hlowi : ∀ i, i < pp p → ¬ pl i = pa p := fun i hi z => by
    have := p3 i (pp p) (by omega) t1 (z.trans t2.symm)
    omega
  obtain ⟨LD, hLD⟩ : ∃ f : Nat → Nat, f = fun x => if 0 < p ∧ x = pa (p - 1) then (if lvx % 2 = 1 ∧ ld (pa (p - 1)) % 2 = 0 then ld (pa (p - 1)) + 1 else ld (pa (p - 1))) else ld x := ⟨_, rfl⟩
  have LDn : 0 < p → LD (pa (p - 1)) = (if lvx % 2 = 1 ∧ ld (pa (p - 1)) % 2 = 0 then ld (pa (p - 1)) + 1 else ld (pa (p - 1))) := fun hp => by rw [hLD]; exact if_pos ⟨hp, rfl⟩
  have LDo : ∀ x, ¬ (0 < p ∧ x = pa (p - 1)) → LD x = ld x := fun x hx => by rw [hLD]; exact if_neg hx
  have hat : ∀ j, (V.2.2.1 147 10).2 j = if 0 < p ∧ j = pa (p - 1) * 7 + 4 then nI (LD (pa (p - 1))) else if 0 < p ∧ j = pa (p - 1) * 7 + 2 then nI (min (lw (pa (p - 1))) (lw (pa p))) else if j = pa p * 7 + 4 then nI lvx else (U.2.2.1 147 10).2 j := fun j => by
    rcases hcl with ⟨y1, y2⟩ | ⟨y1, y2⟩
    · have n4 : ¬ (0 < p ∧ j = pa (p - 1) * 7 + 4) := fun z => absurd z.1 (by omega)
      have n2 : ¬ (0 < p ∧ j = pa (p - 1) * 7 + 2) := fun z => absurd z.1 (by omega)
      rw [y2 j, if_neg n4, if_neg n2]
    · rw [y2 j, LDn y1]
      by_cases w1 : j = pa (p - 1) * 7 + 4
      · have w1' : 0 < p ∧ j = pa (p - 1) * 7 + 4 := ⟨y1, w1⟩
        rw [if_pos w1, if_pos w1']
      · have w1' : ¬ (0 < p ∧ j = pa (p - 1) * 7 + 4) := fun z => w1 z.2
        rw [if_neg w1, if_neg w1']
        by_cases w2 : j = pa (p - 1) * 7 + 2
        · have w2' : 0 < p ∧ j = pa (p - 1) * 7 + 2 := ⟨y1, w2⟩
          rw [if_pos w2, if_pos w2']
        · have w2' : ¬ (0 < p ∧ j = pa (p - 1) * 7 + 2) := fun z => w2 z.2
          rw [if_neg w2, if_neg w2']
  -- the low one of the row above stays as it was
  have hmin : 0 < p → min (lw (pa (p - 1))) (lw (pa p)) = lw (pa (p - 1)) := fun hp => by
    have y1 := (e1.2.2.2.2.1.1 (p - 1) (by omega)).1
    have y2 := e1.2.1.2 (pp (p - 1)) (pp p) (hpath.2.1 (p - 1) p (by omega) (by omega)) t1
    rw [(hpath.1 (p - 1) (by omega)).2, t2] at y2
    omega
  have s1 : ∀ t, (t < T ∧ bts (V.2.2.2.2.1 151) t = true) ↔ (t < T ∧ bts (U.2.2.2.2.1 151) t = true) ∧ ¬ SCC pl (pp p) ls (rx t) := fun t => by
    constructor
    · rintro ⟨y1, y2⟩
      have := (h51.1 t y1).mp y2
      refine ⟨⟨y1, this.1⟩, fun z => this.2 ⟨?_, z⟩⟩
      exact (c1 t y1).mpr ((e1.1.1 t).mp ⟨y1, this.1⟩).1
    · rintro ⟨⟨y1, y2⟩, y3⟩
      exact ⟨y1, (h51.1 t y1).mpr ⟨y2, fun z => y3 z.2⟩⟩
  have s2 : ∀ t, (t < T ∧ bts (lgf V ga gi) t = true) ↔ (t < T ∧ bts (lgf U ga gi) t = true) ∨ (lvx % 2 = 1 ∧ A t ∧ SCC pl (pp p) ls (rx t)) := fun t => by
    constructor
    · rintro ⟨y1, y2⟩
      rcases (hgo t y1).mp y2 with z | ⟨z1, z2, z3⟩
      · exact Or.inl ⟨y1, z⟩
      · exact Or.inr ⟨z1, (c1 t y1).mp z2, z3⟩
    · rintro (⟨y1, y2⟩ | ⟨z1, z2, z3⟩)
      · exact ⟨y1, (hgo t y1).mpr (Or.inl y2)⟩
      · exact ⟨c2 t z2, (hgo t (c2 t z2)).mpr (Or.inr ⟨z1, (c1 t (c2 t z2)).mpr z2, z3⟩)⟩
  have s3 : ∀ j, j < p → (LD (pa j) % 2 = 1 ↔ ld (pa j) % 2 = 1 ∨ (j + 1 = p ∧ lvx % 2 = 1)) := fun j hj => by
    by_cases y : pa j = pa (p - 1)
    · have hjp : j = p - 1 := by
        have e := p3 (pp j) (pp (p - 1)) (hpath.1 j (by omega)).1 (hpath.1 (p - 1) (by omega)).1 (by rw [(hpath.1 j (by omega)).2, (hpath.1 (p - 1) (by omega)).2, y])
        rcases Nat.lt_or_ge j (p - 1) with w | w
        · have := hpath.2.1 j (p - 1) w (by omega)
          omega
        · omega
      rw [y, LDn (by omega)]
      have hlt := (t11 (by omega)).2.2.2.2.2.2
      by_cases w : lvx % 2 = 1 ∧ ld (pa (p - 1)) % 2 = 0
      · rw [if_pos w]
        exact ⟨fun _ => Or.inr ⟨by omega, w.1⟩, fun _ => by omega⟩
      · rw [if_neg w]
        constructor
        · exact fun z => Or.inl z
        · rintro (z | ⟨z1, z2⟩)
          · exact z
          · rcases Nat.mod_two_eq_zero_or_one (ld (pa (p - 1))) with v | v
            · exact absurd ⟨z2, v⟩ w
            · exact v
    · rw [LDo _ (fun z => y z.2)]
      constructor
      · exact fun z => Or.inl z
      · rintro (z | ⟨z1, -⟩)
        · exact z
        · exact absurd (by rw [show j = p - 1 by omega]) y
  have s4 : ∀ i, i < pp p → LD (pl i) / 2 = ld (pl i) / 2 := fun i hi => by
    by_cases y : 0 < p ∧ pl i = pa (p - 1)
    · rw [y.2, LDn y.1]
      by_cases w : lvx % 2 = 1 ∧ ld (pa (p - 1)) % 2 = 0
      · rw [if_pos w]; omega
      · rw [if_neg w]
    · rw [LDo _ y]
  obtain ⟨St', Gd', rk', e2⟩ := TJ.settle (fine := lvx % 2 = 1) (pi' := fun t => t < T ∧ bts (V.2.2.2.2.1 151) t = true) (go' := fun t => t < T ∧ bts (lgf V ga gi) t = true) (lw' := lw) (ld' := LD) e1 (fun t hb ht => hn t ht.1 hb ht.2) heq hf1 hf0 hf2.out s1 s2 (fun _ _ => rfl) s3 s4
  clear s1 s2 s3 s4 hf2
  refine ⟨lw, LD, St', Gd', rk', ⟨a1.keep hq f8 (fun j hj => by rw [hat, if_neg (fun z => by omega), if_neg (fun z => by omega), if_neg (by omega)]), hl, (hq.r 147 8 f3).trans a3, a4.g hq f4 f5 hg ha⟩, ⟨h20, h21, (hq.i 147 22 f1).trans k3, (hq.i 147 9 f2').trans k4, k5⟩, ⟨?_, c2, c3, c4, ?_⟩, ⟨⟨fun i hi => ?_, fun j hj => ?_, fun i hi => ?_⟩, fun i hi => d2 i (by omega)⟩, ?_⟩
  · rw [hq.l 153 f6]; exact c1
  · rw [hq.l 150 f7]; exact fun s hs y => y.elim (fun w => c5 s hs (Or.inl w)) (fun w => (hgx s w.2.2).elim (fun v => c5 s hs (Or.inr ⟨w.1, w.2.1, v⟩)) id)
  · rw [hat, if_neg (fun z => by omega), if_neg (fun z => by omega), if_neg (by omega)]; exact d1 i (by omega)
  · rw [hat, if_neg (fun z => by omega), if_neg (fun z => by omega), if_neg (by omega)]; exact d1b j (by omega)
  · obtain ⟨y1, y2, y3, y4⟩ := d1c i (by omega)
    have hne := hlowi i hi
    refine ⟨?_, ?_, ?_, ?_⟩
    · rw [hat, if_neg (fun z => by omega), if_neg (fun z => by omega), if_neg (by omega)]; exact y1
    · rw [hat, if_neg (fun z => by omega)]
      by_cases y : 0 < p ∧ pl i = pa (p - 1)
      · rw [if_pos ⟨y.1, by omega⟩, hmin y.1, y.2]
      · rw [if_neg (fun z => y ⟨z.1, by omega⟩), if_neg (by omega)]; exact y2
    · rw [hat, if_neg (fun z => by omega), if_neg (fun z => by omega), if_neg (by omega)]; exact y3
    · rw [hat]
      by_cases y : 0 < p ∧ pl i = pa (p - 1)
      · rw [if_pos ⟨y.1, by omega⟩, y.2]
      · rw [if_neg (fun z => y ⟨z.1, by omega⟩), if_neg (fun z => by omega), if_neg (fun z => hne (by omega)), LDo _ y]; exact y4
  · rw [hq.l 150 f7]; exact e2
end Sweep2
