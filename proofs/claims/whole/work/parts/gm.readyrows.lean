/-! READY: a row is found, made, kept -/
section ReadyRows
variable {O1 : Nat → (Nat → Bool) × Bool} {H : mu_H} {V V1 V2 : Ud} {m d P q fb nf nw nb n N us : Nat} {C : Nat → Nat} {Y : Ts} {f od bs lv lc wa wn wi cl ro z : Nat → Nat} {es : Nat → Int32} {nm tm : Nat → Int32} {wk p : Nat → Bool} {S : Nat → Nat → Bool} {bo oid : Nat → Nat → Nat} {Gr : Nat → Nat → Prop} {al : Nat → Prop}
theorem RDX.pose {x : Int32} (h : RDX V m od Y es P f fb q Gr N us S z p nf nm tm bs lv lc oid nw wa wn wi wk nb bo cl al ro) : RSX (upA V 129 6 q x) m od Y es P f N us S z p nf nm tm bs lv lc oid nw wa wn wi wk nb bo := by
  have h1 := h.1.1
  refine h1.fr (F := F6x) ((uq.refl F6x V).A rfl) rfl rfl ?_
  obtain ⟨g1, g2, g3⟩ := h1.2.2.2.2.2
  exact ⟨g1, g2.eq rfl rfl rfl rfl rfl rfl, g3⟩
theorem rl_findD (h : um m H) (e : ud m H = V) (hR : RDE V m od Y es P f fb q Gr nf nm tm bs lv oid nw wa wn wi wk nb bo cl al O1) (hq : q < pd f 0 P) : mu_TI (mu_D (d + 2)) 295 [.inr (.inr (some 129)), .inl (nI q)] H (fun x H1 => um m H1 ∧ ur m C H H1 ∧ uq F6x V (ud m H1) ∧ ((x = 1 ∧ RDE (ud m H1) m od Y es P f fb (q + 1) Gr nf nm tm bs lv oid nw wa wn wi wk nb bo cl al O1) ∨ (x = 0 ∧ al q ∧ ud m H1 = upA V 129 6 q (-1 : Int32)))) := by
  have hR0 := hR
  obtain ⟨N, us, S, z, p, ro, hOx, h1, h2, ⟨⟨l6, l6b⟩, ⟨l7, l7b⟩, l8, l8b⟩, h4, h5, h6, h7, h8⟩ := hR
  have hpd : pd f 0 P ≤ 16384 := h1.1.1.1.2.2.2.1.2.1
  rcases RDE.ask hR0 hq with ⟨c1, c2, c3⟩ | ⟨⟨c1, c2⟩, ⟨c3, c4⟩, c5 | ⟨r, c5, c6, c7⟩⟩
  · refine (rl_findN (d := d) (C := C) h e (by omega) (by omega) l6b (by omega) l7b l8b c2).imp (fun x H1 y => ?_)
    obtain ⟨y1, y2, y3, y4⟩ := y
    exact ⟨y2, y3, by rw [y4]; exact (uq.refl F6x V).A rfl, Or.inl ⟨y1, by rw [y4]; exact c3⟩⟩
  · refine (rl_findM (d := d) (C := C) h e (by omega) (by omega) l6b (by omega) l7b l8b c2 c3 (by omega) c5).imp (fun x H1 y => ?_)
    obtain ⟨y1, y2, y3, y4⟩ := y
    exact ⟨y2, y3, by rw [y4]; exact (uq.refl F6x V).A rfl, Or.inr ⟨y1, c1, y4⟩⟩
  · refine (rl_findY (d := d) (C := C) h e (by omega) (by omega) l6b (by omega) l7b l8b c2 c3 (by omega) c6 c5).imp (fun x H1 y => ?_)
    obtain ⟨y1, y2, y3, y4⟩ := y
    exact ⟨y2, y3, by rw [y4]; exact (uq.refl F6x V).A rfl, Or.inl ⟨y1, by rw [y4]; exact c7⟩⟩
theorem pv_mrowD (h : um m H) (e : ud m H = V1) (hV1 : V1 = upA V 129 6 q (-1 : Int32)) (hR : RDX V m od Y es P f fb q Gr N us S z p nf nm tm bs lv lc oid nw wa wn wi wk nb bo cl al ro) (hq : q < pd f 0 P) (hC21 : 2 * (((Y 13).1 + 2) * 4) + 4 ≤ C 21) (hC21b : C 21 ≤ 8388608) : mu_TV (mu_D (d + 20)) 378 [.inr (.inr (some 0)), .inl (nI q)] H (fun H1 => um m H1 ∧ ur m C H H1 ∧ uq F378 V1 (ud m H1) ∧ RSX (ud m H1) m od Y es P f N us S z p nf nm tm bs lv lc oid nw wa wn wi wk nb bo ∧ ∃ n, (ud m H1).2.1 129 11 = nI n ∧ LSO (ud m H1) n (pd f 0 P) (fun t => ∃ c, BIN nb c ∧ GOEb Y V1 P f od S nf nm tm lv lc oid nw wa wn wi wk nb bo q c t)) := by
  have hP := hR.pose (x := (-1 : Int32))
  rw [← hV1] at hP
  obtain ⟨g1, g2, g3, g4, ⟨bf, bt, g5⟩, g6⟩ := hP
  have hn : 1 ≤ nb := g6.2.2.2.2.2.1.1.2.1.1
  rcases Nat.lt_or_ge 1 nb with c | c
  · exact pv_mrow1 h e g1 g2 g3 g4 g5 g6 c hq hC21 hC21b
  · exact pv_mrow0 h e g1 g2 g3 g4 g5 g6 (by omega) hq hC21 hC21b
theorem rl_keepD (h : um m H) (e : ud m H = V2) (hV1 : V1 = upA V 129 6 q (-1 : Int32)) (hR : RDX V m od Y es P f fb q Gr N us S z p nf nm tm bs lv (lcz tm lv P) oid nw wa wn wi wk nb bo cl al ro) (hq : q < pd f 0 P) (hal : al q) (hu : uq F378 V1 V2) (hRS : RSX V2 m od Y es P f N us S z p nf nm tm bs lv (lcz tm lv P) oid nw wa wn wi wk nb bo) (h11 : V2.2.1 129 11 = nI n) (hLS : LSO V2 n (pd f 0 P) (fun t => ∃ c, BIN nb c ∧ GOEb Y V1 P f od S nf nm tm lv (lcz tm lv P) oid nw wa wn wi wk nb bo q c t)) (hfb : fb ≤ 500000) (hO1 : ∀ j, j < fb → (S j, p j) = O1 j) : mu_TV (mu_D (d + 5)) 296 [.inr (.inr (some 129)), .inl (nI q)] H (fun H1 => um m H1 ∧ ur m C H H1 ∧ uq F68x V2 (ud m H1) ∧ RDE (ud m H1) m od Y es P f fb (q + 1) Gr nf nm tm bs lv oid nw wa wn wi wk nb bo cl al O1) := by
  have hR0 := hR
  obtain ⟨h1, ⟨k1, k2, k3, k4, k5⟩, ⟨⟨l6, l6b⟩, ⟨l7, l7b⟩, l8, l8b⟩, ⟨c1, c2⟩, h5, h6, h7, h8⟩ := hR
  obtain ⟨ls, s1, s2, s3⟩ := hLS
  have hpd : pd f 0 P ≤ 16384 := h1.1.1.1.2.2.2.1.2.1
  obtain ⟨g1, g2, g3, g4, g5, g6⟩ := id hRS
  have hlt : ∀ i, i < n → ls i < pd f 0 P := fun i hi => ((s3 (ls i)).mp (lmz_in hi)).1
  have hnn : n ≤ pd f 0 P := by
    refine pig_le (pd f 0 P) n ls hlt (fun i j hi hj he => ?_)
    rcases Nat.lt_or_ge i j with c | c
    · have := s2 i j c hj
      omega
    · rcases Nat.lt_or_ge j i with c' | c'
      · have := s2 j i c' hi
        omega
      · omega
  have l10 : pd f 0 P + 4 ≤ (V2.2.2.1 129 10).1 ∧ (V2.2.2.1 129 10).1 ≤ 16777216 := ⟨g6.2.2.2.2.2.2.2.2.2.1, g6.2.2.2.2.2.2.2.2.2.2⟩
  have n6 : (V2.2.2.1 129 6).1 = (V.2.2.1 129 6).1 := (hu.n 129 6 rfl).trans (by rw [hV1]; rfl)
  have n7 : V2.2.2.1 129 7 = V.2.2.1 129 7 := (hu.a 129 7 rfl).trans (by rw [hV1]; rfl)
  have n8 : (V2.2.2.1 129 8).1 = (V.2.2.1 129 8).1 := (hu.n 129 8 rfl).trans (by rw [hV1]; rfl)
  have hFK : FRK V2 N fb := k1.same ((hu.i 113 5 rfl).trans (by rw [hV1]; rfl)) ((hu.a 113 3 rfl).trans (by rw [hV1]; rfl)) ((hu.a 113 4 rfl).trans (by rw [hV1]; rfl)) ((hu.2.2.2.2.2 rfl).trans (by rw [hV1]; rfl))
  refine (rl_keepRow (d := d) (C := C) (ls := ls) (c := cl q) h e h11 s1 s2 (fun i hi => by have y := hlt i hi; omega) (by omega) (by omega) g6.2.1 (by omega) hFK (by omega) (((hu.i 113 8 rfl).trans (by rw [hV1]; rfl)).trans k4) (by omega) (by omega) (by rw [n7]; omega) (by rw [n7]; omega) (by rw [n7]; exact (c1 q hq).1) (by have y := (c1 q hq).2; omega) (by omega)).imp (fun H1 y => ?_)
  obtain ⟨y1, y2, W, id, y3, y4, y5, y6⟩ := y
  obtain ⟨N', us', S', z', p', y8, y7⟩ := hR0.made hq hal hV1 hu hRS s3 y3 y4 y5 y6
  refine ⟨y1, y2, ?_, N', us', S', z', p', _, fun j hj => by rw [(y8 j (by omega)).1, (y8 j (by omega)).2]; exact hO1 j hj, y7⟩
  rw [y6]
  exact ((((uq.refl F68x V2).tr y3.1 rfl).A rfl).A rfl)
end ReadyRows
