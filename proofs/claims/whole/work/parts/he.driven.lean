/-! ROWS while a search is driven -/
def rok4 (F : Uf) : Bool := !in1 F.t 15 && (!in1 F.t 24 && (!in1 F.t 25 && (!in1 F.t 27 && (!in2 F.i 113 1 && (!in2 F.i 113 2 && (!in2 F.i 113 5 && (!in2 F.a 129 4 && (!in2 F.a 113 3 && (!in2 F.a 113 4 && (!in2 F.a 99 8 && (!in2 F.i 113 8 && (!in2 F.a 129 6 && (!in2 F.a 129 7 && (!in2 F.a 129 8 && (!in2 F.a 129 15 && (!in2 F.n 129 12 && (!in1 F.l 145 && !in1 F.l 124)))))))))))))))))
section RowsDriven
variable {H : mu_H} {V V' V2 : Ud} {m d P q fb nf nw nb N us r s n : Nat} {C : Nat → Nat} {Y : Ts} {f od bs lv lc wa wn wi cl ro z : Nat → Nat} {es : Nat → Int32} {nm tm : Nat → Int32} {wk p : Nat → Bool} {S : Nat → Nat → Bool} {bo oid : Nat → Nat → Nat} {Gr : Nat → Nat → Prop} {al Q : Nat → Prop} {F : Uf}
theorem FRK.same4 (h : FRK V N fb) (e5 : V'.2.1 113 5 = V.2.1 113 5) (e3 : V'.2.2.1 113 3 = V.2.2.1 113 3) (e4 : V'.2.2.1 113 4 = V.2.2.1 113 4) (ep : V'.2.2.2.2.2 114 = V.2.2.2.2.2 114) : FRK V' N fb := by
  unfold FRK sat at *
  rw [e5, e3, e4, ep]
  exact h
/-- the rows stay if the store does, whatever other arrays of longs there are -/
theorem RDX.keep4 (h : RDX V m od Y es P f fb q Gr N us S z p nf nm tm bs lv lc oid nw wa wn wi wk nb bo cl al ro) (hq : uq F V V') (hk : kok F = true) (hs : sokf F = true) (hr : rok4 F = true) (ep : V'.2.2.2.2.2 114 = V.2.2.2.2.2 114) : RDX V' m od Y es P f fb q Gr N us S z p nf nm tm bs lv lc oid nw wa wn wi wk nb bo cl al ro := by
  unfold rok4 at hr
  simp only [Bool.and_eq_true, Bool.not_eq_true'] at hr
  obtain ⟨t15, t24, t25, t27, i1, i2, i5, a4, a3, a13, a98, i8, a6, a7, a8, a15, n12, l145, l124⟩ := hr
  obtain ⟨⟨h1, hlc⟩, ⟨k1, k2, k3, k4, k5⟩, h3, ⟨c1, c2⟩, ⟨w1, w2⟩, h6, h7, h8⟩ := h
  obtain ⟨-, ⟨-, -, -, -, -, i9, -, -⟩, -, ⟨-, -, -, n10⟩, -⟩ := sok_eq hq hs
  obtain ⟨g1, g2, g3, g4, g5, ⟨g6, g6b, g6c⟩, g7, g8, g9, g10, g11⟩ := h1.2.2.2.2.2
  have e15 := hq.t 15 t15
  have e24 := hq.t 24 t24
  have e25 := hq.t 25 t25
  have e27 := hq.t 27 t27
  have b4 := hq.a 129 4 a4
  have b98 := hq.a 99 8 a98
  have hrm : ∀ s t, (MNB Y V' P f od S nf nm tm oid nw wa wn wi wk nb bo s t ↔ MNB Y V P f od S nf nm tm oid nw wa wn wi wk nb bo s t) := fun s t => mnb_to (U := V) g1 h1.1.2.1 g6b (fun _ _ => rfl) e25 e15 b98
  refine ⟨⟨h1.fr hq hk hs ⟨by unfold FAC at g1 ⊢; rw [e24, b4]; exact g1, g2.eq (hq.i 113 1 i1) (hq.i 113 2 i2) (hq.i 113 5 i5) (hq.a 113 3 a3) (hq.a 113 4 a13) ep, by rw [e15, e25]; exact g3, by unfold CHN at g4 ⊢; rw [e24, hq.a 129 15 a15]; exact g4, vdf_same g5 i9 b98, ⟨by unfold BRT at g6 ⊢; rw [e27]; exact g6, g6b, g6c⟩, g7, by rw [hq.n 129 12 n12]; exact g8, by rw [hq.n 129 12 n12]; exact g9, by rw [n10]; exact g10, by rw [n10]; exact g11⟩, hlc⟩, ⟨k1.same4 (hq.i 113 5 i5) (hq.a 113 3 a3) (hq.a 113 4 a13) ep, k2, k3, (hq.i 113 8 i8).trans k4, k5⟩, by rw [hq.a 129 6 a6, hq.a 129 7 a7, hq.a 129 8 a8]; exact h3, ⟨by rw [hq.a 129 7 a7]; exact c1, fun s s' hs1 hs2 hc t ht => (hrm s t).trans ((c2 s s' hs1 hs2 hc t ht).trans (hrm s' t).symm)⟩, ⟨by rw [hq.l 145 l145]; exact w1, fun s t hs1 ht => (w2 s t hs1 ht).trans (and_congr Iff.rfl (hrm s t).symm)⟩, by rw [hq.a 129 6 a6, hq.l 124 l124]; exact h6, by rw [hq.a 129 8 a8]; exact h7, h8⟩
/-- a row has been made -/
theorem RDX.mrow (h : RDX V m od Y es P f fb q Gr N us S z p nf nm tm bs lv lc oid nw wa wn wi wk nb bo cl al ro) (hu : uq F378 V V2) (hRS : RSX V2 m od Y es P f N us S z p nf nm tm bs lv lc oid nw wa wn wi wk nb bo) : RDX V2 m od Y es P f fb q Gr N us S z p nf nm tm bs lv lc oid nw wa wn wi wk nb bo cl al ro := by
  obtain ⟨⟨h1, hlc⟩, ⟨k1, k2, k3, k4, k5⟩, h3, ⟨c1, c2⟩, ⟨w1, w2⟩, h6, h7, h8⟩ := h
  have hrm : ∀ s t, (MNB Y V2 P f od S nf nm tm oid nw wa wn wi wk nb bo s t ↔ MNB Y V P f od S nf nm tm oid nw wa wn wi wk nb bo s t) := fun s t => mnb_to (U := V) h1.2.2.2.2.2.1 h1.1.2.1 h1.2.2.2.2.2.2.2.2.2.2.1.2.1 (fun _ _ => rfl) (hu.t 25 rfl) (hu.t 15 rfl) (hu.a 99 8 rfl)
  exact ⟨⟨hRS, hlc⟩, ⟨k1.same (hu.i 113 5 rfl) (hu.a 113 3 rfl) (hu.a 113 4 rfl) (hu.2.2.2.2.2 rfl), k2, k3, (hu.i 113 8 rfl).trans k4, k5⟩, by rw [hu.a 129 6 rfl, hu.a 129 7 rfl, hu.a 129 8 rfl]; exact h3, ⟨by rw [hu.a 129 7 rfl]; exact c1, fun s s' hs1 hs2 hc t ht => (hrm s t).trans ((c2 s s' hs1 hs2 hc t ht).trans (hrm s' t).symm)⟩, ⟨by rw [hu.l 145 rfl]; exact w1, fun s t hs1 ht => (w2 s t hs1 ht).trans (and_congr Iff.rfl (hrm s t).symm)⟩, by rw [hu.a 129 6 rfl, hu.l 124 rfl]; exact h6, by rw [hu.a 129 8 rfl]; exact h7, h8⟩
/-- a row has been laid out -/
theorem RDX.lay (h : RDX V m od Y es P f fb q Gr N us S z p nf nm tm bs lv lc oid nw wa wn wi wk nb bo cl al ro) (hu : uq F271 V V2) (hz : ∃ bf bt, BZ V2 bf bt) : RDX V2 m od Y es P f fb q Gr N us S z p nf nm tm bs lv lc oid nw wa wn wi wk nb bo cl al ro := by
  obtain ⟨⟨h1, hlc⟩, ⟨k1, k2, k3, k4, k5⟩, h3, ⟨c1, c2⟩, ⟨w1, w2⟩, h6, h7, h8⟩ := h
  obtain ⟨r1, r2, r3, r4, -, g1, g2, g3, g4, g5, ⟨g6, g6b, g6c⟩, g7, g8, g9, g10, g11⟩ := id h1
  have hrm : ∀ s t, (MNB Y V2 P f od S nf nm tm oid nw wa wn wi wk nb bo s t ↔ MNB Y V P f od S nf nm tm oid nw wa wn wi wk nb bo s t) := fun s t => mnb_to (U := V) g1 r1.2.1 g6b (fun _ _ => rfl) (hu.t 25 rfl) (hu.t 15 rfl) (hu.a 99 8 rfl)
  have hRS : RSX V2 m od Y es P f N us S z p nf nm tm bs lv lc oid nw wa wn wi wk nb bo := ⟨r1.q hu rfl, mcs_eq r2 (hu.t 22 rfl) (hu.n 100 3 rfl) (hu.n 100 8 rfl) (hu.n 100 12 rfl) (hu.n 100 13 rfl) (hu.n 100 15 rfl), mlw_eq r3 (hu.t 21 rfl) (hu.t 22 rfl) (hu.t 15 rfl) (hu.a 100 3 rfl) (hu.i 100 5 rfl) (hu.i 100 7 rfl) (hu.i 100 17 rfl) (hu.i 100 4 rfl) (hu.a 100 8 rfl) (hu.n 100 12 rfl) (hu.n 100 13 rfl) (hu.n 100 15 rfl) (hu.a 99 8 rfl), r4.same (hu.t 21 rfl) (hu.i 100 6 rfl) (hu.t 15 rfl) (hu.i 100 4 rfl), hz, by unfold FAC at g1 ⊢; rw [hu.t 24 rfl, hu.a 129 4 rfl]; exact g1, g2.q hu rfl rfl rfl rfl rfl rfl, by rw [hu.t 15 rfl, hu.t 25 rfl]; exact g3, by unfold CHN at g4 ⊢; rw [hu.t 24 rfl, hu.a 129 15 rfl]; exact g4, vdf_same g5 (hu.i 99 9 rfl) (hu.a 99 8 rfl), ⟨by unfold BRT at g6 ⊢; rw [hu.t 27 rfl]; exact g6, g6b, g6c⟩, g7, by rw [hu.n 129 12 rfl]; exact g8, by rw [hu.n 129 12 rfl]; exact g9, by rw [hu.n 129 10 rfl]; exact g10, by rw [hu.n 129 10 rfl]; exact g11⟩
  exact ⟨⟨hRS, hlc⟩, ⟨k1.same (hu.i 113 5 rfl) (hu.a 113 3 rfl) (hu.a 113 4 rfl) (hu.2.2.2.2.2 rfl), k2, k3, (hu.i 113 8 rfl).trans k4, k5⟩, by rw [hu.a 129 6 rfl, hu.a 129 7 rfl, hu.a 129 8 rfl]; exact h3, ⟨by rw [hu.a 129 7 rfl]; exact c1, fun s s' hs1 hs2 hc t ht => (hrm s t).trans ((c2 s s' hs1 hs2 hc t ht).trans (hrm s' t).symm)⟩, ⟨by rw [hu.l 145 rfl]; exact w1, fun s t hs1 ht => (w2 s t hs1 ht).trans (and_congr Iff.rfl (hrm s t).symm)⟩, by rw [hu.a 129 6 rfl, hu.l 124 rfl]; exact h6, by rw [hu.a 129 8 rfl]; exact h7, h8⟩
/-- a row is there, or it found no room; that of the STATES that GO to none is there -/
theorem RDX.row (h : RDX V m od Y es P f fb q Gr N us S z p nf nm tm bs lv lc oid nw wa wn wi wk nb bo cl al ro) (hr : fb + r < N) : (∃ st fc, sat V (fb + r) st fc ∧ stz fc st (S (fb + r))) ∨ (¬ r = 0 ∧ ∃ n, sab V (fb + r) n) := by
  have hS := h.1.1.2.2.2.2.2.2.1
  have h8 := h.2.2.2.2.2.2.2
  cases hp : p (fb + r)
  · refine Or.inr ⟨fun z => ?_, _, hS.2.2.2.2.2.1 _ hr hp⟩
    rw [z, Nat.add_zero, h8.1] at hp
    cases hp
  · obtain ⟨st, fc, y1, y2, -⟩ := hS.2.2.2.2.1 _ hr hp
    exact Or.inl ⟨st, fc, y1, y2⟩
/-- what is made for a STATE whose row found no room is its row -/
theorem RDX.again (h : RDX V m od Y es P f fb q Gr N us S z p nf nm tm bs lv lc oid nw wa wn wi wk nb bo cl al ro) (hs : s < q) (hq : q ≤ pd f 0 P) (h0 : ¬ ro s = 0) (x : Nat) : (x < pd f 0 P ∧ ∃ c, BIN nb c ∧ GOEb Y V P f od S nf nm tm lv lc oid nw wa wn wi wk nb bo s c x) ↔ S (fb + ro s) x = true := by
  obtain ⟨⟨h1, hlc⟩, -, -, -, ⟨-, w2⟩, h6, -, h8⟩ := h
  have hal : al s := Classical.byContradiction (fun y => h0 (h8.2.1 s hs y))
  rw [(h6 s hs).2.2 x, goe_mnb h1.1 h1.2.2.2.2.2.1 hlc h1.2.2.2.2.2.2.2.1 h1.2.2.2.2.2.2.2.2.2.2.1.2.1 h1.2.2.2.2.2.2.2.2.2.2.1.2.2 (by omega)]
  refine and_congr_right (fun hx => and_congr_right (fun _ => ?_))
  rw [w2 s x (by omega) hx]
  exact ⟨fun y => ⟨hal, y⟩, fun y => y.2⟩
theorem dr_recall (h : um m H) (e : ud m H = V) (hR : RDX V m od Y es P f fb q Gr N us S z p nf nm tm bs lv lc oid nw wa wn wi wk nb bo cl al ro) {st : Nat} {fc : Nat → Int64} (h1 : sat V (fb + r) st fc) (h2 : stz fc st (S (fb + r))) (hS : ∀ x, S (fb + r) x = true → x < 16384) : mu_TV (mu_D (d + 4)) 272 [.inr (.inr (some 129)), .inl (nI r)] H (fun H1 => um m H1 ∧ ur m C H H1 ∧ uq F271 V (ud m H1) ∧ RDX (ud m H1) m od Y es P f fb q Gr N us S z p nf nm tm bs lv lc oid nw wa wn wi wk nb bo cl al ro ∧ ∃ bf bt, ROW (ud m H1) (fun r x => S (fb + r) x = true) r bf bt) := by
  obtain ⟨bf, bt, hz⟩ := hR.1.1.2.2.2.2.1
  refine (rl_recall (d := d) (C := C) (id := fb + r) h e hz hR.2.1.2.2.2.1 rfl h1 h2 hS).imp (fun H1 y => ?_)
  obtain ⟨y1, y2, y3, bf', bt', y4, y5⟩ := y
  exact ⟨y1, y2, y3, hR.lay y3 ⟨bf', bt', y4⟩, bf', bt', y4, y5⟩
theorem pv_mrowE (h : um m H) (e : ud m H = V) (hR : RSX V m od Y es P f N us S z p nf nm tm bs lv lc oid nw wa wn wi wk nb bo) (hs : s < pd f 0 P) (hC21 : 2 * (((Y 13).1 + 2) * 4) + 4 ≤ C 21) (hC21b : C 21 ≤ 8388608) : mu_TV (mu_D (d + 20)) 378 [.inr (.inr (some 0)), .inl (nI s)] H (fun H1 => um m H1 ∧ ur m C H H1 ∧ uq F378 V (ud m H1) ∧ RSX (ud m H1) m od Y es P f N us S z p nf nm tm bs lv lc oid nw wa wn wi wk nb bo ∧ ∃ n, (ud m H1).2.1 129 11 = nI n ∧ LSO (ud m H1) n (pd f 0 P) (fun t => ∃ c, BIN nb c ∧ GOEb Y V P f od S nf nm tm lv lc oid nw wa wn wi wk nb bo s c t)) := by
  obtain ⟨g1, g2, g3, g4, ⟨bf, bt, g5⟩, g6⟩ := hR
  have hn : 1 ≤ nb := g6.2.2.2.2.2.1.1.2.1.1
  rcases Nat.lt_or_ge 1 nb with c | c
  · exact pv_mrow1 h e g1 g2 g3 g4 g5 g6 c hs hC21 hC21b
  · exact pv_mrow0 h e g1 g2 g3 g4 g5 g6 (by omega) hs hC21 hC21b
theorem dr_lay (h : um m H) (e : ud m H = V) (hR : RDX V m od Y es P f fb q Gr N us S z p nf nm tm bs lv lc oid nw wa wn wi wk nb bo cl al ro) (hn : V.2.1 129 11 = nI n) (hL : LSO V n (pd f 0 P) Q) : mu_TV (mu_D (d + 4)) 271 [.inr (.inr (some 129))] H (fun H1 => um m H1 ∧ ur m C H H1 ∧ uq F271 V (ud m H1) ∧ RDX (ud m H1) m od Y es P f fb q Gr N us S z p nf nm tm bs lv lc oid nw wa wn wi wk nb bo cl al ro ∧ ∃ bf bt, BZ (ud m H1) bf bt ∧ ∀ t, t < 16384 → (bts ((ud m H1).2.2.2.2.1 146) t = true ↔ t < pd f 0 P ∧ Q t)) := by
  obtain ⟨bf, bt, hz⟩ := hR.1.1.2.2.2.2.1
  have hle := hL.le
  obtain ⟨ls, l1, l2, l3⟩ := hL
  have hpd : pd f 0 P ≤ 16384 := hR.1.1.1.1.2.2.2.1.2.1
  have g10 := hR.1.1.2.2.2.2.2.2.2.2.2.2.2.2.2.2.1
  have g11 := hR.1.1.2.2.2.2.2.2.2.2.2.2.2.2.2.2.2
  refine (rl_lay (d := d) (C := C) (ls := ls) h e hz hn l1 (by omega) (by omega) (fun i hi => by have y := ((l3 (ls i)).mp (lmz_in hi)).1; omega) l2).imp (fun H1 y => ?_)
  obtain ⟨y1, y2, y3, bf', bt', y4, y5⟩ := y
  exact ⟨y1, y2, y3, hR.lay y3 ⟨bf', bt', y4⟩, bf', bt', y4, fun t ht => (y5 t ht).trans (l3 t)⟩
end RowsDriven
