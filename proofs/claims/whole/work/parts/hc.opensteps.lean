/-! GRAPH: open, as a step of the queue -/
/-- a queue with a goal, after a visit: a way has been found, or it goes on -/
def LPE (V : Ud) (G : Nat → Nat → Prop) (Th To : Nat → Prop) (st : Nat) (rx : Nat → Nat) (T R wn ga gi gq hh : Nat) : Prop :=
  (V.2.1 147 15 = -1 ∧ ∃ N W, LEA G Th To st N W ∧ TLD V T st N W) ∨ ∃ (qu pp dp : Nat → Nat) (tl h2 : Nat), LPQ V G Th To st rx qu pp dp T R wn ga gi gq tl h2 ∧ (V.2.1 147 15 = -1 ∨ hh < h2)
/-- a queue without a goal; what it has met is in 149 at the end -/
def BFJ (V : Ud) (E ini : Nat → Prop) (G : Nat → Nat → Prop) (rx : Nat → Nat) (T R wn hh : Nat) : Prop :=
  ∃ (qu : Nat → Nat) (tl h2 : Nat), BFQ V E ini G rx qu T R wn tl h2 ∧ V.2.1 147 14 = 0 ∧ V.2.2.2.1 147 8 = none ∧ ((V.2.1 147 15 = -1 ∧ ∀ s, s < T → (bts (V.2.2.2.2.1 149) s = true ↔ RCH ini G s)) ∨ (hh < h2 ∧ ¬ V.2.1 147 15 = -1 ∧ ∀ s, s < T → bts (V.2.2.2.2.1 149) s = true → ∃ i, i < tl ∧ qu i = s))
section OpenSteps
variable {H : mu_H} {U V X : Ud} {m d wn T R tl hh st ga gi gq bf bt r : Nat} {C : Nat → Nat} {rx mb me qu pp dp ix : Nat → Nat} {G RB : Nat → Nat → Prop} {Th To E ini : Nat → Prop}
theorem opw_nk {hd : Nat} (hX : X.2.2.1 147 10 = U.2.2.1 147 10) (hOP : OPW X V ix rx qu hd hh) : NK U V := by
  rcases hOP with ⟨-, -, h10⟩ | ⟨k2, -, -, -, -, -, h10⟩
  · exact NK.of_eq (h10.trans hX)
  · intro j hj
    rw [h10, hX]
    exact if_neg (by omega)
theorem ix_of (hnd : ∀ r, r < R → (U.2.2.1 147 10).2 (r * 7 + 1) = 0 ∨ (U.2.2.1 147 10).2 (r * 7 + 1) = 1) : ∃ ix : Nat → Nat, ∀ r, r < R → (U.2.2.1 147 10).2 (r * 7 + 1) = nI (ix r) ∧ ix r < 2147483648 := by
  refine ⟨fun r => if (U.2.2.1 147 10).2 (r * 7 + 1) = 0 then 0 else 1, fun r hr => ?_⟩
  show _ = nI (if (U.2.2.1 147 10).2 (r * 7 + 1) = 0 then 0 else 1) ∧ (if (U.2.2.1 147 10).2 (r * 7 + 1) = 0 then 0 else 1) < 2147483648
  by_cases y : (U.2.2.1 147 10).2 (r * 7 + 1) = 0
  · rw [if_pos y]; exact ⟨y, by decide⟩
  · rw [if_neg y]; exact ⟨(hnd r hr).resolve_left y, by decide⟩
theorem gr_openG (h : um m H) (e : ud m H = U) (hG : GRB U T R wn rx mb me) (hQ : LPQ U G Th To st rx qu pp dp T R wn ga gi gq tl hh) (hwa : U.2.1 147 15 = nI r) (hr : r < R) (hrow : ROW U RB r bf bt) (hGR : ∀ s t, s < T → (G s t ↔ RB (rx s) t)) (hGT : ∀ s t, G s t → t < T) (hRT2 : ∀ x t, RB x t → t < T) : mu_TV (mu_D (d + 4)) 323 [.inr (.inr (some 147))] H (fun H1 => um m H1 ∧ ur m C H H1 ∧ uq F323g U (ud m H1) ∧ NK U (ud m H1) ∧ (ud m H1).2.1 147 14 = 0 ∧ LPE (ud m H1) G Th To st rx T R wn ga gi gq hh) := by
  obtain ⟨⟨⟨hg12, hg11⟩, hgwn, hTb⟩, ⟨⟨g6a, g6b⟩, hrx⟩, ⟨hRT, g10a, g10b⟩, ⟨g11a, g11b⟩, ⟨g12a, g12b⟩, ⟨g13a, g13b⟩, hmb, hme, hmp⟩ := id hG
  obtain ⟨⟨⟨q18, q17, qht⟩, q14, q19⟩, qqu, qpa, q150, ⟨c, c1, c2, c3⟩, qnd, ⟨qgo, qgl, qto, qT⟩, qend⟩ := id hQ
  obtain ⟨k, hk, hkw, hD⟩ : ∃ k, hh = k + 1 ∧ U.2.1 147 15 = nI (rx (qu k)) ∧ LPD G Th To st qu pp dp tl k := by
    rcases qend with ⟨y, -⟩ | y
    · rw [hwa] at y
      exact absurd y (nI_neg1 (by omega))
    · exact y
  subst hk
  have hkt : k < tl := by omega
  have hkT := (qqu k hkt).2
  have hrk : rx (qu k) = r := by
    have y1 := (hrx _ hkT).2
    have y2 := hkw
    rw [hwa] at y2
    exact (nI_inj (by omega) (by omega) y2).symm
  have hbits : ∀ s, s < T → (bts (U.2.2.2.2.1 146) s = true ↔ G (qu k) s) := fun s hs => by
    rw [hGR _ _ hkT, hrk]
    exact hrow.2 s (by omega)
  have hTw : T ≤ 64 * wn := by omega
  have hwnb : wn ≤ 256 := by omega
  obtain ⟨ix, hix⟩ := ix_of (fun r hr => (qnd r hr).1)
  refine (gr_row1 (d := d) (C := C) (wn := wn) (c := c) (k := k) (tl := tl) (T := T) (R := R) (bf := bf) (bt := bt) (rx := rx) (qu := qu) (ix := ix) (ga := ga) (gi := gi) (gq := gq) h e hg12 hwnb c1 c2 c3 q17 q18 (by omega) g12a g12b g13a g13b qqu hD.2.1 (fun i hi y => ?_) (fun s hs y => ?_) hrow.1 hTb g6a g6b hrx (by omega) g10b hix qgo qgl).imp (fun H1 z => ?_)
  · have hiT := (qqu i hi).2
    obtain ⟨-, w1, w2⟩ := (q150 (qu i) (by omega)).mp y
    by_cases i0 : i = 0
    · have hq0 : qu i = st := by rw [i0]; exact hD.1.2.1
      rw [hq0] at hiT w1 ⊢
      exact (qto st hiT).mpr (Classical.byContradiction (fun w => w1 ⟨rfl, w⟩))
    · exact absurd rfl (w2 i (by omega) hi)
  · exact hRT2 _ s ((hrow.2 s hs).mp y)
  · obtain ⟨u1, r1, z1, ⟨w15, w14, w10, t, n, ls, w19, b1, b2, b3, b4, b5, b6⟩ | ⟨X, n, ls, x1, x2, x3, x4, x5, x6, x7, x8, h2, x9, x10, x11, x12, x13⟩⟩ := z
    · exact ⟨u1, r1, z1, NK.of_eq w10, w14.trans q14, Or.inl ⟨w15, hQ.told (fun s hs => (hrx s hs).2) (by omega) hkw hkt hbits hTw hGT w19 b1 b2 b3 b4 b5 b6⟩⟩
    · obtain ⟨pn, dn, hL⟩ := hQ.row (RW := RB) (fun s hs => (hrx s hs).2) (by omega) hkw hkt hrow.1 hwnb hGR hbits hTw x1 x2 x3 x5 x6 x7 x9 x10 x11 hix x12 x13 x8 ((z1.r 147 8 rfl).trans qgo) (qgl.q z1 (fun _ => rfl) (fun _ => rfl) rfl) (lsf_q qgl z1 rfl rfl rfl)
      refine ⟨u1, r1, z1, opw_nk x2.2.2.2 x12, x8.1, Or.inr ⟨_, pn, dn, _, h2, hL, ?_⟩⟩
      rcases x12 with ⟨y, -⟩ | ⟨k2, y1, y2, -⟩
      · exact Or.inl y
      · exact Or.inr (by omega)
theorem gr_openO (h : um m H) (e : ud m H = U) (hG : GRB U T R wn rx mb me) (hQ : BFQ U E ini G rx qu T R wn tl hh) (h14 : U.2.1 147 14 = 0) (hgo : U.2.2.2.1 147 8 = none) (h149 : ∀ s, s < T → bts (U.2.2.2.2.1 149) s = true → ∃ i, i < tl ∧ qu i = s) (hwa : U.2.1 147 15 = nI r) (hr : r < R) (hrow : ROW U RB r bf bt) (hGR : ∀ s t, s < T → (G s t ↔ RB (rx s) t)) (hGE : ∀ s t, G s t → E t) (hET : ∀ s, E s → s < T) (hRT2 : ∀ x t, RB x t → t < T) : mu_TV (mu_D (d + 4)) 323 [.inr (.inr (some 147))] H (fun H1 => um m H1 ∧ ur m C H H1 ∧ uq F323 U (ud m H1) ∧ NK U (ud m H1) ∧ (ud m H1).2.1 147 14 = 0 ∧ BFJ (ud m H1) E ini G rx T R wn hh) := by
  obtain ⟨⟨⟨hg12, hg11⟩, hgwn, hTb⟩, ⟨⟨g6a, g6b⟩, hrx⟩, ⟨hRT, g10a, g10b⟩, ⟨g11a, g11b⟩, ⟨g12a, g12b⟩, ⟨g13a, g13b⟩, hmb, hme, hmp⟩ := id hG
  obtain ⟨⟨q18, q17, qht⟩, qqu, qinj, qini, q150, ⟨c, c1, c2, c3⟩, qnd, qfo, qend⟩ := id hQ
  obtain ⟨k, hk, hkw⟩ : ∃ k, hh = k + 1 ∧ U.2.1 147 15 = nI (rx (qu k)) := by
    rcases qend with y | y
    · rw [hwa] at y
      exact absurd y (nI_neg1 (by omega))
    · exact y
  subst hk
  have hkt : k < tl := by omega
  have hkT := (qqu k hkt).2.1
  have hrk : rx (qu k) = r := by
    have y1 := (hrx _ hkT).2
    have y2 := hkw
    rw [hwa] at y2
    exact (nI_inj (by omega) (by omega) y2).symm
  have hbits : ∀ s, s < T → (bts (U.2.2.2.2.1 146) s = true ↔ RB (rx (qu k)) s) := fun s hs => by
    rw [hrk]
    exact hrow.2 s (by omega)
  have hTw : T ≤ 64 * wn := by omega
  have hwnb : wn ≤ 256 := by omega
  obtain ⟨ix, hix⟩ := ix_of (fun r hr => (qnd r hr).1)
  refine (gr_row0 (d := d) (C := C) (wn := wn) (c := c) (k := k) (tl := tl) (T := T) (R := R) (bf := bf) (bt := bt) (rx := rx) (qu := qu) (ix := ix) h e hg12 hwnb c1 c2 c3 q17 q18 (by omega) g12a g12b g13a g13b (fun i hi => ⟨(qqu i hi).1, (qqu i hi).2.1⟩) qinj (fun i hi y => ?_) (fun s hs y => ?_) hrow.1 hTb g6a g6b hrx (by omega) g10b hix hgo).imp (fun H1 z => ?_)
  · have hiT := (qqu i hi).2.1
    exact ((q150 (qu i) (by omega)).mp y).2 i hi rfl
  · exact hRT2 _ s ((hrow.2 s hs).mp y)
  · obtain ⟨u1, r1, z1, X, n, ls, x1, x2, x2b, x3, x4, x5, x7, x8, h2, x9, x10, x11, x12, x13, x14, x15⟩ := z
    have hL := hQ.row (RW := RB) (fun s hs => (hrx s hs).2) (by omega) hkw hrow.1 hwnb hET hGR hGE hbits hTw x1 x2 x3 x5 x7 x9 x10 x11 hix x12
    refine ⟨u1, r1, z1, opw_nk x2.2.2.2 x12, x8.1, _, _, h2, hL, x8.1, (z1.r 147 8 rfl).trans hgo, ?_⟩
    have hold : ∀ i, i < tl → (fun i => if i < tl then qu i else ls (i - tl)) i = qu i := fun i hi => if_pos hi
    have hin : ∀ s, s < T → bts (X.2.2.2.2.1 149) s = true → ∃ i, i < tl + n ∧ (fun i => if i < tl then qu i else ls (i - tl)) i = s := fun s hs y => by
      rw [x2b] at y
      obtain ⟨i, i1, i2⟩ := h149 s hs y
      exact ⟨i, by omega, (hold i i1).trans i2⟩
    by_cases hw : (ud m H1).2.1 147 15 = -1
    · refine Or.inl ⟨hw, fun s hs => ?_⟩
      have hf := hL.fin hw (fun i hi => Nat.lt_of_lt_of_le (hrx _ (hL.2.1 i hi).2.1).2 (by omega)) ?_ hGE (fun s y => by have := hET s y; omega) s
      · rw [hf, x14 hw s (by omega)]
        exact ⟨fun y => y.elim (fun w => hin s hs w) id, Or.inr⟩
      · rcases x13 hw with y | y
        · exact Or.inl y
        · exact Or.inr (by rw [← x1]; exact y)
    · refine Or.inr ⟨?_, hw, fun s hs y => hin s hs (by rw [← x15 hw]; exact y)⟩
      rcases x12 with ⟨y, -⟩ | ⟨k2, y1, y2, -⟩
      · exact absurd y hw
      · omega
end OpenSteps
