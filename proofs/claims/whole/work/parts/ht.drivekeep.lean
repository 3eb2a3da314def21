/-! drive: what is kept meanwhile -/
def FDK : Uf := ⟨[22, 24, 21], [(129, 11), (129, 19), (129, 20), (129, 21), (100, 4), (100, 5), (100, 6), (100, 7), (100, 17), (100, 18), (100, 21), (100, 19), (100, 20), (100, 14), (100, 16), (147, 14), (147, 15), (147, 16), (147, 17), (147, 18), (147, 20), (147, 21), (147, 22), (147, 19)], [(129, 16), (129, 13), (129, 12), (100, 3), (100, 8), (100, 12), (100, 13), (100, 15), (100, 9), (100, 10), (100, 11), (129, 10), (147, 10), (147, 12), (147, 13)], [(100, 3), (100, 8), (100, 12), (100, 13), (100, 15)], [126, 146, 150, 152, 151, 148, 162], true⟩
def FDE : Uf := ⟨[22, 24, 21], [(129, 11), (129, 19), (129, 20), (129, 21), (100, 4), (100, 5), (100, 6), (100, 7), (100, 17), (100, 18), (100, 21), (100, 19), (100, 20), (100, 14), (100, 16), (147, 14), (147, 15), (147, 16), (147, 17), (147, 18), (147, 19)], [(129, 16), (129, 13), (129, 12), (100, 3), (100, 8), (100, 12), (100, 13), (100, 15), (100, 9), (100, 10), (100, 11), (129, 10), (147, 10), (147, 12), (147, 13)], [(100, 3), (100, 8), (100, 12), (100, 13), (100, 15)], [126, 146, 149, 150], false⟩
section DriveK
variable {H0 : mu_H} {m d P fb nf nw nb N us R wd N0 ga gi gq ev nk st : Nat} {C : Nat → Nat} {Y : Ts} {f od bs lv lc wa wn wi cl ro z mb me : Nat → Nat} {es : Nat → Int32} {nm tm : Nat → Int32} {wk p : Nat → Bool} {S : Nat → Nat → Bool} {bo oid : Nat → Nat → Nat} {Gr G : Nat → Nat → Prop} {al A g0 Th To : Nat → Prop} {FS : Nat → Nat → Bool} {Φ : mu_R → Prop}
theorem dr_sweepK {V0 : Ud} (hRN : R = N - fb) (hmem : ∀ r, ¬ r = 0 → r < R → ∃ s, s < pd f 0 P ∧ ro s = r) (hC21 : 2 * (((Y 13).1 + 2) * 4) + 4 ≤ C 21) (hC21b : C 21 ≤ 8388608)
    (hfin : ∀ (i' : Nat) (H3 : mu_H) (ph : Nat), um m H3 → i' + 1 ≤ N0 → ur m C H0 H3 → RDX (ud m H3) m od Y es P f fb (pd f 0 P) Gr N us S z p nf nm tm bs lv lc oid nw wa wn wi wk nb bo cl al ro → GRB (ud m H3) (pd f 0 P) R wd ro mb me → SWJ (ud m H3) (pd f 0 P) R wd ro mb me ga gi gq (fun r x => S (fb + r) x = true) A g0 ev nk FS ph → uq FDK V0 (ud m H3) → GKP ga gi V0 (ud m H3) → (ud m H3).2.1 147 15 = -1 → mu_W (mu_D (d + 20)) mu_m376 (2, [(1, .inl (nI i')), (0, .inr (.inr (some 0)))], [], H3) Φ) (hN0 : N0 ≤ 1073741824) :
    ∀ (ph i : Nat) (H : mu_H), i + ph + 1 ≤ N0 → um m H → ur m C H0 H → RDX (ud m H) m od Y es P f fb (pd f 0 P) Gr N us S z p nf nm tm bs lv lc oid nw wa wn wi wk nb bo cl al ro → GRB (ud m H) (pd f 0 P) R wd ro mb me → SWJ (ud m H) (pd f 0 P) R wd ro mb me ga gi gq (fun r x => S (fb + r) x = true) A g0 ev nk FS ph → uq FDK V0 (ud m H) → GKP ga gi V0 (ud m H) → mu_W (mu_D (d + 20)) mu_m376 (2, [(1, .inl (nI i)), (0, .inr (.inr (some 0)))], [], H) Φ := by
  intro ph i H a1 a2 a3 a4 a5 a6 a7 a8
  refine dr_run (d := d) (C := C) (J := fun ph V => SWJ V (pd f 0 P) R wd ro mb me ga gi gq (fun r x => S (fb + r) x = true) A g0 ev nk FS ph ∧ uq FDK V0 V ∧ GKP ga gi V0 V) hRN hmem hC21 hC21b (fun ph V h => h.1.want) (fun ph U V h hq => ⟨h.1.kept hq, h.2.1.tr hq rfl, h.2.2.trans (gkp_q hq rfl rfl rfl)⟩) (fun ph H2 V r bf bt u2 d2 hR hG hJ2 hwa hr hrow => ?_) (fun i' H3 ph u3 k1 k2 k3 k4 k5 k6 => hfin i' H3 ph u3 k1 k2 k3 k4 k5.1 k5.2.1 k5.2.2 k6) hN0 ph i H a1 a2 a3 a4 a5 ⟨a6, a7, a8⟩
  obtain ⟨hJ, hJ3⟩ := hJ2
  have hRT := hG.2.2.1.1
  have hTb := hG.1.2.2
  refine (gr_visitS (d := d + 12) (C := C) u2 d2 hR.1.1.2.2.2.2.2.2.1.1.2.2.1 hR.2.1.2.2.2.1 (by have := hR.2.1.2.1; omega) hRN hwa hr (by omega) hJ hrow).imp (fun H3 y => ?_)
  obtain ⟨y1, y2, y3, y4, y5, y6⟩ := y
  have ha : ¬ ga = 114 := by
    rcases hJ.base.2 with w | w
    · have := w.1; omega
    · have := w.1; omega
  exact ⟨y1, y2, hR.keep4 y3 rfl rfl rfl (funext fun c => y4.2.1 114 c (fun w => ha w.1)), y6.base.1, ph - 1, by omega, y6, hJ3.1.tr y3 rfl, hJ3.2.trans y4⟩
theorem dr_leadK {V0 : Ud} (hRN : R = N - fb) (hmem : ∀ r, ¬ r = 0 → r < R → ∃ s, s < pd f 0 P ∧ ro s = r) (hC21 : 2 * (((Y 13).1 + 2) * 4) + 4 ≤ C 21) (hC21b : C 21 ≤ 8388608) (hrx : ∀ s, s < pd f 0 P → ro s < R) (hGR : ∀ s t, s < pd f 0 P → (G s t ↔ S (fb + ro s) t = true)) (hGT : ∀ s t, G s t → t < pd f 0 P) (hST : ∀ r x, S (fb + r) x = true → x < pd f 0 P)
    (hfin : ∀ (i' : Nat) (H3 : mu_H) (ph : Nat), um m H3 → i' + 1 ≤ N0 → ur m C H0 H3 → RDX (ud m H3) m od Y es P f fb (pd f 0 P) Gr N us S z p nf nm tm bs lv lc oid nw wa wn wi wk nb bo cl al ro → GRB (ud m H3) (pd f 0 P) R wd ro mb me → LPJ (ud m H3) G Th To st ro (pd f 0 P) R wd ga gi gq ph → uq FDK V0 (ud m H3) → (ud m H3).2.2.2.2.2 = V0.2.2.2.2.2 → (ud m H3).2.2.2.2.1 148 = V0.2.2.2.2.1 148 → (ud m H3).2.2.2.2.1 162 = V0.2.2.2.2.1 162 → (ud m H3).2.1 147 15 = -1 → mu_W (mu_D (d + 20)) mu_m376 (2, [(1, .inl (nI i')), (0, .inr (.inr (some 0)))], [], H3) Φ) (hN0 : N0 ≤ 1073741824) :
    ∀ (ph i : Nat) (H : mu_H), i + ph + 1 ≤ N0 → um m H → ur m C H0 H → RDX (ud m H) m od Y es P f fb (pd f 0 P) Gr N us S z p nf nm tm bs lv lc oid nw wa wn wi wk nb bo cl al ro → GRB (ud m H) (pd f 0 P) R wd ro mb me → LPJ (ud m H) G Th To st ro (pd f 0 P) R wd ga gi gq ph → uq FDK V0 (ud m H) → (ud m H).2.2.2.2.2 = V0.2.2.2.2.2 → (ud m H).2.2.2.2.1 148 = V0.2.2.2.2.1 148 → (ud m H).2.2.2.2.1 162 = V0.2.2.2.2.1 162 → mu_W (mu_D (d + 20)) mu_m376 (2, [(1, .inl (nI i)), (0, .inr (.inr (some 0)))], [], H) Φ := by
  intro ph i H a1 a2 a3 a4 a5 a6 a7 a8 a9 a10
  refine dr_run (d := d) (C := C) (J := fun ph V => LPJ V G Th To st ro (pd f 0 P) R wd ga gi gq ph ∧ uq FDK V0 V ∧ V.2.2.2.2.2 = V0.2.2.2.2.2 ∧ V.2.2.2.2.1 148 = V0.2.2.2.2.1 148 ∧ V.2.2.2.2.1 162 = V0.2.2.2.2.1 162) hRN hmem hC21 hC21b (fun ph V h => h.1.want hrx) (fun ph U V h hq => ⟨h.1.kept hq, h.2.1.tr hq rfl, (hq.2.2.2.2.2 rfl).trans h.2.2.1, (hq.l 148 rfl).trans h.2.2.2.1, (hq.l 162 rfl).trans h.2.2.2.2⟩) (fun ph H2 V r bf bt u2 d2 hR hG hJ2 hwa hr hrow => ?_) (fun i' H3 ph u3 k1 k2 k3 k4 k5 k6 => hfin i' H3 ph u3 k1 k2 k3 k4 k5.1 k5.2.1 k5.2.2.1 k5.2.2.2.1 k5.2.2.2.2 k6) hN0 ph i H a1 a2 a3 a4 a5 ⟨a6, a7, a8, a9, a10⟩
  obtain ⟨hJ, hJ3⟩ := hJ2
  have hRT := hG.2.2.1.1
  have hTb := hG.1.2.2
  have hne : ¬ V.2.1 147 15 = -1 := by rw [hwa]; exact nI_neg1 (by omega)
  rcases hJ with ⟨y, -⟩ | ⟨qu, pp, dp, tl, hh, hQ, hph⟩
  · exact absurd y hne
  · have hph := hph.resolve_left hne
    have htl : tl ≤ pd f 0 P := by
      obtain ⟨-, q2, -, -, -, -, -, ⟨w, -⟩ | ⟨k, -, -, hD⟩⟩ := id hQ
      · exact absurd w hne
      · exact pig_le _ tl qu (fun i hi => (q2 i hi).2) hD.2.1
    have hht := hQ.1.1.2.2
    refine (gr_visitG (d := d + 12) (C := C) u2 d2 hG hQ hwa hr hrow hGR hGT hST).imp (fun H3 y => ?_)
    obtain ⟨y1, y2, y3, y4, y5⟩ := y
    refine ⟨y1, y2, hR.keep4 y3 rfl rfl rfl (congrFun (y3.2.2.2.2.2 rfl) 114), hG.keep y3 rfl y4, ph - 1, by omega, ?_, hJ3.1.tr y3 rfl, (y3.2.2.2.2.2 rfl).trans hJ3.2.1, (y3.l 148 rfl).trans hJ3.2.2.1, (y3.l 162 rfl).trans hJ3.2.2.2⟩
    rcases y5 with w | ⟨qu', pp', dp', tl', h2, w1, w2⟩
    · exact Or.inl w
    · exact Or.inr ⟨qu', pp', dp', tl', h2, w1, w2.imp id (fun w => by omega)⟩
end DriveK
section DriveK2
variable {H0 : mu_H} {m d P fb nf nw nb N us R wd N0 ga gi gq : Nat} {C : Nat → Nat} {Y : Ts} {f od bs lv lc wa wn wi cl ro z mb me : Nat → Nat} {es : Nat → Int32} {nm tm : Nat → Int32} {wk p : Nat → Bool} {S : Nat → Nat → Bool} {bo oid : Nat → Nat → Nat} {Gr G : Nat → Nat → Prop} {al E ini B : Nat → Prop} {Φ : mu_R → Prop}
theorem dr_exploreK {V0 : Ud} (hRN : R = N - fb) (hmem : ∀ r, ¬ r = 0 → r < R → ∃ s, s < pd f 0 P ∧ ro s = r) (hC21 : 2 * (((Y 13).1 + 2) * 4) + 4 ≤ C 21) (hC21b : C 21 ≤ 8388608) (hrx : ∀ s, s < pd f 0 P → ro s < R) (hGR : ∀ s t, s < pd f 0 P → (G s t ↔ S (fb + ro s) t = true)) (hGE : ∀ s t, G s t → E t) (hET : ∀ s, E s → s < pd f 0 P) (hST : ∀ r x, S (fb + r) x = true → x < pd f 0 P)
    (hfin : ∀ (i' : Nat) (H3 : mu_H) (ph : Nat), um m H3 → i' + 1 ≤ N0 → ur m C H0 H3 → RDX (ud m H3) m od Y es P f fb (pd f 0 P) Gr N us S z p nf nm tm bs lv lc oid nw wa wn wi wk nb bo cl al ro → GRB (ud m H3) (pd f 0 P) R wd ro mb me → BFK (ud m H3) E ini G ro (pd f 0 P) R wd ph → uq FDE V0 (ud m H3) → (ud m H3).2.2.2.2.2 = V0.2.2.2.2.2 → (ud m H3).2.2.2.2.1 148 = V0.2.2.2.2.1 148 → (ud m H3).2.2.2.2.1 162 = V0.2.2.2.2.1 162 → (ud m H3).2.1 147 15 = -1 → mu_W (mu_D (d + 20)) mu_m376 (2, [(1, .inl (nI i')), (0, .inr (.inr (some 0)))], [], H3) Φ) (hN0 : N0 ≤ 1073741824) :
    ∀ (ph i : Nat) (H : mu_H), i + ph + 1 ≤ N0 → um m H → ur m C H0 H → RDX (ud m H) m od Y es P f fb (pd f 0 P) Gr N us S z p nf nm tm bs lv lc oid nw wa wn wi wk nb bo cl al ro → GRB (ud m H) (pd f 0 P) R wd ro mb me → BFK (ud m H) E ini G ro (pd f 0 P) R wd ph → uq FDE V0 (ud m H) → (ud m H).2.2.2.2.2 = V0.2.2.2.2.2 → (ud m H).2.2.2.2.1 148 = V0.2.2.2.2.1 148 → (ud m H).2.2.2.2.1 162 = V0.2.2.2.2.1 162 → mu_W (mu_D (d + 20)) mu_m376 (2, [(1, .inl (nI i)), (0, .inr (.inr (some 0)))], [], H) Φ := by
  intro ph i H a1 a2 a3 a4 a5 a6 a7 a8 a9 a10
  refine dr_run (d := d) (C := C) (J := fun ph V => BFK V E ini G ro (pd f 0 P) R wd ph ∧ uq FDE V0 V ∧ V.2.2.2.2.2 = V0.2.2.2.2.2 ∧ V.2.2.2.2.1 148 = V0.2.2.2.2.1 148 ∧ V.2.2.2.2.1 162 = V0.2.2.2.2.1 162) hRN hmem hC21 hC21b (fun ph V h => h.1.want hrx) (fun ph U V h hq => ⟨h.1.kept hq, h.2.1.tr hq rfl, (hq.2.2.2.2.2 rfl).trans h.2.2.1, (hq.l 148 rfl).trans h.2.2.2.1, (hq.l 162 rfl).trans h.2.2.2.2⟩) (fun ph H2 V r bf bt u2 d2 hR hG hJ2 hwa hr hrow => ?_) (fun i' H3 ph u3 k1 k2 k3 k4 k5 k6 => hfin i' H3 ph u3 k1 k2 k3 k4 k5.1 k5.2.1 k5.2.2.1 k5.2.2.2.1 k5.2.2.2.2 k6) hN0 ph i H a1 a2 a3 a4 a5 ⟨a6, a7, a8, a9, a10⟩
  obtain ⟨hJ, hJ3⟩ := hJ2
  have hRT := hG.2.2.1.1
  have hTb := hG.1.2.2
  have hne : ¬ V.2.1 147 15 = -1 := by rw [hwa]; exact nI_neg1 (by omega)
  obtain ⟨qu, tl, hh, hQ, a2, a3, ⟨w, -⟩ | ⟨hph, -, a4⟩⟩ := hJ
  · exact absurd w hne
  · have htl : tl ≤ pd f 0 P := pig_le _ tl qu (fun i hi => (hQ.2.1 i hi).2.1) hQ.2.2.1
    have hht := hQ.1.2.2
    refine (gr_visitO (d := d + 12) (C := C) u2 d2 hG hQ a2 a3 a4 hwa hr hrow hGR hGE hET hST).imp (fun H3 y => ?_)
    obtain ⟨y1, y2, y3, y4, qu', tl', h2, w1, w2, w3, w4⟩ := y
    refine ⟨y1, y2, hR.keep4 y3 rfl rfl rfl (congrFun (y3.2.2.2.2.2 rfl) 114), hG.keep y3 rfl y4, ph - 1, by omega, ⟨qu', tl', h2, w1, w2, w3, ?_⟩, hJ3.1.tr y3 rfl, (y3.2.2.2.2.2 rfl).trans hJ3.2.1, (y3.l 148 rfl).trans hJ3.2.2.1, (y3.l 162 rfl).trans hJ3.2.2.2⟩
    rcases w4 with w | ⟨w5, w6⟩
    · exact Or.inl w
    · exact Or.inr ⟨by omega, w6⟩
theorem dr_nearK {V0 : Ud} (hRN : R = N - fb) (hmem : ∀ r, ¬ r = 0 → r < R → ∃ s, s < pd f 0 P ∧ ro s = r) (hC21 : 2 * (((Y 13).1 + 2) * 4) + 4 ≤ C 21) (hC21b : C 21 ≤ 8388608) (hST : ∀ r x, S (fb + r) x = true → x < pd f 0 P)
    (hfin : ∀ (i' : Nat) (H3 : mu_H) (ph : Nat), um m H3 → i' + 1 ≤ N0 → ur m C H0 H3 → RDX (ud m H3) m od Y es P f fb (pd f 0 P) Gr N us S z p nf nm tm bs lv lc oid nw wa wn wi wk nb bo cl al ro → GRB (ud m H3) (pd f 0 P) R wd ro mb me → NRJ (ud m H3) (fun r x => S (fb + r) x = true) B ro (pd f 0 P) R wd ga gi gq ph → uq FDK V0 (ud m H3) → GKP ga gi V0 (ud m H3) → (ud m H3).2.1 147 15 = -1 → mu_W (mu_D (d + 20)) mu_m376 (2, [(1, .inl (nI i')), (0, .inr (.inr (some 0)))], [], H3) Φ) (hN0 : N0 ≤ 1073741824) :
    ∀ (ph i : Nat) (H : mu_H), i + ph + 1 ≤ N0 → um m H → ur m C H0 H → RDX (ud m H) m od Y es P f fb (pd f 0 P) Gr N us S z p nf nm tm bs lv lc oid nw wa wn wi wk nb bo cl al ro → GRB (ud m H) (pd f 0 P) R wd ro mb me → NRJ (ud m H) (fun r x => S (fb + r) x = true) B ro (pd f 0 P) R wd ga gi gq ph → uq FDK V0 (ud m H) → GKP ga gi V0 (ud m H) → mu_W (mu_D (d + 20)) mu_m376 (2, [(1, .inl (nI i)), (0, .inr (.inr (some 0)))], [], H) Φ := by
  intro ph i H a1 a2 a3 a4 a5 a6 a7 a8
  refine dr_run (d := d) (C := C) (J := fun ph V => NRJ V (fun r x => S (fb + r) x = true) B ro (pd f 0 P) R wd ga gi gq ph ∧ uq FDK V0 V ∧ GKP ga gi V0 V) hRN hmem hC21 hC21b (fun ph V h => h.1.want) (fun ph U V h hq => ⟨h.1.kept hq, h.2.1.tr hq rfl, h.2.2.trans (gkp_q hq rfl rfl rfl)⟩) (fun ph H2 V r bf bt u2 d2 hR hG hJ2 hwa hr hrow => ?_) (fun i' H3 ph u3 k1 k2 k3 k4 k5 k6 => hfin i' H3 ph u3 k1 k2 k3 k4 k5.1 k5.2.1 k5.2.2 k6) hN0 ph i H a1 a2 a3 a4 a5 ⟨a6, a7, a8⟩
  obtain ⟨hJ, hJ3⟩ := hJ2
  have hRT := hG.2.2.1.1
  have hTb := hG.1.2.2
  have hne : ¬ V.2.1 147 15 = -1 := by rw [hwa]; exact nI_neg1 (by omega)
  rcases hJ with ⟨r', a1, a2, a3, a4, a5, a6, a7, a8⟩ | ⟨w, -⟩
  · have er : r' = r := by
      rw [hwa] at a3
      exact (nI_inj (by omega) (by omega) a3).symm
    subst er
    have ha : ¬ ga = 114 := by
      rcases a6 with w | w
      · have := w.1; omega
      · have := w.1; omega
    refine (gr_visitN (d := d + 12) (C := C) u2 d2 hG hR.1.1.2.2.2.2.2.2.1.1.2.2.1 hR.2.1.2.2.2.1 (by have := hR.2.1.2.1; omega) hRN a6 a5 a4 hwa hr a7 (fun x t y => hST x t y) hrow a8).imp (fun H3 y => ?_)
    obtain ⟨y1, y2, y3, ⟨b1, b2, b3, b4, b5⟩ | ⟨b1, b2, b3, b4, b5, b6⟩⟩ := y
    · exact ⟨y1, y2, hR.keep4 y3 rfl rfl rfl (funext fun c => b5.2.1 114 c (fun w => ha w.1)), hG.keep y3 rfl b4, ph - 1, by omega, Or.inl ⟨r' + 1, b1, by omega, b2, (y3.i 147 14 rfl).trans a4, (y3.r 147 8 rfl).trans a5, a6.g y3 (fun _ => rfl) (fun _ => rfl) b5, by rw [y3.l 153 rfl]; exact a7, b3⟩, hJ3.1.tr y3 rfl, hJ3.2.trans b5⟩
    · exact ⟨y1, y2, hR.keep4 y3 rfl rfl rfl (funext fun c => b3.2.1 114 c (fun w => ha w.1)), hG.keep y3 rfl b5, ph - 1, by omega, Or.inr ⟨b2, b4, b6⟩, hJ3.1.tr y3 rfl, hJ3.2.trans b3⟩
  · exact absurd w hne
end DriveK2
