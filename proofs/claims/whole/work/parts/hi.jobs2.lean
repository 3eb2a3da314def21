/-! drive: what can be reached, and one step before -/
/-- a search for all that can be reached, with what it has left to do -/
def BFK (V : Ud) (E ini : Nat → Prop) (G : Nat → Nat → Prop) (rx : Nat → Nat) (T R wd ph : Nat) : Prop :=
  ∃ (qu : Nat → Nat) (tl h2 : Nat), BFQ V E ini G rx qu T R wd tl h2 ∧ V.2.1 147 14 = 0 ∧ V.2.2.2.1 147 8 = none ∧ ((V.2.1 147 15 = -1 ∧ ∀ s, s < T → (bts (V.2.2.2.2.1 149) s = true ↔ RCH ini G s)) ∨ (T + 1 ≤ h2 + ph ∧ ¬ V.2.1 147 15 = -1 ∧ ∀ s, s < T → bts (V.2.2.2.2.1 149) s = true → ∃ i, i < tl ∧ qu i = s))
/-- rows that are asked one after the other -/
def NRJ (V : Ud) (RB : Nat → Nat → Prop) (B : Nat → Prop) (rx : Nat → Nat) (T R wd ga gi gq ph : Nat) : Prop :=
  (∃ r, r < R ∧ R ≤ r + ph ∧ V.2.1 147 15 = nI r ∧ V.2.1 147 14 = 1 ∧ V.2.2.2.1 147 8 = some gq ∧ LSN V ga gi gq 256 ∧ (∀ t, t < T → (bts (V.2.2.2.2.1 153) t = true ↔ B t)) ∧ NRM V RB B r) ∨ (V.2.1 147 15 = -1 ∧ LSN V ga gi gq 256 ∧ ∀ t, t < 64 * wd → (bts (lgf V ga gi) t = true ↔ t < T ∧ ∃ u, RB (rx t) u ∧ B u))
section DriveJobs2
variable {U V : Ud} {T R wd ga gi gq ph tl hh : Nat} {rx qu : Nat → Nat} {RB G : Nat → Nat → Prop} {E ini B : Nat → Prop}
theorem BFQ.kept (h : BFQ U E ini G rx qu T R wd tl hh) (hq : uq F376 U V) : BFQ V E ini G rx qu T R wd tl hh := by
  unfold BFQ at h ⊢
  rw [hq.i 147 18 rfl, hq.i 147 17 rfl, hq.a 147 12 rfl, hq.l 150 rfl, hq.i 147 16 rfl, hq.a 147 10 rfl, hq.i 147 15 rfl]
  exact h
theorem BFK.kept (h : BFK U E ini G rx T R wd ph) (hq : uq F376 U V) : BFK V E ini G rx T R wd ph := by
  obtain ⟨qu, tl, h2, a1, a2, a3, a4⟩ := h
  exact ⟨qu, tl, h2, a1.kept hq, (hq.i 147 14 rfl).trans a2, (hq.r 147 8 rfl).trans a3, by rw [hq.i 147 15 rfl, hq.l 149 rfl]; exact a4⟩
theorem BFK.want (h : BFK U E ini G rx T R wd ph) (hrx : ∀ s, s < T → rx s < R) : U.2.1 147 15 = -1 ∨ ∃ r, r < R ∧ U.2.1 147 15 = nI r := by
  obtain ⟨qu, tl, h2, ⟨⟨-, -, q1⟩, q2, -, -, -, -, -, -, y | ⟨k, y1, y2⟩⟩, -⟩ := h
  · exact Or.inl y
  · exact Or.inr ⟨rx (qu k), hrx _ (q2 k (by omega)).2.1, y2⟩
theorem NRJ.kept (h : NRJ U RB B rx T R wd ga gi gq ph) (hq : uq F376 U V) : NRJ V RB B rx T R wd ga gi gq ph := by
  rcases h with ⟨r, a1, a2, a3, a4, a5, a6, a7, a8⟩ | ⟨a1, a2, a3⟩
  · refine Or.inl ⟨r, a1, a2, (hq.i 147 15 rfl).trans a3, (hq.i 147 14 rfl).trans a4, (hq.r 147 8 rfl).trans a5, a6.q hq (fun _ => rfl) (fun _ => rfl) rfl, by rw [hq.l 153 rfl]; exact a7, ?_⟩
    unfold NRM at a8 ⊢
    rw [hq.a 147 10 rfl]
    exact a8
  · exact Or.inr ⟨(hq.i 147 15 rfl).trans a1, a2.q hq (fun _ => rfl) (fun _ => rfl) rfl, by rw [lsf_q a2 hq rfl rfl rfl]; exact a3⟩
theorem NRJ.want (h : NRJ U RB B rx T R wd ga gi gq ph) : U.2.1 147 15 = -1 ∨ ∃ r, r < R ∧ U.2.1 147 15 = nI r := by
  rcases h with ⟨r, a1, a2, a3, -⟩ | ⟨a1, -⟩
  · exact Or.inr ⟨r, a1, a3⟩
  · exact Or.inl a1
end DriveJobs2
section DriveRest
variable {H0 : mu_H} {m d P fb nf nw nb N us R wd N0 ga gi gq : Nat} {C : Nat → Nat} {Y : Ts} {f od bs lv lc wa wn wi cl ro z mb me : Nat → Nat} {es : Nat → Int32} {nm tm : Nat → Int32} {wk p : Nat → Bool} {S : Nat → Nat → Bool} {bo oid : Nat → Nat → Nat} {Gr G : Nat → Nat → Prop} {al E ini B : Nat → Prop} {Φ : mu_R → Prop}
/-- a search for all that can be reached is driven to its end -/
theorem dr_explore (hRN : R = N - fb) (hmem : ∀ r, ¬ r = 0 → r < R → ∃ s, s < pd f 0 P ∧ ro s = r) (hC21 : 2 * (((Y 13).1 + 2) * 4) + 4 ≤ C 21) (hC21b : C 21 ≤ 8388608) (hrx : ∀ s, s < pd f 0 P → ro s < R) (hGR : ∀ s t, s < pd f 0 P → (G s t ↔ S (fb + ro s) t = true)) (hGE : ∀ s t, G s t → E t) (hET : ∀ s, E s → s < pd f 0 P) (hST : ∀ r x, S (fb + r) x = true → x < pd f 0 P)
    (hfin : ∀ (i' : Nat) (H3 : mu_H) (ph : Nat), um m H3 → i' + 1 ≤ N0 → ur m C H0 H3 → RDX (ud m H3) m od Y es P f fb (pd f 0 P) Gr N us S z p nf nm tm bs lv lc oid nw wa wn wi wk nb bo cl al ro → GRB (ud m H3) (pd f 0 P) R wd ro mb me → BFK (ud m H3) E ini G ro (pd f 0 P) R wd ph → (ud m H3).2.1 147 15 = -1 → mu_W (mu_D (d + 20)) mu_m376 (2, [(1, .inl (nI i')), (0, .inr (.inr (some 0)))], [], H3) Φ) (hN0 : N0 ≤ 1073741824) :
    ∀ (ph i : Nat) (H : mu_H), i + ph + 1 ≤ N0 → um m H → ur m C H0 H → RDX (ud m H) m od Y es P f fb (pd f 0 P) Gr N us S z p nf nm tm bs lv lc oid nw wa wn wi wk nb bo cl al ro → GRB (ud m H) (pd f 0 P) R wd ro mb me → BFK (ud m H) E ini G ro (pd f 0 P) R wd ph → mu_W (mu_D (d + 20)) mu_m376 (2, [(1, .inl (nI i)), (0, .inr (.inr (some 0)))], [], H) Φ := by
  refine dr_run (d := d) (C := C) (J := fun ph V => BFK V E ini G ro (pd f 0 P) R wd ph) hRN hmem hC21 hC21b (fun ph V h => h.want hrx) (fun ph U V h hq => h.kept hq) (fun ph H2 V r bf bt u2 d2 hR hG hJ hwa hr hrow => ?_) hfin hN0
  have hRT := hG.2.2.1.1
  have hTb := hG.1.2.2
  have hne : ¬ V.2.1 147 15 = -1 := by rw [hwa]; exact nI_neg1 (by omega)
  obtain ⟨qu, tl, hh, hQ, a2, a3, ⟨w, -⟩ | ⟨hph, -, a4⟩⟩ := hJ
  · exact absurd w hne
  · have htl : tl ≤ pd f 0 P := pig_le _ tl qu (fun i hi => (hQ.2.1 i hi).2.1) hQ.2.2.1
    have hht := hQ.1.2.2
    refine (gr_visitO (d := d + 12) (C := C) u2 d2 hG hQ a2 a3 a4 hwa hr hrow hGR hGE hET hST).imp (fun H3 y => ?_)
    obtain ⟨y1, y2, y3, y4, qu', tl', h2, w1, w2, w3, w4⟩ := y
    refine ⟨y1, y2, hR.keep4 y3 rfl rfl rfl (congrFun (y3.2.2.2.2.2 rfl) 114), hG.keep y3 rfl y4, ph - 1, by omega, qu', tl', h2, w1, w2, w3, ?_⟩
    rcases w4 with w | ⟨w5, w6⟩
    · exact Or.inl w
    · exact Or.inr ⟨by omega, w6⟩
/-- all rows are asked -/
theorem dr_near (hRN : R = N - fb) (hmem : ∀ r, ¬ r = 0 → r < R → ∃ s, s < pd f 0 P ∧ ro s = r) (hC21 : 2 * (((Y 13).1 + 2) * 4) + 4 ≤ C 21) (hC21b : C 21 ≤ 8388608) (hST : ∀ r x, S (fb + r) x = true → x < pd f 0 P)
    (hfin : ∀ (i' : Nat) (H3 : mu_H) (ph : Nat), um m H3 → i' + 1 ≤ N0 → ur m C H0 H3 → RDX (ud m H3) m od Y es P f fb (pd f 0 P) Gr N us S z p nf nm tm bs lv lc oid nw wa wn wi wk nb bo cl al ro → GRB (ud m H3) (pd f 0 P) R wd ro mb me → NRJ (ud m H3) (fun r x => S (fb + r) x = true) B ro (pd f 0 P) R wd ga gi gq ph → (ud m H3).2.1 147 15 = -1 → mu_W (mu_D (d + 20)) mu_m376 (2, [(1, .inl (nI i')), (0, .inr (.inr (some 0)))], [], H3) Φ) (hN0 : N0 ≤ 1073741824) :
    ∀ (ph i : Nat) (H : mu_H), i + ph + 1 ≤ N0 → um m H → ur m C H0 H → RDX (ud m H) m od Y es P f fb (pd f 0 P) Gr N us S z p nf nm tm bs lv lc oid nw wa wn wi wk nb bo cl al ro → GRB (ud m H) (pd f 0 P) R wd ro mb me → NRJ (ud m H) (fun r x => S (fb + r) x = true) B ro (pd f 0 P) R wd ga gi gq ph → mu_W (mu_D (d + 20)) mu_m376 (2, [(1, .inl (nI i)), (0, .inr (.inr (some 0)))], [], H) Φ := by
  refine dr_run (d := d) (C := C) (J := fun ph V => NRJ V (fun r x => S (fb + r) x = true) B ro (pd f 0 P) R wd ga gi gq ph) hRN hmem hC21 hC21b (fun ph V h => h.want) (fun ph U V h hq => h.kept hq) (fun ph H2 V r bf bt u2 d2 hR hG hJ hwa hr hrow => ?_) hfin hN0
  have hRT := hG.2.2.1.1
  have hTb := hG.1.2.2
  have hne : ¬ V.2.1 147 15 = -1 := by rw [hwa]; exact nI_neg1 (by omega)
  rcases hJ with ⟨r', a1, a2, a3, a4, a5, a6, a7, a8⟩ | ⟨w, -⟩
  · have er : r' = r := by
      rw [hwa] at a3
      exact (nI_inj (by omega) (by omega) a3).symm
    subst er
    have ha : ¬ ga = 114 := by
      rcases a6 with w | w
      · have := w.1; omega
      · have := w.1; omega
    refine (gr_visitN (d := d + 12) (C := C) u2 d2 hG hR.1.1.2.2.2.2.2.2.1.1.2.2.1 hR.2.1.2.2.2.1 (by have := hR.2.1.2.1; omega) hRN a6 a5 a4 hwa hr a7 (fun x t y => hST x t y) hrow a8).imp (fun H3 y => ?_)
    obtain ⟨y1, y2, y3, ⟨b1, b2, b3, b4, b5⟩ | ⟨b1, b2, b3, b4, b5, b6⟩⟩ := y
    · exact ⟨y1, y2, hR.keep4 y3 rfl rfl rfl (funext fun c => b5.2.1 114 c (fun w => ha w.1)), hG.keep y3 rfl b4, ph - 1, by omega, Or.inl ⟨r' + 1, b1, by omega, b2, (y3.i 147 14 rfl).trans a4, (y3.r 147 8 rfl).trans a5, a6.g y3 (fun _ => rfl) (fun _ => rfl) b5, by rw [y3.l 153 rfl]; exact a7, b3⟩⟩
    · exact ⟨y1, y2, hR.keep4 y3 rfl rfl rfl (funext fun c => b3.2.1 114 c (fun w => ha w.1)), hG.keep y3 rfl b5, ph - 1, by omega, Or.inr ⟨b2, b4, b6⟩⟩
  · exact absurd w hne
/-- a row is fetched for its bits -/
theorem dr_fetch (hRN : R = N - fb) (hmem : ∀ r, ¬ r = 0 → r < R → ∃ s, s < pd f 0 P ∧ ro s = r) (hC21 : 2 * (((Y 13).1 + 2) * 4) + 4 ≤ C 21) (hC21b : C 21 ≤ 8388608) {H : mu_H} {i r : Nat} (h : um m H) (hi : i < 1073741824) (hR : RDX (ud m H) m od Y es P f fb (pd f 0 P) Gr N us S z p nf nm tm bs lv lc oid nw wa wn wi wk nb bo cl al ro) (hG : GRB (ud m H) (pd f 0 P) R wd ro mb me) (hjob : (ud m H).2.1 147 14 = 6) (hwa : (ud m H).2.1 147 15 = nI r) (hr : r < R)
    (hfin : ∀ (H3 : mu_H) (V : Ud) (bf bt : Nat), um m H3 → ur m C H H3 → uq F376 (ud m H) V → ud m H3 = upI V 147 15 (-1) → RDX V m od Y es P f fb (pd f 0 P) Gr N us S z p nf nm tm bs lv lc oid nw wa wn wi wk nb bo cl al ro → ROW V (fun r x => S (fb + r) x = true) r bf bt → mu_W (mu_D (d + 20)) mu_m376 (2, [(1, .inl (nI (i + 1))), (0, .inr (.inr (some 0)))], [], H3) Φ) : mu_W (mu_D (d + 20)) mu_m376 (2, [(1, .inl (nI i)), (0, .inr (.inr (some 0)))], [], H) Φ := by
  refine dr_step (d := d) (C := C) (PV := fun W => ∃ (V : Ud) (bf bt : Nat), uq F376 (ud m H) V ∧ W = upI V 147 15 (-1) ∧ RDX V m od Y es P f fb (pd f 0 P) Gr N us S z p nf nm tm bs lv lc oid nw wa wn wi wk nb bo cl al ro ∧ ROW V (fun r x => S (fb + r) x = true) r bf bt) h rfl hi hG hR hRN hmem hC21 hC21b hwa hr (fun H2 V bf bt u2 d2 z2 hR2 hrow => ?_) (fun H3 u3 r3 hPV => ?_)
  · refine (gr_visitF (d := d + 12) (C := C) u2 d2 ((z2.i 147 14 rfl).trans hjob)).imp (fun H3 y => ?_)
    exact ⟨y.1, y.2.1, V, bf, bt, z2, y.2.2, hR2, hrow⟩
  · obtain ⟨V, bf, bt, p1, p2, p3, p4⟩ := hPV
    exact hfin H3 V bf bt u3 r3 p1 p2 p3 p4
end DriveRest
