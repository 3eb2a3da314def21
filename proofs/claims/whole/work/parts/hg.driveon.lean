/-! drive: visits until no row is wanted -/
section DriveOn
variable {H : mu_H} {U : Ud} {m d P fb nf nw nb N us r i R wd : Nat} {C : Nat → Nat} {Y : Ts} {f od bs lv lc wa wn wi cl ro z mb me : Nat → Nat} {es : Nat → Int32} {nm tm : Nat → Int32} {wk p : Nat → Bool} {S : Nat → Nat → Bool} {bo oid : Nat → Nat → Nat} {Gr : Nat → Nat → Prop} {al : Nat → Prop} {PV : Ud → Prop} {Φ : mu_R → Prop}
theorem dr_step (h : um m H) (e : ud m H = U) (hi : i < 1073741824) (hG : GRB U (pd f 0 P) R wd ro mb me) (hR : RDX U m od Y es P f fb (pd f 0 P) Gr N us S z p nf nm tm bs lv lc oid nw wa wn wi wk nb bo cl al ro) (hRN : R = N - fb) (hmem : ∀ r, ¬ r = 0 → r < R → ∃ s, s < pd f 0 P ∧ ro s = r) (hC21 : 2 * (((Y 13).1 + 2) * 4) + 4 ≤ C 21) (hC21b : C 21 ≤ 8388608) (hwa : U.2.1 147 15 = nI r) (hr : r < R) (hvis : ∀ (H2 : mu_H) (V : Ud) (bf bt : Nat), um m H2 → ud m H2 = V → uq F376 U V → RDX V m od Y es P f fb (pd f 0 P) Gr N us S z p nf nm tm bs lv lc oid nw wa wn wi wk nb bo cl al ro → ROW V (fun r x => S (fb + r) x = true) r bf bt → mu_TV (mu_D (d + 20)) 310 [.inr (.inr (some 147))] H2 (fun H3 => um m H3 ∧ ur m C H2 H3 ∧ PV (ud m H3))) (hback : ∀ H3, um m H3 → ur m C H H3 → PV (ud m H3) → mu_W (mu_D (d + 20)) mu_m376 (2, [(1, .inl (nI (i + 1))), (0, .inr (.inr (some 0)))], [], H3) Φ) : mu_W (mu_D (d + 20)) mu_m376 (2, [(1, .inl (nI i)), (0, .inr (.inr (some 0)))], [], H) Φ := by
  rcases hR.row (r := r) (by omega) with ⟨st, fc, y1, y2⟩ | ⟨y1, n, y2⟩
  · exact dr_stepY (d := d) (C := C) h e hi hG hR rfl rfl hRN hwa hr hvis hback y1 y2
  · exact dr_stepN (d := d) (C := C) h e hi hG hR rfl rfl hRN hwa hr hvis hback y1 y2 (hmem r y1 hr) hC21 hC21b
/-- J: what is under way, with what it has left to do -/
theorem dr_run {H0 : mu_H} {N0 : Nat} (J : Nat → Ud → Prop) (hRN : R = N - fb) (hmem : ∀ r, ¬ r = 0 → r < R → ∃ s, s < pd f 0 P ∧ ro s = r) (hC21 : 2 * (((Y 13).1 + 2) * 4) + 4 ≤ C 21) (hC21b : C 21 ≤ 8388608)
    (hw : ∀ ph V, J ph V → V.2.1 147 15 = -1 ∨ ∃ r, r < R ∧ V.2.1 147 15 = nI r) (hkeep : ∀ ph U V, J ph U → uq F376 U V → J ph V)
    (hstep : ∀ (ph : Nat) (H2 : mu_H) (V : Ud) (r bf bt : Nat), um m H2 → ud m H2 = V → RDX V m od Y es P f fb (pd f 0 P) Gr N us S z p nf nm tm bs lv lc oid nw wa wn wi wk nb bo cl al ro → GRB V (pd f 0 P) R wd ro mb me → J ph V → V.2.1 147 15 = nI r → r < R → ROW V (fun r x => S (fb + r) x = true) r bf bt → mu_TV (mu_D (d + 20)) 310 [.inr (.inr (some 147))] H2 (fun H3 => um m H3 ∧ ur m C H2 H3 ∧ RDX (ud m H3) m od Y es P f fb (pd f 0 P) Gr N us S z p nf nm tm bs lv lc oid nw wa wn wi wk nb bo cl al ro ∧ GRB (ud m H3) (pd f 0 P) R wd ro mb me ∧ ∃ ph', ph' < ph ∧ J ph' (ud m H3)))
    (hfin : ∀ (i' : Nat) (H3 : mu_H) (ph : Nat), um m H3 → i' + 1 ≤ N0 → ur m C H0 H3 → RDX (ud m H3) m od Y es P f fb (pd f 0 P) Gr N us S z p nf nm tm bs lv lc oid nw wa wn wi wk nb bo cl al ro → GRB (ud m H3) (pd f 0 P) R wd ro mb me → J ph (ud m H3) → (ud m H3).2.1 147 15 = -1 → mu_W (mu_D (d + 20)) mu_m376 (2, [(1, .inl (nI i')), (0, .inr (.inr (some 0)))], [], H3) Φ) (hN0 : N0 ≤ 1073741824) :
    ∀ (ph i : Nat) (H : mu_H), i + ph + 1 ≤ N0 → um m H → ur m C H0 H → RDX (ud m H) m od Y es P f fb (pd f 0 P) Gr N us S z p nf nm tm bs lv lc oid nw wa wn wi wk nb bo cl al ro → GRB (ud m H) (pd f 0 P) R wd ro mb me → J ph (ud m H) → mu_W (mu_D (d + 20)) mu_m376 (2, [(1, .inl (nI i)), (0, .inr (.inr (some 0)))], [], H) Φ := by
  intro ph
  induction ph using Nat.strongRecOn with
  | ind ph ih =>
    intro i H hi h h0 hR hG hJ
    rcases hw ph _ hJ with y | ⟨r, hr, y⟩
    · exact hfin i H ph h (by omega) h0 hR hG hJ y
    · refine dr_step (d := d) (C := C) (PV := fun V => RDX V m od Y es P f fb (pd f 0 P) Gr N us S z p nf nm tm bs lv lc oid nw wa wn wi wk nb bo cl al ro ∧ GRB V (pd f 0 P) R wd ro mb me ∧ ∃ ph', ph' < ph ∧ J ph' V) h rfl (by omega) hG hR hRN hmem hC21 hC21b y hr (fun H2 V bf bt u2 d2 z2 hR2 hrow => ?_) (fun H3 u3 r3 hPV => ?_)
      · exact hstep ph H2 V r bf bt u2 d2 hR2 (hG.keep z2 rfl (NK.of_eq (z2.a 147 10 rfl))) (hkeep ph _ _ hJ z2) ((z2.i 147 15 rfl).trans y) hr hrow
      · obtain ⟨p1, p2, ph', p3, p4⟩ := hPV
        exact ih ph' p3 (i + 1) H3 (by omega) u3 (h0.trans r3) p1 p2 p4
end DriveOn
