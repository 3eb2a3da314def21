/-! DRIVE: a path is watched -/
def Fw0 : Uf := ⟨[], [(147, 14), (147, 15), (158, 13), (158, 14), (158, 16)], [], [], [], false⟩
def Fwt : Uf := ⟨F376.t, Fw0.i ++ F376.i, F376.a, F376.n, F376.l, false⟩
section Watched
variable {H H0 : mu_H} {U U0 V V' V0 V3 X K0 : Ud} {m d P R wd nk N a i0 into n sc jl jr sj qs i N0 fb NN us nf nw nb : Nat} {C : Nat → Nat} {Y : Ts} {f od bs lv lc wa wn wi cl ro z mb me : Nat → Nat} {es rs nm tm : Nat → Int32} {wk p : Nat → Bool} {S FS : Nat → Nat → Bool} {bo oid : Nat → Nat → Nat} {Gr G : Nat → Nat → Prop} {al E Fr : Nat → Prop} {js : Nat → Option Nat} {F : Uf} {L4 L8 : Nat → Int64} {Q : Nat → Nat → Nat → Prop} {Φ : mu_R → Prop}
variable {cn : Nat} {sh : Nat → Nat} {sv : Int32} {lpo : Option Nat}
/-- drive, while it watches: nothing strays -/
theorem dr_watch (hRN : R = NN - fb) (hmem : ∀ r, ¬ r = 0 → r < R → ∃ s, s < pd f 0 P ∧ ro s = r) (hC21 : 2 * (((Y 13).1 + 2) * 4) + 4 ≤ C 21) (hC21b : C 21 ≤ 8388608) (hrx : ∀ s, s < pd f 0 P → ro s < R) (hG : ∀ s t, s < pd f 0 P → (G s t ↔ S (fb + ro s) t = true)) (hcn : U.2.1 158 11 = nI cn) (hcb : cn ≤ 2000) (hlo : U.2.1 158 12 = sI lpo) (hlp : ∀ j, lpo = some j → j < cn ∧ G (sh (cn - 1)) (sh j)) (hsh : ∀ j, j < cn → (U.2.2.1 158 9).2 j = nI (sh j) ∧ sh j < pd f 0 P) (hgo : ∀ j, j + 1 < cn → G (sh j) (sh (j + 1))) (htr : U.2.2.2.1 158 22 = none) (hΦ : ∀ H1, um m H1 → ur m C H0 H1 → (uq Fwt U (ud m H1) ∧ RDX (ud m H1) m od Y es P f fb (pd f 0 P) Gr NN us S z p nf nm tm bs lv lc oid nw wa wn wi wk nb bo cl al ro ∧ GRB (ud m H1) (pd f 0 P) R wd ro mb me) → (ud m H1).2.1 158 14 = 0 → (ud m H1).2.1 158 13 = sv → (ud m H1).2.1 147 15 = -1 → Φ (.inl none, H1)) : ∀ (k a0 i : Nat) (H : mu_H), a0 + k + 1 = cn → i + 2 * k + 2 ≤ 1073741824 → um m H → ur m C H0 H → (uq Fwt U (ud m H) ∧ RDX (ud m H) m od Y es P f fb (pd f 0 P) Gr NN us S z p nf nm tm bs lv lc oid nw wa wn wi wk nb bo cl al ro ∧ GRB (ud m H) (pd f 0 P) R wd ro mb me) → (ud m H).2.1 147 14 = 6 → (ud m H).2.1 147 15 = nI (ro (sh a0)) → (ud m H).2.1 158 16 = nI a0 → (ud m H).2.1 158 14 = 6 → (ud m H).2.1 158 13 = sv → mu_W (mu_D (d + 20)) mu_m376 (2, [(1, .inl (nI i)), (0, .inr (.inr (some 0)))], [], H) Φ := by
  intro k
  induction k with
  | zero =>
    intro a0 i H ha hi h h0 hX x14 x15 x16 xta xsv
    obtain ⟨hq, hR, hGb⟩ := hX
    obtain ⟨s1, s2⟩ := hsh a0 (by omega)
    refine dr_fetch (d := d) (C := C) (wd := wd) (mb := mb) (me := me) hRN hmem hC21 hC21b h (by omega) hR hGb x14 x15 (hrx _ s2) (fun H3 V bf bt u3 r3 q3 d3 R3 hrow => ?_)
    have q4 : uq Fw0 V (ud m H3) := by rw [d3]; exact (uq.refl Fw0 _).I rfl
    have hq3 : uq Fwt U (ud m H3) := (hq.trans (q3.mono rfl)).trans (q4.mono rfl)
    have hR3 := R3.keep4 q4 rfl rfl rfl (congrFun (q4.2.2.2.2.2 rfl) 114)
    have hG3 := (hGb.keep q3 rfl (NK.of_eq (q3.a 147 10 rfl))).keep q4 rfl (NK.of_eq (q4.a 147 10 rfl))
    have hw3 : (ud m H3).2.1 147 15 = -1 := by rw [d3]; rfl
    have ht3 : (ud m H3).2.1 158 14 = 6 := by rw [d3]; exact (q3.i 158 14 rfl).trans xta
    have ha3 : (ud m H3).2.1 158 16 = nI a0 := by rw [d3]; exact (q3.i 158 16 rfl).trans x16
    have hs3 : (ud m H3).2.1 158 13 = sv := by rw [d3]; exact (q3.i 158 13 rfl).trans xsv
    have hpost : ∀ H4, um m H4 → ur m C H3 H4 → ud m H4 = upI (upI (upI (ud m H3) 158 13 sv) 158 16 (nI (a0 + 1))) 158 14 0 → Φ (.inl none, H4) := fun H4 u4 r4 d4 => by
      have q5 : uq Fw0 (ud m H3) (ud m H4) := by rw [d4]; exact (((uq.refl Fw0 _).I rfl).I rfl).I rfl
      exact hΦ H4 u4 (h0.trans (r3.trans r4)) ⟨hq3.trans (q5.mono rfl), hR3.keep4 q5 rfl rfl rfl (congrFun (q5.2.2.2.2.2 rfl) 114), hG3.keep q5 rfl (NK.of_eq (q5.a 147 10 rfl))⟩ (by rw [d4]; rfl) (by rw [d4]; rfl) (by rw [d4]; exact hw3)
    refine dr_adv (d := d) (PV := fun _ => False) (PW := fun H4 => um m H4 ∧ ur m C H3 H4 ∧ ud m H4 = upI (upI (upI (ud m H3) 158 13 sv) 158 16 (nI (a0 + 1))) 158 14 0) u3 rfl (by omega) hw3 ((hq3.r 158 22 rfl).trans htr) (by rw [ht3]; decide) ?_ (fun _ y => False.elim y) (fun H4 y => hpost H4 y.1 y.2.1 y.2.2)
    cases hl : lpo with
    | none => exact (pr_adv63 (d := d + 14) (C := C) (a0 := a0) (cn := cn) u3 rfl ht3 ha3 ((hq3.i 158 11 rfl).trans hcn) hcb hs3 (by omega) ((hq3.i 158 12 rfl).trans (by rw [hlo, hl]; rfl))).imp (fun x H4 y => Or.inr ⟨y.1, y.2⟩)
    | some j =>
      obtain ⟨j1, j2⟩ := hlp j hl
      obtain ⟨t1, t2⟩ := hsh j j1
      have hTb : pd f 0 P ≤ 16384 := hGb.1.2.2
      refine (pr_adv62 (d := d + 14) (C := C) (a0 := a0) (cn := cn) (lp := j) (t1 := sh j) u3 rfl ht3 ha3 ((hq3.i 158 11 rfl).trans hcn) hcb hs3 (by omega) ((hq3.i 158 12 rfl).trans (by rw [hlo, hl]; rfl)) j1 (by rw [hq3.a 158 9 rfl]; exact t1) (by omega) ?_).imp (fun x H4 y => Or.inr ⟨y.1, y.2⟩)
      rw [show (ud m H3).2.2.2.2.1 146 = V.2.2.2.2.1 146 from q4.l 146 rfl]
      refine (hrow.2 (sh j) (by omega)).mpr ?_
      rw [show cn - 1 = a0 by omega] at j2
      exact (hG _ _ s2).mp j2
  | succ k ih =>
    intro a0 i H ha hi h h0 hX x14 x15 x16 xta xsv
    obtain ⟨hq, hR, hGb⟩ := hX
    obtain ⟨s1, s2⟩ := hsh a0 (by omega)
    obtain ⟨t1, t2⟩ := hsh (a0 + 1) (by omega)
    have hTb : pd f 0 P ≤ 16384 := hGb.1.2.2
    refine dr_fetch (d := d) (C := C) (wd := wd) (mb := mb) (me := me) hRN hmem hC21 hC21b h (by omega) hR hGb x14 x15 (hrx _ s2) (fun H3 V bf bt u3 r3 q3 d3 R3 hrow => ?_)
    have q4 : uq Fw0 V (ud m H3) := by rw [d3]; exact (uq.refl Fw0 _).I rfl
    have hq3 : uq Fwt U (ud m H3) := (hq.trans (q3.mono rfl)).trans (q4.mono rfl)
    have hR3 := R3.keep4 q4 rfl rfl rfl (congrFun (q4.2.2.2.2.2 rfl) 114)
    have hG3 := (hGb.keep q3 rfl (NK.of_eq (q3.a 147 10 rfl))).keep q4 rfl (NK.of_eq (q4.a 147 10 rfl))
    have hw3 : (ud m H3).2.1 147 15 = -1 := by rw [d3]; rfl
    have ht3 : (ud m H3).2.1 158 14 = 6 := by rw [d3]; exact (q3.i 158 14 rfl).trans xta
    have ha3 : (ud m H3).2.1 158 16 = nI a0 := by rw [d3]; exact (q3.i 158 16 rfl).trans x16
    have hs3 : (ud m H3).2.1 158 13 = sv := by rw [d3]; exact (q3.i 158 13 rfl).trans xsv
    have hbit : bts ((ud m H3).2.2.2.2.1 146) (sh (a0 + 1)) = true := by
      rw [show (ud m H3).2.2.2.2.1 146 = V.2.2.2.2.1 146 from q4.l 146 rfl]
      exact (hrow.2 _ (by omega)).mpr ((hG _ _ s2).mp (hgo a0 (by omega)))
    refine dr_adv (d := d) (PV := fun H4 => um m H4 ∧ ur m C H3 H4 ∧ ud m H4 = upI (upI (upI (upI (ud m H3) 158 13 sv) 158 16 (nI (a0 + 1))) 147 14 6) 147 15 (((ud m H3).2.2.1 129 6).2 (sh (a0 + 1)))) (PW := fun _ => False) u3 rfl (by omega) hw3 ((hq3.r 158 22 rfl).trans htr) (by rw [ht3]; decide) ((pr_adv61 (d := d + 14) (C := C) (a0 := a0) (cn := cn) (t1 := sh (a0 + 1)) u3 rfl ht3 ha3 ((hq3.i 158 11 rfl).trans hcn) hcb hs3 (by omega) (by rw [hq3.a 158 9 rfl]; exact t1) (by omega) hbit (by have := hG3.2.1.1.1; omega) hG3.2.1.1.2).imp (fun x H4 y => Or.inl ⟨y.1, y.2⟩)) (fun H4 y => ?_) (fun _ y => False.elim y)
    obtain ⟨u4, r4, d4⟩ := y
    have q5 : uq Fw0 (ud m H3) (ud m H4) := by rw [d4]; exact ((((uq.refl Fw0 _).I rfl).I rfl).I rfl).I rfl
    exact ih (a0 + 1) (i + 1 + 1) H4 (by omega) (by omega) u4 (h0.trans (r3.trans r4)) ⟨hq3.trans (q5.mono rfl), hR3.keep4 q5 rfl rfl rfl (congrFun (q5.2.2.2.2.2 rfl) 114), hG3.keep q5 rfl (NK.of_eq (q5.a 147 10 rfl))⟩ (by rw [d4]; rfl) (by rw [d4]; exact (hG3.2.1.2 _ t2).1) (by rw [d4]; rfl) (by rw [d4]; exact ht3) (by rw [d4]; rfl)
end Watched
