/-! drive: sweeps and least paths -/
section DriveJobs
variable {U V : Ud} {T R wd ga gi gq ev nk ph tl hh st : Nat} {rx mb me qu pp dp : Nat → Nat} {RB G : Nat → Nat → Prop} {A g0 Th To : Nat → Prop} {FS : Nat → Nat → Bool}
theorem SWJ.kept (h : SWJ U T R wd rx mb me ga gi gq RB A g0 ev nk FS ph) (hq : uq F376 U V) : SWJ V T R wd rx mb me ga gi gq RB A g0 ev nk FS ph := by
  rcases h with ⟨h1, en, ps, ls, pa, pl, pp, ix, lw, cu, ld, St, Gd, rk, nr, xr, h2, h3, h4, h5⟩ | ⟨h1, en, p, ls, pa, pl, pp, ix, lw, cu, ld, St, Gd, rk, nr, h2, h3, h4, h5, h6⟩ | ⟨en, p, ls, pa, pl, pp, ix, lw, cu, ld, St, Gd, rk, nr, h1, h2, h3, h4, hd, c, tl, qu, h5, h6, h7, h8, h9, h10, h11, h12⟩
  · refine Or.inl ⟨(hq.i 147 14 rfl).trans h1, en, ps, ls, pa, pl, pp, ix, lw, cu, ld, St, Gd, rk, nr, xr, h2.keep hq rfl (fun _ => rfl) (fun _ => rfl), h3.keep hq rfl rfl, h4, ?_⟩
    rw [hq.i 147 15 rfl, hq.l 150 rfl]
    exact h5
  · exact Or.inr (Or.inl ⟨(hq.i 147 14 rfl).trans h1, en, p, ls, pa, pl, pp, ix, lw, cu, ld, St, Gd, rk, nr, h2.keep hq rfl (fun _ => rfl) (fun _ => rfl), h3.keep hq rfl rfl, h4, (hq.i 147 15 rfl).trans h5, h6⟩)
  · refine Or.inr (Or.inr ⟨en, p, ls, pa, pl, pp, ix, lw, cu, ld, St, Gd, rk, nr, h1.keep hq rfl (fun _ => rfl) (fun _ => rfl), (hq.i 147 14 rfl).trans h2, h3, by rw [hq.l 150 rfl]; exact h4, hd, c, tl, qu, (hq.i 147 15 rfl).trans h5, ?_, ?_, ?_, h9, by rw [hq.l 152 rfl]; exact h10, by rw [hq.l 152 rfl]; exact h11, h12⟩)
    · rw [hq.i 147 17 rfl]; exact h6
    · rw [hq.i 147 16 rfl, hq.l 152 rfl]; exact h7
    · rw [hq.i 147 18 rfl, hq.a 147 12 rfl]; exact h8
theorem SWJ.base (h : SWJ U T R wd rx mb me ga gi gq RB A g0 ev nk FS ph) : GRB U T R wd rx mb me ∧ LSN U ga gi gq 256 := by
  rcases h with ⟨h1, en, ps, ls, pa, pl, pp, ix, lw, cu, ld, St, Gd, rk, nr, xr, h2, -⟩ | ⟨h1, en, p, ls, pa, pl, pp, ix, lw, cu, ld, St, Gd, rk, nr, h2, -⟩ | ⟨en, p, ls, pa, pl, pp, ix, lw, cu, ld, St, Gd, rk, nr, h2, -⟩ <;> exact ⟨h2.1.1, h2.1.2.1⟩
theorem SWJ.want (h : SWJ U T R wd rx mb me ga gi gq RB A g0 ev nk FS ph) : U.2.1 147 15 = -1 ∨ ∃ r, r < R ∧ U.2.1 147 15 = nI r := by
  rcases h with ⟨h1, en, ps, ls, pa, pl, pp, ix, lw, cu, ld, St, Gd, rk, nr, xr, h2, h3, h4, h5⟩ | ⟨h1, en, p, ls, pa, pl, pp, ix, lw, cu, ld, St, Gd, rk, nr, h2, h3, h4, h5, h6⟩ | ⟨en, p, ls, pa, pl, pp, ix, lw, cu, ld, St, Gd, rk, nr, h1, h2, h3, h4, hd, c, tl, qu, h5, h6, h7, h8, h9, h10, h11, h12⟩
  · rcases h5 with ⟨y, -⟩ | ⟨t0, y1, y2, y3, -⟩
    · exact Or.inl y
    · exact Or.inr ⟨rx t0, (h2.1.1.2.1.2 t0 y1).2, y3⟩
  · exact Or.inr ⟨pa p, h2.top.1.2.2.1, h5⟩
  · exact Or.inr ⟨pl hd, (h1.pile.2.1 hd h6.2.1).2, h5⟩
theorem LPQ.kept (h : LPQ U G Th To st rx qu pp dp T R wd ga gi gq tl hh) (hq : uq F376 U V) : LPQ V G Th To st rx qu pp dp T R wd ga gi gq tl hh := by
  obtain ⟨h1, h2, h3, h4, h5, h6, ⟨h7, h8, h9⟩, h10⟩ := h
  refine ⟨?_, ?_, ?_, ?_, ?_, ?_, ⟨(hq.r 147 8 rfl).trans h7, h8.q hq (fun _ => rfl) (fun _ => rfl) rfl, ?_⟩, ?_⟩
  · rw [hq.i 147 18 rfl, hq.i 147 17 rfl, hq.i 147 14 rfl, hq.i 147 19 rfl]; exact h1
  · rw [hq.a 147 12 rfl]; exact h2
  · rw [hq.a 147 13 rfl]; exact h3
  · rw [hq.l 150 rfl]; exact h4
  · rw [hq.i 147 16 rfl, hq.l 150 rfl]; exact h5
  · rw [hq.a 147 10 rfl]; exact h6
  · rw [lsf_q h8 hq rfl rfl rfl]; exact h9
  · rw [hq.i 147 15 rfl, hq.l 150 rfl]; exact h10
theorem TLD.kept {n : Nat} {W : Nat → Nat} (h : TLD U T st n W) (hq : uq F376 U V) : TLD V T st n W := by
  unfold TLD at h ⊢
  rw [hq.i 147 19 rfl, hq.a 147 13 rfl]
  exact h
/-- a search for a least path, with what it has left to do -/
def LPJ (V : Ud) (G : Nat → Nat → Prop) (Th To : Nat → Prop) (st : Nat) (rx : Nat → Nat) (T R wd ga gi gq ph : Nat) : Prop :=
  (V.2.1 147 15 = -1 ∧ ∃ N W, LEA G Th To st N W ∧ TLD V T st N W) ∨ ∃ (qu pp dp : Nat → Nat) (tl hh : Nat), LPQ V G Th To st rx qu pp dp T R wd ga gi gq tl hh ∧ (V.2.1 147 15 = -1 ∨ T + 1 ≤ hh + ph)
theorem LPJ.kept (h : LPJ U G Th To st rx T R wd ga gi gq ph) (hq : uq F376 U V) : LPJ V G Th To st rx T R wd ga gi gq ph := by
  rcases h with ⟨h1, n, W, h2, h3⟩ | ⟨qu, pp, dp, tl, hh, h1, h2⟩
  · exact Or.inl ⟨(hq.i 147 15 rfl).trans h1, n, W, h2, h3.kept hq⟩
  · exact Or.inr ⟨qu, pp, dp, tl, hh, h1.kept hq, by rw [hq.i 147 15 rfl]; exact h2⟩
theorem LPJ.want (h : LPJ U G Th To st rx T R wd ga gi gq ph) (hrx : ∀ s, s < T → rx s < R) : U.2.1 147 15 = -1 ∨ ∃ r, r < R ∧ U.2.1 147 15 = nI r := by
  rcases h with ⟨h1, -⟩ | ⟨qu, pp, dp, tl, hh, h1, h2⟩
  · exact Or.inl h1
  · obtain ⟨⟨⟨-, -, q1⟩, -⟩, q2, -, -, -, -, -, ⟨y, -⟩ | ⟨k, y1, y2, -⟩⟩ := h1
    · exact Or.inl y
    · exact Or.inr ⟨rx (qu k), hrx _ (q2 k (by omega)).2, y2⟩
end DriveJobs
section DriveSweep
variable {H0 : mu_H} {m d P fb nf nw nb N us R wd N0 ga gi gq ev nk st : Nat} {C : Nat → Nat} {Y : Ts} {f od bs lv lc wa wn wi cl ro z mb me : Nat → Nat} {es : Nat → Int32} {nm tm : Nat → Int32} {wk p : Nat → Bool} {S : Nat → Nat → Bool} {bo oid : Nat → Nat → Nat} {Gr G : Nat → Nat → Prop} {al A g0 Th To : Nat → Prop} {FS : Nat → Nat → Bool} {Φ : mu_R → Prop}
/-- a sweep is driven to its end -/
theorem dr_sweep (hRN : R = N - fb) (hmem : ∀ r, ¬ r = 0 → r < R → ∃ s, s < pd f 0 P ∧ ro s = r) (hC21 : 2 * (((Y 13).1 + 2) * 4) + 4 ≤ C 21) (hC21b : C 21 ≤ 8388608)
    (hfin : ∀ (i' : Nat) (H3 : mu_H) (ph : Nat), um m H3 → i' + 1 ≤ N0 → ur m C H0 H3 → RDX (ud m H3) m od Y es P f fb (pd f 0 P) Gr N us S z p nf nm tm bs lv lc oid nw wa wn wi wk nb bo cl al ro → GRB (ud m H3) (pd f 0 P) R wd ro mb me → SWJ (ud m H3) (pd f 0 P) R wd ro mb me ga gi gq (fun r x => S (fb + r) x = true) A g0 ev nk FS ph → (ud m H3).2.1 147 15 = -1 → mu_W (mu_D (d + 20)) mu_m376 (2, [(1, .inl (nI i')), (0, .inr (.inr (some 0)))], [], H3) Φ) (hN0 : N0 ≤ 1073741824) :
    ∀ (ph i : Nat) (H : mu_H), i + ph + 1 ≤ N0 → um m H → ur m C H0 H → RDX (ud m H) m od Y es P f fb (pd f 0 P) Gr N us S z p nf nm tm bs lv lc oid nw wa wn wi wk nb bo cl al ro → GRB (ud m H) (pd f 0 P) R wd ro mb me → SWJ (ud m H) (pd f 0 P) R wd ro mb me ga gi gq (fun r x => S (fb + r) x = true) A g0 ev nk FS ph → mu_W (mu_D (d + 20)) mu_m376 (2, [(1, .inl (nI i)), (0, .inr (.inr (some 0)))], [], H) Φ := by
  refine dr_run (d := d) (C := C) (J := fun ph V => SWJ V (pd f 0 P) R wd ro mb me ga gi gq (fun r x => S (fb + r) x = true) A g0 ev nk FS ph) hRN hmem hC21 hC21b (fun ph V h => h.want) (fun ph U V h hq => h.kept hq) (fun ph H2 V r bf bt u2 d2 hR hG hJ hwa hr hrow => ?_) hfin hN0
  have hRT := hG.2.2.1.1
  have hTb := hG.1.2.2
  refine (gr_visitS (d := d + 12) (C := C) u2 d2 hR.1.1.2.2.2.2.2.2.1.1.2.2.1 hR.2.1.2.2.2.1 (by have := hR.2.1.2.1; omega) hRN hwa hr (by omega) hJ hrow).imp (fun H3 y => ?_)
  obtain ⟨y1, y2, y3, y4, y5, y6⟩ := y
  have ha : ¬ ga = 114 := by
    rcases hJ.base.2 with w | w
    · have := w.1; omega
    · have := w.1; omega
  exact ⟨y1, y2, hR.keep4 y3 rfl rfl rfl (funext fun c => y4.2.1 114 c (fun w => ha w.1)), y6.base.1, ph - 1, by omega, y6⟩
/-- a search for a least path is driven to its end -/
theorem dr_lead (hRN : R = N - fb) (hmem : ∀ r, ¬ r = 0 → r < R → ∃ s, s < pd f 0 P ∧ ro s = r) (hC21 : 2 * (((Y 13).1 + 2) * 4) + 4 ≤ C 21) (hC21b : C 21 ≤ 8388608) (hrx : ∀ s, s < pd f 0 P → ro s < R) (hGR : ∀ s t, s < pd f 0 P → (G s t ↔ S (fb + ro s) t = true)) (hGT : ∀ s t, G s t → t < pd f 0 P) (hST : ∀ r x, S (fb + r) x = true → x < pd f 0 P)
    (hfin : ∀ (i' : Nat) (H3 : mu_H) (ph : Nat), um m H3 → i' + 1 ≤ N0 → ur m C H0 H3 → RDX (ud m H3) m od Y es P f fb (pd f 0 P) Gr N us S z p nf nm tm bs lv lc oid nw wa wn wi wk nb bo cl al ro → GRB (ud m H3) (pd f 0 P) R wd ro mb me → LPJ (ud m H3) G Th To st ro (pd f 0 P) R wd ga gi gq ph → (ud m H3).2.1 147 15 = -1 → mu_W (mu_D (d + 20)) mu_m376 (2, [(1, .inl (nI i')), (0, .inr (.inr (some 0)))], [], H3) Φ) (hN0 : N0 ≤ 1073741824) :
    ∀ (ph i : Nat) (H : mu_H), i + ph + 1 ≤ N0 → um m H → ur m C H0 H → RDX (ud m H) m od Y es P f fb (pd f 0 P) Gr N us S z p nf nm tm bs lv lc oid nw wa wn wi wk nb bo cl al ro → GRB (ud m H) (pd f 0 P) R wd ro mb me → LPJ (ud m H) G Th To st ro (pd f 0 P) R wd ga gi gq ph → mu_W (mu_D (d + 20)) mu_m376 (2, [(1, .inl (nI i)), (0, .inr (.inr (some 0)))], [], H) Φ := by
  refine dr_run (d := d) (C := C) (J := fun ph V => LPJ V G Th To st ro (pd f 0 P) R wd ga gi gq ph) hRN hmem hC21 hC21b (fun ph V h => h.want hrx) (fun ph U V h hq => h.kept hq) (fun ph H2 V r bf bt u2 d2 hR hG hJ hwa hr hrow => ?_) hfin hN0
  have hRT := hG.2.2.1.1
  have hTb := hG.1.2.2
  have hne : ¬ V.2.1 147 15 = -1 := by rw [hwa]; exact nI_neg1 (by omega)
  rcases hJ with ⟨y, -⟩ | ⟨qu, pp, dp, tl, hh, hQ, hph⟩
  · exact absurd y hne
  · have hph := hph.resolve_left hne
    have htl : tl ≤ pd f 0 P := by
      obtain ⟨-, q2, -, -, -, -, -, ⟨w, -⟩ | ⟨k, -, -, hD⟩⟩ := id hQ
      · exact absurd w hne
      · exact pig_le _ tl qu (fun i hi => (q2 i hi).2) hD.2.1
    have hht := hQ.1.1.2.2
    refine (gr_visitG (d := d + 12) (C := C) u2 d2 hG hQ hwa hr hrow hGR hGT hST).imp (fun H3 y => ?_)
    obtain ⟨y1, y2, y3, y4, y5⟩ := y
    refine ⟨y1, y2, hR.keep4 y3 rfl rfl rfl (congrFun (y3.2.2.2.2.2 rfl) 114), hG.keep y3 rfl y4, ph - 1, by omega, ?_⟩
    rcases y5 with w | ⟨qu', pp', dp', tl', h2, w1, w2⟩
    · exact Or.inl w
    · exact Or.inr ⟨qu', pp', dp', tl', h2, w1, w2.imp id (fun w => by omega)⟩
end DriveSweep
