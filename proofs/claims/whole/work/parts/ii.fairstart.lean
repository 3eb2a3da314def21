/-! THE FIRST DRIVE: what can be reached, what is FAIR -/
def FEX : Uf := ⟨[22, 24, 21], FDK.i ++ [(147, 9), (158, 14)], FDK.a, FDK.n ++ [(147, 8)], FDK.l ++ [149, 153], true⟩
def F14 : Uf := ⟨[], [(158, 14)], [], [], [], false⟩
section FirstDrive
variable {H H0 : mu_H} {U U0 V V' V0 V3 X K0 : Ud} {m d P R wd nk N a i0 into n sc jl jr sj qs i N0 fb NN us nf nw nb : Nat} {C : Nat → Nat} {Y : Ts} {f od bs lv lc wa wn wi cl ro z mb me : Nat → Nat} {es rs nm tm : Nat → Int32} {wk p : Nat → Bool} {S FS : Nat → Nat → Bool} {bo oid : Nat → Nat → Nat} {Gr G : Nat → Nat → Prop} {al E Fr : Nat → Prop} {js : Nat → Option Nat} {F : Uf} {L4 L8 : Nat → Int64} {Q : Nat → Nat → Nat → Prop} {Φ : mu_R → Prop}
variable {KW : Ud} {ns : Nat} {sa sN si : Nat → Nat} {ini : Nat → Prop}
theorem pv_driveE (hRN : R = NN - fb) (hmem : ∀ r, ¬ r = 0 → r < R → ∃ s, s < pd f 0 P ∧ ro s = r) (hST : ∀ r x, S (fb + r) x = true → x < pd f 0 P) (hG : ∀ s t, s < pd f 0 P → (G s t ↔ S (fb + ro s) t = true)) (hGE : ∀ s t, G s t → E t) (hTw : pd f 0 P ≤ 64 * wd) (hE : ∀ s, s < 64 * wd → (bts L4 s = true ↔ E s)) (hET : ∀ s, E s → s < pd f 0 P) (hC21 : 2 * (((Y 13).1 + 2) * 4) + 4 ≤ C 21) (hC21b : C 21 ≤ 8388608) (hrx : ∀ s, s < pd f 0 P → ro s < R) (h : um m H) (hR : RDX (ud m H) m od Y es P f fb (pd f 0 P) Gr NN us S z p nf nm tm bs lv lc oid nw wa wn wi wk nb bo cl al ro) (hGb : GRB (ud m H) (pd f 0 P) R wd ro mb me) (hB : BFK (ud m H) E ini G ro (pd f 0 P) R wd (pd f 0 P + 1)) (hFS : FST (ud m H) nk (pd f 0 P) FS) (hP : PLS (ud m H)) (h14 : (ud m H).2.1 158 14 = 1) (htr : (ud m H).2.2.2.1 158 22 = none) (h124 : (ud m H).2.2.2.2.1 124 = L4) (h0 : (ud m H).1 0 = Y 0) (hm0 : (ud m H).2.2.2.1 99 0 = some m) (hk7 : ∀ k, k < 64 → ((ud m H).2.2.1 158 7).2 k = -1) (x15 : (ud m H).1 15 = KW.1 15) (x98 : (ud m H).2.2.1 99 8 = KW.2.2.1 99 8) : mu_TV (mu_D (d + 21)) 376 [.inr (.inr (some 0))] H (fun H1 => um m H1 ∧ ur m C H H1 ∧ (∃ L8, (SKW (ud m H1) m (RDK m od Y es P f fb Gr NN us S z p nf nm tm bs lv lc oid nw wa wn wi wk nb bo cl al ro) (pd f 0 P) R wd ro mb me nk FS L4 L8 Y ∧ (ud m H1).2.1 158 14 = 0 ∧ KPT (ud m H1) (pd f 0 P) wd ns E (SPD Y G E (EGS G nk (fun f t => FS f t = true) E) nk (fun f t => FS f t = true) KW f P od sa sN si) ∧ (ud m H1).1 15 = KW.1 15 ∧ (ud m H1).2.2.1 99 8 = KW.2.2.1 99 8) ∧ (∀ s, s < pd f 0 P → (bts L8 s = true ↔ (EGS G nk (fun f t => FS f t = true) E) s)) ∧ ∀ s, s < 64 * wd → bts L8 s = true → s < pd f 0 P) ∧ (∀ s, s < pd f 0 P → (bts ((ud m H1).2.2.2.2.1 149) s = true ↔ RCH ini G s)) ∧ uq FEX (ud m H) (ud m H1) ∧ ∀ b c, ¬ b = 0 → (ud m H1).2.2.2.2.2 b c = (ud m H).2.2.2.2.2 b c) := by
  have hRb : R ≤ 20000 := by have := hGb.2.2.1.1; have := hGb.1.2.2; omega
  have hTb : pd f 0 P ≤ 16384 := hGb.1.2.2
  have hEf : (fun t => t < pd f 0 P ∧ bts L4 t = true) = E := funext fun t => propext ⟨fun y => (hE t (by omega)).mp y.2, fun y => ⟨hET t y, (hE t (by have := hET t y; omega)).mpr y⟩⟩
  refine pv_driveW (fun Φ hΦ => ?_)
  refine dr_exploreK (d := d) (C := C) (H0 := H) (V0 := ud m H) (N0 := pd f 0 P + 2) (E := E) (ini := ini) (G := G) (wd := wd) (mb := mb) (me := me) hRN hmem hC21 hC21b hrx hG hGE hET hST (fun i1 H1 ph u1 b1 r1 R1 G1 B1 q1 p1 e148 e162 w1 => ?_) (by omega) (pd f 0 P + 1) 0 H (by omega) h (ur.refl m C H) hR hGb hB (uq.refl _ _) rfl rfl rfl
  have hreach : ∀ s, s < pd f 0 P → (bts ((ud m H1).2.2.2.2.1 149) s = true ↔ RCH ini G s) := by
    obtain ⟨qu, tl, h2, -, -, -, ⟨-, hb⟩ | ⟨-, hne, -⟩⟩ := B1
    · exact hb
    · exact absurd w1 hne
  have l1 : (ud m H1).2.2.2.2.1 124 = L4 := (q1.l 124 rfl).trans h124
  refine dr_adv (d := d) (PV := fun H2 => um m H2 ∧ ur m C H1 H2 ∧ uq F311 (upI (ud m H1) 158 14 2) (ud m H2) ∧ SWJ (ud m H2) (pd f 0 P) R wd ro mb me 0 148 148 (fun r x => S (fb + r) x = true) (fun t => t < pd f 0 P ∧ bts ((ud m H1).2.2.2.2.1 124) t = true) (fun _ => False) 1 nk FS (8 * R)) (PW := fun _ => False) u1 rfl (by omega) w1 ((q1.r 158 22 rfl).trans htr) (by rw [q1.i 158 14 rfl, h14]; decide) ((pr_adv1 (d := d + 14) (C := C) u1 rfl ((q1.i 158 14 rfl).trans h14) G1 (hFS.eq (q1.i 99 19 rfl) (q1.a 113 3 rfl) (fun c => by rw [p1])) (fun s hs y => hET s ((hE s hs).mp (by rw [← l1]; exact y))) hST).imp (fun x H2 y => Or.inl ⟨y.1, y.2⟩)) (fun H2 y => ?_) (fun _ y => False.elim y)
  obtain ⟨u2, r2, q2, S2⟩ := y
  have q12 : uq F14 (ud m H1) (upI (ud m H1) 158 14 2) := (uq.refl F14 _).I rfl
  have R2 : RDX (ud m H2) m od Y es P f fb (pd f 0 P) Gr NN us S z p nf nm tm bs lv lc oid nw wa wn wi wk nb bo cl al ro := (R1.keep4 q12 rfl rfl rfl rfl).keep4 q2 rfl rfl rfl (congrFun (q2.2.2.2.2.2 rfl) 114)
  refine dr_sweepK (d := d) (C := C) (H0 := H2) (V0 := ud m H2) (N0 := i1 + 1 + 8 * R + 1) (ga := 0) (gi := 148) (gq := 148) (wd := wd) (mb := mb) (me := me) (nk := nk) (FS := FS) (ev := 1) (A := fun t => t < pd f 0 P ∧ bts ((ud m H1).2.2.2.2.1 124) t = true) (g0 := fun _ => False) hRN hmem hC21 hC21b (fun i3 H3 ph u3 b3 r3 R3 G3 S3 q3 k3 w3 => ?_) (by omega) (8 * R) (i1 + 1) H2 (by omega) u2 (ur.refl m C H2) R2 S2.base.1 S2 (uq.refl _ _) (GKP.refl _ _ _)
  have h14' : (ud m H3).2.1 158 14 = 2 := (q3.i 158 14 rfl).trans ((q2.i 158 14 rfl).trans rfl)
  have hr22 : (ud m H3).2.2.2.1 158 22 = none := (q3.r 158 22 rfl).trans ((q2.r 158 22 rfl).trans ((q1.r 158 22 rfl).trans htr))
  refine dr_adv (d := d) (PV := fun _ => False) (PW := fun H4 => um m H4 ∧ ur m C H3 H4 ∧ ud m H4 = upI (ud m H3) 158 14 0) u3 rfl (by omega) w3 hr22 (by rw [h14']; decide) ((pr_adv2 (d := d + 14) (C := C) u3 rfl h14').imp (fun x H4 y => Or.inr ⟨y.1, y.2⟩)) (fun _ y => False.elim y) (fun H4 y => ?_)
  obtain ⟨u4, r4, d4⟩ := y
  have q34 : uq F14 (ud m H3) (ud m H4) := by rw [d4]; exact (uq.refl F14 _).I rfl
  have ep3 : ∀ b c, ¬ b = 0 → (ud m H3).2.2.2.2.2 b c = (ud m H).2.2.2.2.2 b c := fun b c hb => (k3.2.1 b c (fun z => hb z.1.symm)).trans ((congrFun (congrFun (q2.2.2.2.2.2 rfl) b) c).trans (congrFun (congrFun p1 b) c))
  have ep4 : ∀ b c, ¬ b = 0 → (ud m H4).2.2.2.2.2 b c = (ud m H).2.2.2.2.2 b c := fun b c hb => (congrFun (congrFun (q34.2.2.2.2.2 rfl) b) c).trans (ep3 b c hb)
  have hq : uq FEX (ud m H) (ud m H4) := ((((q1.mono (G := FEX) rfl).trans (q12.mono rfl)).trans (q2.mono rfl)).trans (q3.mono rfl)).trans (q34.mono rfl)
  have hPL : PLS (ud m H4) := by
    refine ⟨fun c hc => ?_, fun c hc => ?_⟩
    · have e := ep4 161 c (by decide)
      rcases hP.1 c hc with y | ⟨q, y⟩
      · exact Or.inl (e.trans y)
      · exact Or.inr ⟨q, y.mv (hq.r 161 c rfl) e⟩
    · have e := ep4 163 c (by decide)
      rcases hP.2 c hc with y | ⟨q, L, y1, y⟩
      · exact Or.inl (e.trans y)
      · exact Or.inr ⟨q, L, y1, y.mv (hq.r 163 c rfl) e⟩
  refine hΦ H4 ⟨u4, r1.trans (r2.trans (r3.trans r4)), ⟨(ud m H4).2.2.2.2.1 148, ⟨⟨R3.keep4 q34 rfl rfl rfl (congrFun (q34.2.2.2.2.2 rfl) 114), G3.keep q34 rfl (NK.of_eq (q34.a 147 10 rfl)), hFS.eq (hq.i 99 19 rfl) (hq.a 113 3 rfl) (fun c => ep4 114 c (by decide)), hPL, ⟨(q34.r 158 22 rfl).trans hr22, (q34.i 147 15 rfl).trans w3⟩, ⟨(hq.l 124 rfl).trans h124, rfl⟩, (hq.t 0 rfl).trans h0, (hq.r 99 0 rfl).trans hm0⟩, by rw [d4]; rfl, fun k hk => Or.inl (by rw [hq.a 158 7 rfl]; exact hk7 k hk), (hq.t 15 rfl).trans x15, (hq.a 99 8 rfl).trans x98⟩, fun s hs => ?_, fun s hs y => S3.fin2 s hs (by rw [q34.l 148 rfl] at y; exact y)⟩, fun s hs => ?_, hq, ep4⟩
  · have e8 : (ud m H4).2.2.2.2.1 148 = lgf (ud m H3) 0 148 := (q34.l 148 rfl).trans (funext fun k => (if_pos rfl).symm)
    have eEs : (s < pd f 0 P ∧ bts L4 s = true) ↔ E s := iff_of_eq (congrFun hEf s)
    rw [e8, (S3.fin w3 hRb).2 s hs, l1, hEf, eEs]
    constructor
    · rintro (y | ⟨y1, y2⟩)
      · exact False.elim y
      · exact (gdr_egs (RB := (fun r x => S (fb + r) x = true)) (rx := ro) hG hET y1).mp ((gdr_ed ⟨fun _ => trivial, fun _ => by decide⟩).mp y2)
    · intro y
      have ys := y.inside
      exact Or.inr ⟨ys, (gdr_ed ⟨fun _ => trivial, fun _ => by decide⟩).mpr ((gdr_egs (RB := (fun r x => S (fb + r) x = true)) (rx := ro) hG hET ys).mpr y)⟩
  · rw [q34.l 149 rfl, q3.l 149 rfl, q2.l 149 rfl]
    exact hreach s hs
end FirstDrive
