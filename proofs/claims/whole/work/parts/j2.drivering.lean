/-! DRIVE: a ring is led, leg by leg -/
/-- the machine holds how far the ring has come -/
def RGM (V : Ud) (Z : Nat → Prop) (wd g0 g1 : Nat) (x : RGT) : Prop := (V.2.1 158 10 = nI x.1 ∧ V.2.1 158 21 = nI x.2.2.1 ∧ V.2.1 158 16 = nI x.2.2.2 ∧ V.2.1 158 14 = 5) ∧ (∀ j, j < x.1 → (V.2.2.1 158 8).2 j = nI (x.2.1 j)) ∧ (LSN V 161 0 g0 256 ∧ LSN V 161 1 g1 256) ∧ ∀ t, t < 64 * wd → (bts (lgf V 161 1) t = true ↔ Z t)
/-- FAIRNESS by their rows -/
def FRR (V : Ud) (m lg : Nat) (g : Nat → Nat → Prop) : Prop := V.2.2.2.1 99 0 = some m ∧ (V.1 16).1 < 2147483647 ∧ max 1 (V.1 16).1 = lg ∧ (((V.1 16).1 = 0 ∧ ∀ t, g 0 t) ∨ (¬ (V.1 16).1 = 0 ∧ ∀ a, a < lg → ∃ id sx fc S, (V.1 16).2 a 3 = nI id ∧ sat V id sx fc ∧ stz fc sx S ∧ (∀ x, S x = true → x < 16384) ∧ ∀ t, g a t ↔ S t = true))
/-- pools, but for what lies in the Prover's own sets -/
def PKS (U V : Ud) : Prop := V.2.2.2.2.2 114 = U.2.2.2.2.2 114 ∧ V.2.2.2.2.2 163 = U.2.2.2.2.2 163 ∧ (∀ c, (V.2.2.2.2.2 161 c).map (fun x => x.1) = (U.2.2.2.2.2 161 c).map (fun x => x.1)) ∧ V.2.2.2.2.1 148 = U.2.2.2.2.1 148
def FRNG : Uf := ⟨FDK.t, [(158, 10), (158, 14), (158, 16), (158, 21)] ++ FDK.i, (158, 8) :: FDK.a, (147, 8) :: FDK.n, FDK.l, true⟩
def FRLG : Uf := ⟨[], [(158, 10), (158, 14), (158, 16), (158, 21)] ++ F314.i, (158, 8) :: F314.a, F314.n, [148, 162, 150], true⟩
section DriveRing
variable {H H0 : mu_H} {U V W0 V1 X : Ud} {m d P R wd fb NN us nf nw nb g0 g1 lg T n : Nat} {C : Nat → Nat} {Y : Ts} {f od bs lv lc wa wn wi cl ro z mb me W : Nat → Nat} {es nm tm : Nat → Int32} {wk p : Nat → Bool} {S : Nat → Nat → Bool} {bo oid : Nat → Nat → Nat} {Gr G g : Nat → Nat → Prop} {al Z : Nat → Prop} {F : Uf} {Φ : mu_R → Prop} {x x0 y : RGT}
theorem PKS.refl (U : Ud) : PKS U U := ⟨rfl, rfl, fun _ => rfl, rfl⟩
theorem PKS.trans (h : PKS U V) (h' : PKS V X) : PKS U X := ⟨h'.1.trans h.1, h'.2.1.trans h.2.1, fun c => (h'.2.2.1 c).trans (h.2.2.1 c), h'.2.2.2.trans h.2.2.2⟩
theorem PKS.of_eq (h : V.2.2.2.2.2 = U.2.2.2.2.2) (e : V.2.2.2.2.1 148 = U.2.2.2.2.1 148) : PKS U V := ⟨by rw [h], by rw [h], fun c => by rw [h], e⟩
theorem PKS.gk {j : Nat} (h : GKP 161 j U V) : PKS U V := by
  refine ⟨funext fun c => h.2.1 114 c (fun y => absurd y.1 (by decide)), funext fun c => h.2.1 163 c (fun y => absurd y.1 (by decide)), fun c => ?_, h.1 148 (Or.inl rfl) (fun y => absurd y.1 (by decide))⟩
  by_cases e : j = c
  · rw [← e]; exact h.2.2
  · rw [h.2.1 161 c (fun y => e y.2)]
theorem PKS.lsn {j q L : Nat} (hk : PKS U V) (hq : uq F U V) (hn : ∀ c, in2 F.n 161 c = false) (h : LSN U 161 j q L) : LSN V 161 j q L := by
  rcases h with ⟨y, -⟩ | ⟨y1, y2, y3, f, y4⟩
  · cases y
  · refine Or.inr ⟨y1, y2, (hq.r 161 j (hn j)).trans y3, ?_⟩
    have e := hk.2.2.1 j
    rw [y4] at e
    cases c : V.2.2.2.2.2 161 j with
    | none => rw [c] at e; cases e
    | some w =>
      rw [c] at e
      have e2 : w.1 = L := Option.some.inj e
      exact ⟨w.2, by rw [← e2]⟩
theorem PKS.pls (hk : PKS U V) (hq : uq F U V) (hn : ∀ c, in2 F.n 161 c = false) (hm : ∀ c, in2 F.n 163 c = false) (h : PLS U) : PLS V := by
  refine ⟨fun c hc => ?_, fun c hc => ?_⟩
  · rcases h.1 c hc with y | ⟨q, y⟩
    · left
      have e := hk.2.2.1 c
      rw [y] at e
      cases k : V.2.2.2.2.2 161 c with
      | none => rfl
      | some w => rw [k] at e; cases e
    · exact Or.inr ⟨q, hk.lsn hq hn y⟩
  · have e := congrFun hk.2.1 c
    rcases h.2 c hc with y | ⟨q, L, y1, y2⟩
    · exact Or.inl (e.trans y)
    · exact Or.inr ⟨q, L, y1, y2.mv (hq.r 163 c (hm c)) e⟩
theorem FRR.eq (h : FRR U m lg g) (e1 : V.2.2.2.1 99 0 = U.2.2.2.1 99 0) (e2 : V.1 16 = U.1 16) (e3 : V.2.2.1 113 3 = U.2.2.1 113 3) (e4 : V.2.2.2.2.2 114 = U.2.2.2.2.2 114) : FRR V m lg g := by
  obtain ⟨h1, h2, h3, h4⟩ := h
  refine ⟨e1.trans h1, by rw [e2]; exact h2, by rw [e2]; exact h3, ?_⟩
  rw [e2]
  refine h4.imp id (fun ⟨k1, k2⟩ => ⟨k1, fun a ha => ?_⟩)
  obtain ⟨id, sx, fc, S, y1, ⟨s1, s2, s3, s4⟩, y3⟩ := k2 a ha
  exact ⟨id, sx, fc, S, y1, ⟨by rw [e3]; exact s1, by rw [e3]; exact s2, s3, by rw [e4]; exact s4⟩, y3⟩
theorem RGM.kp (h : RGM U Z wd g0 g1 x) (hq : uq F U V) (hk : PKS U V) (k1 : in2 F.i 158 10 = false) (k2 : in2 F.i 158 21 = false) (k3 : in2 F.i 158 16 = false) (k4 : in2 F.i 158 14 = false) (k5 : in2 F.a 158 8 = false) (k6 : ∀ c, in2 F.n 161 c = false) (e1 : lgf V 161 1 = lgf U 161 1) : RGM V Z wd g0 g1 x := by
  obtain ⟨⟨h1, h2, h3, h4⟩, h5, ⟨h6, h7⟩, h8⟩ := h
  refine ⟨⟨(hq.i 158 10 k1).trans h1, (hq.i 158 21 k2).trans h2, (hq.i 158 16 k3).trans h3, (hq.i 158 14 k4).trans h4⟩, fun j hj => by rw [hq.a 158 8 k5]; exact h5 j hj, ⟨hk.lsn hq k6 h6, hk.lsn hq k6 h7⟩, ?_⟩
  rw [e1]
  exact h8
/-- a leg is set out for -/
theorem dr_leg (h : um m H) (hRN : R = NN - fb) (hF : FRR (ud m H) m lg g) (hlgb : lg < 2147483647) (hM : RGM (ud m H) Z wd g0 g1 x) (hGb : GRB (ud m H) T R wd ro mb me) (hN : (ud m H).2.1 113 2 = nI NN) (hfb : (ud m H).2.1 113 8 = nI fb) (hfN : fb ≤ NN) (hZT : ∀ t, Z t → t < T) (hTw : T ≤ 64 * wd) (hI : RGI G Z lg x) (hx2 : x.1 ≤ 2000) : mu_TV (mu_D (d + 4)) 347 [.inr (.inr (some 158))] H (fun H1 => um m H1 ∧ ur m C H H1 ∧ ∃ W hh, (uq FLEG (ud m H) W ∧ GKP 161 0 (ud m H) W) ∧ (uq F314 W (ud m H1) ∧ NK W (ud m H1)) ∧ LPQ (ud m H1) G Z (RGG lg g Z x) (x.2.1 (x.1 - 1)) ro (fun _ => x.2.1 (x.1 - 1)) (fun _ => 0) (fun _ => 0) T R wd 161 0 g0 1 hh) := by
  obtain ⟨f1, f2, f3, f4⟩ := hF
  obtain ⟨⟨m1, m2, m3, m4⟩, m5, ⟨m6, m7⟩, m8⟩ := hM
  obtain ⟨⟨i1, i2, i3⟩, iz, ig⟩ := hI
  have hst := hZT _ (iz (x.1 - 1) (by omega))
  have hT1 : ∀ s, s < 64 * wd → bts (lgf (ud m H) 161 1) s = true → s < T := fun s hs y => hZT s ((m8 s hs).mp y)
  have hwn : wd ≤ 256 := by have := hGb.1.2.1; have := hGb.1.2.2; omega
  have hRG : ∀ t, RGG lg g Z x t → t < T := fun t y => y.elim (fun y => hZT t y.2.2) (fun y => by rw [y.2]; exact hZT _ (iz _ i2))
  have conv : ∀ (gg : Nat → Prop) (W : Ud) (H1 : mu_H) (hh : Nat), LEG (ud m H) W gg wd → (∀ t, t < 64 * wd → (gg t ↔ RGG lg g Z x t)) → LPQ (ud m H1) G (fun t => t < T ∧ bts (lgf W 161 1) t = true) (fun t => t < T ∧ bts (lgf W 161 0) t = true) (x.2.1 (x.1 - 1)) ro (fun _ => x.2.1 (x.1 - 1)) (fun _ => 0) (fun _ => 0) T R wd 161 0 g0 1 hh → LPQ (ud m H1) G Z (RGG lg g Z x) (x.2.1 (x.1 - 1)) ro (fun _ => x.2.1 (x.1 - 1)) (fun _ => 0) (fun _ => 0) T R wd 161 0 g0 1 hh := by
    intro gg W H1 hh hL hgg hq
    have e1 : lgf W 161 1 = lgf (ud m H) 161 1 := lgf_ne hL.2.1.toQ ⟨by decide, fun z => absurd z.2 (by decide)⟩
    have eT : (fun t => t < T ∧ bts (lgf W 161 1) t = true) = Z := funext fun t => propext ⟨fun y => (m8 t (by have := y.1; omega)).mp (by have := y.2; rw [e1] at this; exact this), fun y => ⟨hZT t y, by rw [e1]; exact (m8 t (by have := hZT t y; omega)).mpr y⟩⟩
    have eO : (fun t => t < T ∧ bts (lgf W 161 0) t = true) = RGG lg g Z x := funext fun t => propext ⟨fun y => (hgg t (by have := y.1; omega)).mp ((hL.2.2 t (by have := y.1; omega)).mp y.2), fun y => ⟨hRG t y, (hL.2.2 t (by have := hRG t y; omega)).mpr ((hgg t (by have := hRG t y; omega)).mpr y)⟩⟩
    rw [eT, eO] at hq
    exact hq
  by_cases hal : x.2.2.2 < lg
  · rcases f4 with ⟨n0, hg0⟩ | ⟨n0, hgf⟩
    · have ha0 : x.2.2.2 = 0 := by rw [n0] at f3; omega
      refine (pr_legN (d := d) (C := C) (G := G) (T := T) (R := R) (N := NN) (fb := fb) (rx := ro) (mb := mb) (me := me) (lg := lg) (a0 := x.2.2.2) (tc := x.1) (st := x.2.1 (x.1 - 1)) h rfl f1 (by omega) f3 (by omega) m3 (by omega) m1 i1 (by omega) (m5 _ (by omega)) hGb.1.1.1 hwn m6 m7 hst hTw hGb hN hfb hfN hRN hT1 hal n0).imp (fun H1 q => ?_)
      obtain ⟨u1, r1, W, hL, q1, nk, hh, hq⟩ := q
      refine ⟨u1, r1, W, hh, ⟨hL.1, hL.2.1⟩, ⟨q1, nk⟩, conv _ W H1 hh hL (fun t ht => ?_) hq⟩
      refine (m8 t ht).trans ⟨fun y => Or.inl ⟨hal, by rw [ha0]; exact hg0 t, y⟩, fun y => y.elim (fun y => y.2.2) (fun y => absurd y.1 (by omega))⟩
    · obtain ⟨id, sx, fc, S, k1, k2, k3, k4, k5⟩ := hgf _ hal
      refine (pr_legF (d := d) (C := C) (G := G) (T := T) (R := R) (N := NN) (fb := fb) (rx := ro) (mb := mb) (me := me) (lg := lg) (a0 := x.2.2.2) (tc := x.1) (st := x.2.1 (x.1 - 1)) (id := id) (sx := sx) (fc := fc) (S := S) h rfl f1 (by omega) f3 (by omega) m3 (by omega) m1 i1 (by omega) (m5 _ (by omega)) hGb.1.1.1 hwn m6 m7 hst hTw hGb hN hfb hfN hRN hT1 hal n0 k1 k2 k3 k4).imp (fun H1 q => ?_)
      obtain ⟨u1, r1, W, hL, q1, nk, hh, hq⟩ := q
      refine ⟨u1, r1, W, hh, ⟨hL.1, hL.2.1⟩, ⟨q1, nk⟩, conv _ W H1 hh hL (fun t ht => ?_) hq⟩
      refine ⟨fun y => Or.inl ⟨hal, (k5 t).mpr y.1, (m8 t ht).mp y.2⟩, fun y => y.elim (fun y => ⟨(k5 t).mp y.2.1, (m8 t ht).mpr y.2.2⟩) (fun y => absurd y.1 (by omega))⟩
  · have ha : x.2.2.2 = lg := by omega
    refine (pr_legB (d := d) (C := C) (G := G) (T := T) (R := R) (N := NN) (fb := fb) (rx := ro) (mb := mb) (me := me) (lg := lg) (a0 := x.2.2.2) (tc := x.1) (st := x.2.1 (x.1 - 1)) (bg := x.2.2.1) (tb := x.2.1 x.2.2.1) h rfl f1 (by omega) f3 (by omega) m3 (by omega) m1 i1 (by omega) (m5 _ (by omega)) hGb.1.1.1 hwn m6 m7 hst hTw hGb hN hfb hfN hRN hT1 (by omega) m2 (by omega) (m5 _ i2) (hZT _ (iz _ i2))).imp (fun H1 q => ?_)
    obtain ⟨u1, r1, W, hL, q1, nk, hh, hq⟩ := q
    refine ⟨u1, r1, W, hh, ⟨hL.1, hL.2.1⟩, ⟨q1, nk⟩, conv _ W H1 hh hL (fun t ht => ?_) hq⟩
    exact ⟨fun y => Or.inr ⟨ha, y⟩, fun y => y.elim (fun y => absurd y.1 (by omega)) (fun y => y.2)⟩
theorem RDX.nums {q : Nat} (h : RDX V m od Y es P f fb q Gr NN us S z p nf nm tm bs lv lc oid nw wa wn wi wk nb bo cl al ro) : V.2.1 113 2 = nI NN ∧ V.2.1 113 8 = nI fb ∧ fb ≤ NN := ⟨h.1.1.2.2.2.2.2.2.1.1.2.2.1, h.2.1.2.2.2.1, Nat.le_of_lt h.2.1.2.1⟩
/-- how the ring ended, in the machine -/
def RGZ (V : Ud) (G : Nat → Nat → Prop) (Z : Nat → Prop) (lg : Nat) (g : Nat → Nat → Prop) (y : RGT) : Prop := (∃ many tr, RGC G Z lg g y many tr y.2.2.1 ∧ many ≤ 20000 ∧ V.2.1 158 10 = nI many ∧ V.2.1 158 21 = nI y.2.2.1 ∧ ∀ j, j < many → j < 2001 → (V.2.2.1 158 8).2 j = nI (tr j)) ∨ (RGB G Z lg g y ∧ ∃ many, 2000 < many ∧ many ≤ 20000 ∧ V.2.1 158 10 = nI many)
/-- drive, until the ring is closed or too long -/
theorem dr_ring (hRN : R = NN - fb) (hmem : ∀ r, ¬ r = 0 → r < R → ∃ s, s < pd f 0 P ∧ ro s = r) (hC21 : 2 * (((Y 13).1 + 2) * 4) + 4 ≤ C 21) (hC21b : C 21 ≤ 8388608) (hrx : ∀ s, s < pd f 0 P → ro s < R) (hG : ∀ s t, s < pd f 0 P → (G s t ↔ S (fb + ro s) t = true)) (hGT : ∀ s t, G s t → t < pd f 0 P) (hST : ∀ r x, S (fb + r) x = true → x < pd f 0 P) (hTw : pd f 0 P ≤ 64 * wd) (hTb : pd f 0 P ≤ 16384) (hZT : ∀ t, Z t → t < pd f 0 P) (hlgb : lg < 2147483647) (hlg1 : 1 ≤ lg) (hway : ∀ a s, a < lg → Z s → ∃ n W, PTH G Z (fun t => g a t ∧ Z t) s n W)
    (hΦ : ∀ H1 y, um m H1 → ur m C H0 H1 → (uq FRNG U (ud m H1) ∧ PKS U (ud m H1)) → RDX (ud m H1) m od Y es P f fb (pd f 0 P) Gr NN us S z p nf nm tm bs lv lc oid nw wa wn wi wk nb bo cl al ro → GRB (ud m H1) (pd f 0 P) R wd ro mb me → (ud m H1).2.1 147 15 = -1 → (ud m H1).2.1 158 14 = 0 → RGR G Z lg g x0 y → RGI G Z lg y → y.1 ≤ 2000 → RGZ (ud m H1) G Z lg g y → Φ (.inl none, H1)) (htr : U.2.2.2.1 158 22 = none) :
    ∀ (k i : Nat) (x : RGT) (H : mu_H), 2 * (2001 - x.1) ≤ k → (x.2.2.2 = lg → 2 * (2001 - x.1) + 1 ≤ k) → i + (k + 1) * 16400 ≤ 1073741824 → um m H → ur m C H0 H → (uq FRNG U (ud m H) ∧ PKS U (ud m H)) → RDX (ud m H) m od Y es P f fb (pd f 0 P) Gr NN us S z p nf nm tm bs lv lc oid nw wa wn wi wk nb bo cl al ro → GRB (ud m H) (pd f 0 P) R wd ro mb me → RGM (ud m H) Z wd g0 g1 x → FRR (ud m H) m lg g → RGR G Z lg g x0 x → RGI G Z lg x → x.1 ≤ 2000 → (∃ hh, LPQ (ud m H) G Z (RGG lg g Z x) (x.2.1 (x.1 - 1)) ro (fun _ => x.2.1 (x.1 - 1)) (fun _ => 0) (fun _ => 0) (pd f 0 P) R wd 161 0 g0 1 hh) → mu_W (mu_D (d + 20)) mu_m376 (2, [(1, .inl (nI i)), (0, .inr (.inr (some 0)))], [], H) Φ := by
  intro k
  induction k with
  | zero =>
    intro i x H hk hk2 hi h h0 hq hR hGb hM hF hRG hI hx2 hL
    exact absurd hk (by omega)
  | succ k ih =>
    intro i x H hk hk2 hi h h0 hq hR hGb hM hF hRG hI hx2 hL
    obtain ⟨hh, hL⟩ := hL
    have hRb : R ≤ 20000 := by have := hGb.2.2.1.1; omega
    refine dr_leadK (d := d) (C := C) (H0 := H) (V0 := ud m H) (N0 := i + pd f 0 P + 3) (G := G) (Th := Z) (To := RGG lg g Z x) (st := x.2.1 (x.1 - 1)) (ga := 161) (gi := 0) (gq := g0) (wd := wd) (mb := mb) (me := me) hRN hmem hC21 hC21b hrx hG hGT hST (fun i1 H1 ph u1 b1 r1 R1 G1 J1 q1 p1 e148 e162 w1 => ?_) (by omega) (pd f 0 P + 1) i H (by omega) h (ur.refl m C H) hR hGb (Or.inr ⟨_, _, _, _, hh, hL, Or.inr (by omega)⟩) (uq.refl _ _) rfl rfl rfl
    have hP1 : PKS (ud m H) (ud m H1) := PKS.of_eq p1 e148
    have hM1 : RGM (ud m H1) Z wd g0 g1 x := hM.kp q1 hP1 rfl rfl rfl rfl rfl (fun _ => rfl) (lgf_pl (by decide) (by rw [p1]))
    have hF1 : FRR (ud m H1) m lg g := hF.eq (q1.r 99 0 rfl) (q1.t 16 rfl) (q1.a 113 3 rfl) (by rw [p1])
    have hq1 : uq FRNG U (ud m H1) := hq.1.trans (q1.mono rfl)
    have hK1 : PKS U (ud m H1) := hq.2.trans hP1
    have ht1 : (ud m H1).2.2.2.1 158 22 = none := (hq1.r 158 22 rfl).trans htr
    obtain ⟨⟨m1, m2, m3, m4⟩, m5, ⟨m6, m7⟩, m8⟩ := id hM1
    obtain ⟨f1, f2, f3, f4⟩ := id hF1
    obtain ⟨⟨i1', i2, i3⟩, iz, ig⟩ := id hI
    have hn3 : ¬ (ud m H1).2.1 158 14 = 3 := by rw [m4]; decide
    rcases J1.end w1 hTw hrx (by omega) with ⟨n, W, hLE, hTL⟩ | ⟨e19, hno⟩
    · have hn1 : 1 ≤ n := hLE.1.1
      have hW0 : W 0 = x.2.1 (x.1 - 1) := hLE.1.2.1
      have hnT : n ≤ pd f 0 P := hTL.2.2.2.2.2
      by_cases hal : x.2.2.2 < lg
      · by_cases hlen : x.1 + n ≤ 2000
        · -- one leg more
          have hS : RGS G Z lg g x (x.1 + n, rgx x.2.1 x.1 W, x.2.2.1, x.2.2.2 + 1) := Or.inl ⟨hal, n, W, hLE, rfl⟩
          have hI2 : RGI G Z lg (x.1 + n, rgx x.2.1 x.1 W, x.2.2.1, x.2.2.2 + 1) := hI.step hS
          refine dr_adv (d := d) (PV := fun H2 => um m H2 ∧ ur m C H1 H2 ∧ (ud m H2).2.1 158 14 = 5 ∧ ∃ V, uq F312 (ud m H1) V ∧ (∀ j, (V.2.2.1 158 8).2 j = if x.1 ≤ j ∧ j < x.1 + n ∧ j < 2001 then nI (W (j - x.1 + 1)) else ((ud m H1).2.2.1 158 8).2 j) ∧ ∃ Wd hh, (uq FLEG (upI (upI V 158 10 (nI (x.1 + n))) 158 16 (nI (x.2.2.2 + 1))) Wd ∧ GKP 161 0 (upI (upI V 158 10 (nI (x.1 + n))) 158 16 (nI (x.2.2.2 + 1))) Wd) ∧ (uq F314 Wd (ud m H2) ∧ NK Wd (ud m H2)) ∧ LPQ (ud m H2) G Z (RGG lg g Z (x.1 + n, rgx x.2.1 x.1 W, x.2.2.1, x.2.2.2 + 1)) (rgx x.2.1 x.1 W (x.1 + n - 1)) ro (fun _ => rgx x.2.1 x.1 W (x.1 + n - 1)) (fun _ => 0) (fun _ => 0) (pd f 0 P) R wd 161 0 g0 1 hh) (PW := fun _ => False) u1 rfl (by omega) w1 ht1 hn3 ((pr_adv5L (d := d + 14) (C := C) (lg := lg) (a0 := x.2.2.2) (tc := x.1) (st := x.2.1 (x.1 - 1)) (n := n) (W := W) (PL := fun V H2 => ∃ Wd hh, (uq FLEG (upI (upI V 158 10 (nI (x.1 + n))) 158 16 (nI (x.2.2.2 + 1))) Wd ∧ GKP 161 0 (upI (upI V 158 10 (nI (x.1 + n))) 158 16 (nI (x.2.2.2 + 1))) Wd) ∧ (uq F314 Wd (ud m H2) ∧ NK Wd (ud m H2)) ∧ LPQ (ud m H2) G Z (RGG lg g Z (x.1 + n, rgx x.2.1 x.1 W, x.2.2.1, x.2.2.2 + 1)) (rgx x.2.1 x.1 W (x.1 + n - 1)) ro (fun _ => rgx x.2.1 x.1 W (x.1 + n - 1)) (fun _ => 0) (fun _ => 0) (pd f 0 P) R wd 161 0 g0 1 hh) u1 rfl f1 (by omega) f3 (by omega) m3 (by omega) m1 i1' hx2 (m5 _ (by omega)) m4 hal G1 hTL hW0 hn1 hlen (fun V Q v1 v2 uQ eQ => ?_)).imp (fun x H2 y => Or.inl y)) (fun H2 y => ?_) (fun _ y => False.elim y)
          · -- the leg's own start
            have qx : uq FRLG (ud m H1) (ud m Q) := by rw [eQ]; exact (((v1.mono (G := FRLG) rfl)).I rfl).I rfl
            have pv : V.2.2.2.2.2 = (ud m H1).2.2.2.2.2 := v1.2.2.2.2.2 rfl
            have pk : PKS (ud m H1) (ud m Q) := by rw [eQ]; exact PKS.of_eq pv (v1.l 148 rfl)
            have hMQ : RGM (ud m Q) Z wd g0 g1 (x.1 + n, rgx x.2.1 x.1 W, x.2.2.1, x.2.2.2 + 1) := by
              refine ⟨⟨by rw [eQ]; rfl, by rw [eQ]; exact (v1.i 158 21 rfl).trans m2, by rw [eQ]; rfl, by rw [eQ]; exact (v1.i 158 14 rfl).trans m4⟩, fun j hj => ?_, ⟨pk.lsn qx (fun _ => rfl) m6, pk.lsn qx (fun _ => rfl) m7⟩, ?_⟩
              · rw [eQ]
                show (V.2.2.1 158 8).2 j = nI (rgx x.2.1 x.1 W j)
                have hj2 : j < x.1 + n := hj
                rw [v2 j]
                by_cases c : j < x.1
                · rw [if_neg (by omega), rgx_lt c]; exact m5 j c
                · rw [if_pos ⟨by omega, hj2, by omega⟩, rgx_ge c]
              · rw [show lgf (ud m Q) 161 1 = lgf (ud m H1) 161 1 from lgf_pl (by decide) (by rw [eQ]; exact congrFun (congrFun pv 161) 1)]
                exact m8
            have hFQ : FRR (ud m Q) m lg g := hF1.eq (qx.r 99 0 rfl) (qx.t 16 rfl) (qx.a 113 3 rfl) pk.1
            have hGQ : GRB (ud m Q) (pd f 0 P) R wd ro mb me := G1.keep qx rfl (NK.of_eq (by rw [eQ]; exact v1.a 147 10 rfl))
            have hnum := R1.nums
            refine (dr_leg (d := d + 14) (C := C) uQ hRN hFQ hlgb hMQ hGQ ((qx.i 113 2 rfl).trans hnum.1) ((qx.i 113 8 rfl).trans hnum.2.1) hnum.2.2 hZT hTw hI2 hlen).imp (fun H2 y => ?_)
            obtain ⟨u2, r2, Wd, hh2, y1, y2, y3⟩ := y
            refine ⟨u2, r2, ?_, Wd, hh2, by rw [eQ] at y1; exact y1, y2, y3⟩
            rw [y2.1.i 158 14 rfl, y1.1.i 158 14 rfl]
            exact hMQ.1.2.2.2
          · obtain ⟨u2, r2, t2, V, v1, v2, Wd, hh2, ⟨y1, y1k⟩, ⟨y2, y2k⟩, y3⟩ := y
            have pv : V.2.2.2.2.2 = (ud m H1).2.2.2.2.2 := v1.2.2.2.2.2 rfl
            have qx : uq FRLG (ud m H1) (upI (upI V 158 10 (nI (x.1 + n))) 158 16 (nI (x.2.2.2 + 1))) := (((v1.mono (G := FRLG) rfl)).I rfl).I rfl
            have q2 : uq FRLG (ud m H1) (ud m H2) := (qx.trans (y1.mono rfl)).trans (y2.mono rfl)
            have pk : PKS (ud m H1) (ud m H2) := ((PKS.of_eq (V := upI (upI V 158 10 (nI (x.1 + n))) 158 16 (nI (x.2.2.2 + 1))) pv (v1.l 148 rfl)).trans (PKS.gk y1k)).trans (PKS.of_eq (y2.2.2.2.2.2 rfl) (y2.l 148 rfl))
            have e1 : lgf (ud m H2) 161 1 = lgf (ud m H1) 161 1 := by
              rw [show lgf (ud m H2) 161 1 = lgf Wd 161 1 from lgf_pl (by decide) (congrFun (congrFun (y2.2.2.2.2.2 rfl) 161) 1), show lgf Wd 161 1 = _ from lgf_ne y1k.toQ ⟨by decide, fun z => absurd z.2 (by decide)⟩]
              exact lgf_pl (by decide) (congrFun (congrFun pv 161) 1)
            have nk : NK (ud m H1) (ud m H2) := ((NK.of_eq (V := Wd) (by rw [y1.a 147 10 rfl]; exact v1.a 147 10 rfl))).trans y2k
            refine ih (i1 + 1) (x.1 + n, rgx x.2.1 x.1 W, x.2.2.1, x.2.2.2 + 1) H2 (by show 2 * (2001 - (x.1 + n)) ≤ k; omega) (fun _ => by show 2 * (2001 - (x.1 + n)) + 1 ≤ k; omega) (by omega) u2 (h0.trans (r1.trans r2)) ⟨hq1.trans (q2.mono rfl), hK1.trans pk⟩ (R1.keep4 q2 rfl rfl rfl pk.1) (G1.keep q2 rfl nk) ⟨⟨?_, ?_, ?_, t2⟩, fun j hj => ?_, ⟨pk.lsn q2 (fun _ => rfl) m6, pk.lsn q2 (fun _ => rfl) m7⟩, by rw [e1]; exact m8⟩ (hF1.eq (q2.r 99 0 rfl) (q2.t 16 rfl) (q2.a 113 3 rfl) pk.1) (hRG.snoc hS hlen) hI2 hlen ⟨hh2, y3⟩
            · rw [y2.i 158 10 rfl, y1.i 158 10 rfl]; rfl
            · rw [y2.i 158 21 rfl, y1.i 158 21 rfl]; exact (v1.i 158 21 rfl).trans m2
            · rw [y2.i 158 16 rfl, y1.i 158 16 rfl]; rfl
            · rw [y2.a 158 8 rfl, y1.a 158 8 rfl]
              show (V.2.2.1 158 8).2 j = nI (rgx x.2.1 x.1 W j)
              have hj2 : j < x.1 + n := hj
              rw [v2 j]
              by_cases c : j < x.1
              · rw [if_neg (by omega), rgx_lt c]; exact m5 j c
              · rw [if_pos ⟨by omega, hj2, by omega⟩, rgx_ge c]
        · -- too long
          refine dr_adv (d := d) (PV := fun _ => False) (PW := fun H2 => um m H2 ∧ ur m C H1 H2 ∧ ∃ V, uq F312 (ud m H1) V ∧ (∀ j, (V.2.2.1 158 8).2 j = if x.1 ≤ j ∧ j < x.1 + n ∧ j < 2001 then nI (W (j - x.1 + 1)) else ((ud m H1).2.2.1 158 8).2 j) ∧ ud m H2 = upI (upI (upI V 158 10 (nI (x.1 + n))) 158 16 (nI (x.2.2.2 + 1))) 158 14 0) u1 rfl (by omega) w1 ht1 hn3 ((pr_adv5X (d := d + 14) (C := C) (lg := lg) (a0 := x.2.2.2) (tc := x.1) (st := x.2.1 (x.1 - 1)) (n := n) (W := W) u1 rfl f1 (by omega) f3 (by omega) m3 (by omega) m1 i1' hx2 (m5 _ (by omega)) m4 hal G1 hTL hW0 hn1 (by omega) (by omega)).imp (fun x H2 y => Or.inr y)) (fun _ y => False.elim y) (fun H2 y => ?_)
          obtain ⟨u2, r2, V, v1, v2, e2⟩ := y
          have pv : V.2.2.2.2.2 = (ud m H1).2.2.2.2.2 := v1.2.2.2.2.2 rfl
          have q2 : uq FRLG (ud m H1) (ud m H2) := by rw [e2]; exact (((v1.mono (G := FRLG) rfl).I rfl).I rfl).I rfl
          have pk : PKS (ud m H1) (ud m H2) := by rw [e2]; exact PKS.of_eq pv (v1.l 148 rfl)
          exact hΦ H2 x u2 (h0.trans (r1.trans r2)) ⟨hq1.trans (q2.mono rfl), hK1.trans pk⟩ (R1.keep4 q2 rfl rfl rfl pk.1) (G1.keep q2 rfl (NK.of_eq (by rw [e2]; exact v1.a 147 10 rfl))) (by rw [e2]; exact (v1.i 147 15 rfl).trans w1) (by rw [e2]; rfl) hRG hI hx2 (Or.inr ⟨⟨hal, n, W, hLE, by omega⟩, x.1 + n, by omega, by omega, by rw [e2]; rfl⟩)
      · -- it is closed
        have ha : x.2.2.2 = lg := by omega
        refine dr_adv (d := d) (PV := fun _ => False) (PW := fun H2 => um m H2 ∧ ur m C H1 H2 ∧ ∃ V, uq F312 (ud m H1) V ∧ (∀ j, (V.2.2.1 158 8).2 j = if x.1 ≤ j ∧ j < x.1 + n ∧ j < 2001 then nI (W (j - x.1 + 1)) else ((ud m H1).2.2.1 158 8).2 j) ∧ ud m H2 = upI (upI (upI V 158 10 (nI (x.1 + (n - 1)))) 158 16 (nI (x.2.2.2 + 1))) 158 14 0) u1 rfl (by omega) w1 ht1 hn3 ((pr_adv5E (d := d + 14) (C := C) (lg := lg) (a0 := x.2.2.2) (tc := x.1) (st := x.2.1 (x.1 - 1)) (n := n) (W := W) u1 rfl f1 (by omega) f3 (by omega) m3 (by omega) m1 i1' hx2 (m5 _ (by omega)) m4 (by omega) G1 hTL hW0 hn1 (by omega)).imp (fun x H2 y => Or.inr y)) (fun _ y => False.elim y) (fun H2 y => ?_)
        obtain ⟨u2, r2, V, v1, v2, e2⟩ := y
        have pv : V.2.2.2.2.2 = (ud m H1).2.2.2.2.2 := v1.2.2.2.2.2 rfl
        have q2 : uq FRLG (ud m H1) (ud m H2) := by rw [e2]; exact (((v1.mono (G := FRLG) rfl).I rfl).I rfl).I rfl
        have pk : PKS (ud m H1) (ud m H2) := by rw [e2]; exact PKS.of_eq pv (v1.l 148 rfl)
        refine hΦ H2 x u2 (h0.trans (r1.trans r2)) ⟨hq1.trans (q2.mono rfl), hK1.trans pk⟩ (R1.keep4 q2 rfl rfl rfl pk.1) (G1.keep q2 rfl (NK.of_eq (by rw [e2]; exact v1.a 147 10 rfl))) (by rw [e2]; exact (v1.i 147 15 rfl).trans w1) (by rw [e2]; rfl) hRG hI hx2 (Or.inl ⟨x.1 + (n - 1), rgx x.2.1 x.1 W, ⟨ha, rfl, n, W, hLE, rfl, rfl⟩, by omega, by rw [e2]; rfl, by rw [e2]; exact (v1.i 158 21 rfl).trans m2, fun j hj hj2 => ?_⟩)
        rw [e2]
        show (V.2.2.1 158 8).2 j = nI (rgx x.2.1 x.1 W j)
        rw [v2 j]
        by_cases c : j < x.1
        · rw [if_neg (by omega), rgx_lt c]; exact m5 j c
        · rw [if_pos ⟨by omega, by omega, by omega⟩, rgx_ge c]
    · by_cases hal : x.2.2.2 < lg
      · -- a FAIRNESS is always reached
        obtain ⟨n, W, w⟩ := hway x.2.2.2 (x.2.1 (x.1 - 1)) hal (iz _ (by omega))
        refine absurd ?_ (hno n W)
        exact ⟨w.1, w.2.1, w.2.2.1, w.2.2.2.1, Or.inl ⟨hal, w.2.2.2.2⟩⟩
      · have ha : x.2.2.2 = lg := by omega
        have hS : RGS G Z lg g x (x.1, x.2.1, x.1 - 1, 0) := Or.inr ⟨ha, hno, rfl⟩
        have hI2 : RGI G Z lg (x.1, x.2.1, x.1 - 1, 0) := hI.step hS
        refine dr_adv (d := d) (PV := fun H2 => um m H2 ∧ ur m C H1 H2 ∧ (ud m H2).2.1 158 14 = 5 ∧ ∃ Wd hh, (uq FLEG (upI (upI (ud m H1) 158 21 (nI (x.1 - 1))) 158 16 (0 : Int32)) Wd ∧ GKP 161 0 (upI (upI (ud m H1) 158 21 (nI (x.1 - 1))) 158 16 (0 : Int32)) Wd) ∧ (uq F314 Wd (ud m H2) ∧ NK Wd (ud m H2)) ∧ LPQ (ud m H2) G Z (RGG lg g Z (x.1, x.2.1, x.1 - 1, 0)) (x.2.1 (x.1 - 1)) ro (fun _ => x.2.1 (x.1 - 1)) (fun _ => 0) (fun _ => 0) (pd f 0 P) R wd 161 0 g0 1 hh) (PW := fun _ => False) u1 rfl (by omega) w1 ht1 hn3 ((pr_adv5N (d := d + 14) (C := C) (lg := lg) (a0 := x.2.2.2) (tc := x.1) (st := x.2.1 (x.1 - 1)) (PL := fun V H2 => ∃ Wd hh, (uq FLEG (upI (upI V 158 21 (nI (x.1 - 1))) 158 16 (0 : Int32)) Wd ∧ GKP 161 0 (upI (upI V 158 21 (nI (x.1 - 1))) 158 16 (0 : Int32)) Wd) ∧ (uq F314 Wd (ud m H2) ∧ NK Wd (ud m H2)) ∧ LPQ (ud m H2) G Z (RGG lg g Z (x.1, x.2.1, x.1 - 1, 0)) (x.2.1 (x.1 - 1)) ro (fun _ => x.2.1 (x.1 - 1)) (fun _ => 0) (fun _ => 0) (pd f 0 P) R wd 161 0 g0 1 hh) u1 rfl f1 (by omega) f3 (by omega) m3 (by omega) m1 i1' hx2 (m5 _ (by omega)) m4 (by omega) e19 (fun Q uQ eQ => ?_)).imp (fun x H2 y => Or.inl y)) (fun H2 y => ?_) (fun _ y => False.elim y)
        · have qx : uq FRLG (ud m H1) (ud m Q) := by rw [eQ]; exact ((uq.refl FRLG _).I rfl).I rfl
          have pk : PKS (ud m H1) (ud m Q) := by rw [eQ]; exact PKS.of_eq rfl rfl
          have hMQ : RGM (ud m Q) Z wd g0 g1 (x.1, x.2.1, x.1 - 1, 0) := by
            refine ⟨⟨by rw [eQ]; exact m1, by rw [eQ]; rfl, by rw [eQ]; rfl, by rw [eQ]; exact m4⟩, fun j hj => by rw [eQ]; exact m5 j hj, ⟨pk.lsn qx (fun _ => rfl) m6, pk.lsn qx (fun _ => rfl) m7⟩, ?_⟩
            rw [show lgf (ud m Q) 161 1 = lgf (ud m H1) 161 1 from lgf_pl (by decide) (by rw [eQ]; rfl)]
            exact m8
          have hnum := R1.nums
          refine (dr_leg (d := d + 14) (C := C) uQ hRN (hF1.eq (qx.r 99 0 rfl) (qx.t 16 rfl) (qx.a 113 3 rfl) pk.1) hlgb hMQ (G1.keep qx rfl (NK.of_eq (by rw [eQ]; rfl))) ((qx.i 113 2 rfl).trans hnum.1) ((qx.i 113 8 rfl).trans hnum.2.1) hnum.2.2 hZT hTw hI2 hx2).imp (fun H2 y => ?_)
          obtain ⟨u2, r2, Wd, hh2, y1, y2, y3⟩ := y
          refine ⟨u2, r2, ?_, Wd, hh2, by rw [eQ] at y1; exact y1, y2, y3⟩
          rw [y2.1.i 158 14 rfl, y1.1.i 158 14 rfl]
          exact hMQ.1.2.2.2
        · obtain ⟨u2, r2, t2, Wd, hh2, ⟨y1, y1k⟩, ⟨y2, y2k⟩, y3⟩ := y
          have qx : uq FRLG (ud m H1) (upI (upI (ud m H1) 158 21 (nI (x.1 - 1))) 158 16 (0 : Int32)) := ((uq.refl FRLG _).I rfl).I rfl
          have q2 : uq FRLG (ud m H1) (ud m H2) := (qx.trans (y1.mono rfl)).trans (y2.mono rfl)
          have pk : PKS (ud m H1) (ud m H2) := ((PKS.of_eq (V := upI (upI (ud m H1) 158 21 (nI (x.1 - 1))) 158 16 (0 : Int32)) rfl rfl).trans (PKS.gk y1k)).trans (PKS.of_eq (y2.2.2.2.2.2 rfl) (y2.l 148 rfl))
          have e1 : lgf (ud m H2) 161 1 = lgf (ud m H1) 161 1 := by
            rw [show lgf (ud m H2) 161 1 = lgf Wd 161 1 from lgf_pl (by decide) (congrFun (congrFun (y2.2.2.2.2.2 rfl) 161) 1), show lgf Wd 161 1 = _ from lgf_ne y1k.toQ ⟨by decide, fun z => absurd z.2 (by decide)⟩]
            rfl
          have nk : NK (ud m H1) (ud m H2) := ((NK.of_eq (V := Wd) (by rw [y1.a 147 10 rfl]; rfl))).trans y2k
          refine ih (i1 + 1) (x.1, x.2.1, x.1 - 1, 0) H2 (by have := hk2 ha; show 2 * (2001 - x.1) ≤ k; omega) (fun y => absurd y (by show ¬ 0 = lg; omega)) (by omega) u2 (h0.trans (r1.trans r2)) ⟨hq1.trans (q2.mono rfl), hK1.trans pk⟩ (R1.keep4 q2 rfl rfl rfl pk.1) (G1.keep q2 rfl nk) ⟨⟨?_, ?_, ?_, t2⟩, fun j hj => ?_, ⟨pk.lsn q2 (fun _ => rfl) m6, pk.lsn q2 (fun _ => rfl) m7⟩, by rw [e1]; exact m8⟩ (hF1.eq (q2.r 99 0 rfl) (q2.t 16 rfl) (q2.a 113 3 rfl) pk.1) (hRG.snoc hS hx2) hI2 hx2 ⟨hh2, y3⟩
          · rw [y2.i 158 10 rfl, y1.i 158 10 rfl]; exact m1
          · rw [y2.i 158 21 rfl, y1.i 158 21 rfl]; rfl
          · rw [y2.i 158 16 rfl, y1.i 158 16 rfl]; rfl
          · rw [y2.a 158 8 rfl, y1.a 158 8 rfl]; exact m5 j hj
end DriveRing
