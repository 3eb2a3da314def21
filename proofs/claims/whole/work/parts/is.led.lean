/-! DRIVE: a path is led -/
section Led
variable {H H0 : mu_H} {U U0 V V' V0 V3 X K0 : Ud} {m d P R wd nk N a i0 into n sc jl jr sj qs i N0 fb NN us nf nw nb : Nat} {C : Nat → Nat} {Y : Ts} {f od bs lv lc wa wn wi cl ro z mb me : Nat → Nat} {es rs nm tm : Nat → Int32} {wk p : Nat → Bool} {S FS : Nat → Nat → Bool} {bo oid : Nat → Nat → Nat} {Gr G : Nat → Nat → Prop} {al E Fr : Nat → Prop} {js : Nat → Option Nat} {F : Uf} {L4 L8 : Nat → Int64} {Q : Nat → Nat → Nat → Prop} {Φ : mu_R → Prop}
variable {st T ga gi gq tl hh ph q r : Nat} {Th To : Nat → Prop} {rx qu pp dp W : Nat → Nat}
theorem LPQ.nopath (h : LPQ U G Th To st rx qu pp dp T R wd ga gi gq tl hh) (hw : U.2.1 147 15 = -1) (hTw : T ≤ 64 * wd) (hrx : ∀ s, s < T → rx s < R) (hRb : R < 2147483648) : ¬ PTH G Th To st n W := by
  obtain ⟨⟨⟨-, -, hht⟩, -⟩, hq, -, hb, -, -, ⟨-, -, -, hTT⟩, ⟨-, hD, he⟩ | ⟨k, hk, hwk, -⟩⟩ := h
  · rcases he with e | e
    · rw [e] at hD
      exact hD.none
    · intro hp
      obtain ⟨p0, p1, p2, p3, p4⟩ := hp
      have ht := hTT _ (Or.inr p4)
      have hz : ¬ bts (U.2.2.2.2.1 150) (W n) = true := by
        unfold bts
        rw [e (W n / 64) (by omega), btz_0]
        decide
      apply hz
      refine (hb (W n) (by omega)).mpr ⟨Or.inr p4, fun y => y.2 (by rw [← y.1]; exact p4), fun i i0 hi y => ?_⟩
      have := (hD.2.2.1 i i0 hi).2.1
      rw [y] at this
      exact this p4
  · rw [hw] at hwk
    exact absurd hwk.symm (nI_neg1 (by have := hrx _ (hq k (by omega)).2; omega))
theorem LPJ.end (h : LPJ U G Th To st rx T R wd ga gi gq ph) (hw : U.2.1 147 15 = -1) (hTw : T ≤ 64 * wd) (hrx : ∀ s, s < T → rx s < R) (hRb : R < 2147483648) : (∃ n W, LEA G Th To st n W ∧ TLD U T st n W) ∨ (U.2.1 147 19 = -1 ∧ ∀ n W, ¬ PTH G Th To st n W) := by
  rcases h with ⟨-, n, W, h1, h2⟩ | ⟨qu, pp, dp, tl, hh, h1, -⟩
  · exact Or.inl ⟨n, W, h1, h2⟩
  · exact Or.inr ⟨h1.1.2.2, fun n W => h1.nopath hw hTw hrx hRb⟩
/-- drive, until the path is written -/
theorem pv_driveL (hRN : R = NN - fb) (hmem : ∀ r, ¬ r = 0 → r < R → ∃ s, s < pd f 0 P ∧ ro s = r) (hC21 : 2 * (((Y 13).1 + 2) * 4) + 4 ≤ C 21) (hC21b : C 21 ≤ 8388608) (hrx : ∀ s, s < pd f 0 P → ro s < R) (hG : ∀ s t, s < pd f 0 P → (G s t ↔ S (fb + ro s) t = true)) (hGT : ∀ s t, G s t → t < pd f 0 P) (hST : ∀ r x, S (fb + r) x = true → x < pd f 0 P) (hTw : pd f 0 P ≤ 64 * wd) (h : um m H) (hR : RDX (ud m H) m od Y es P f fb (pd f 0 P) Gr NN us S z p nf nm tm bs lv lc oid nw wa wn wi wk nb bo cl al ro) (hGb : GRB (ud m H) (pd f 0 P) R wd ro mb me) (hL : LPQ (ud m H) G Th To st ro qu pp dp (pd f 0 P) R wd ga gi gq tl hh) (h14 : (ud m H).2.1 158 14 = 4) (htr : (ud m H).2.2.2.1 158 22 = none) (htc : (ud m H).2.1 158 10 = nI 1) (hs0 : ((ud m H).2.2.1 158 8).2 0 = nI st) (hex : ∃ n W, PTH G Th To st n W) : mu_TV (mu_D (d + 21)) 376 [.inr (.inr (some 0))] H (fun H1 => um m H1 ∧ ur m C H H1 ∧ ∃ (n : Nat) (W : Nat → Nat) (V : Ud), (LEA G Th To st n W ∧ n ≤ pd f 0 P) ∧ (uq FDK (ud m H) V ∧ V.2.2.2.2.2 = (ud m H).2.2.2.2.2 ∧ V.2.2.2.2.1 148 = (ud m H).2.2.2.2.1 148 ∧ V.2.2.2.2.1 162 = (ud m H).2.2.2.2.1 162) ∧ (RDX V m od Y es P f fb (pd f 0 P) Gr NN us S z p nf nm tm bs lv lc oid nw wa wn wi wk nb bo cl al ro ∧ GRB V (pd f 0 P) R wd ro mb me ∧ V.2.1 147 15 = -1) ∧ ∃ V2, uq F312 V V2 ∧ (∀ j, (V2.2.2.1 158 8).2 j = if 1 ≤ j ∧ j < 1 + n ∧ j < 2001 then nI (W (j - 1 + 1)) else (V.2.2.1 158 8).2 j) ∧ ud m H1 = upI (upI V2 158 10 (nI (1 + n))) 158 14 0) := by
  have hTb : pd f 0 P ≤ 16384 := hGb.1.2.2
  have hRb : R ≤ 20000 := by have := hGb.2.2.1.1; omega
  refine pv_driveW (fun Φ hΦ => ?_)
  refine dr_leadK (d := d) (C := C) (H0 := H) (V0 := ud m H) (N0 := pd f 0 P + 3) (G := G) (Th := Th) (To := To) (st := st) (ga := ga) (gi := gi) (gq := gq) (wd := wd) (mb := mb) (me := me) hRN hmem hC21 hC21b hrx hG hGT hST (fun i1 H1 ph u1 b1 r1 R1 G1 J1 q1 p1 e148 e162 w1 => ?_) (by omega) (pd f 0 P + 1) 0 H (by omega) h (ur.refl m C H) hR hGb (Or.inr ⟨qu, pp, dp, tl, hh, hL, Or.inr (by omega)⟩) (uq.refl _ _) rfl rfl rfl
  rcases J1.end w1 hTw hrx (by omega) with ⟨n, W, hLE, hTL⟩ | ⟨-, hno⟩
  · refine dr_adv (d := d) (PV := fun _ => False) (PW := fun H2 => um m H2 ∧ ur m C H1 H2 ∧ ∃ V, uq F312 (ud m H1) V ∧ (∀ j, (V.2.2.1 158 8).2 j = if 1 ≤ j ∧ j < 1 + n ∧ j < 2001 then nI (W (j - 1 + 1)) else ((ud m H1).2.2.1 158 8).2 j) ∧ ud m H2 = upI (upI V 158 10 (nI (1 + n))) 158 14 0) u1 rfl (by omega) w1 ((q1.r 158 22 rfl).trans htr) (by rw [q1.i 158 14 rfl, h14]; decide) ((pr_adv4 (d := d + 14) (C := C) (tc := 1) (st := st) (n := n) (W := W) u1 rfl ((q1.i 158 14 rfl).trans h14) ((q1.i 158 10 rfl).trans htc) (by decide) (by decide) (by rw [q1.a 158 8 rfl]; exact hs0) G1 hTL hLE.1.2.1).imp (fun x H2 y => Or.inr ⟨y.1, y.2⟩)) (fun _ y => False.elim y) (fun H2 y => ?_)
    obtain ⟨u2, r2, V2, y1, y2, y3⟩ := y
    exact hΦ H2 ⟨u2, r1.trans r2, n, W, ud m H1, ⟨hLE, hTL.2.2.2.2.2⟩, ⟨q1, p1, e148, e162⟩, ⟨R1, G1, w1⟩, V2, y1, y2, y3⟩
  · obtain ⟨n, W, y⟩ := hex
    exact absurd y (hno n W)
end Led
