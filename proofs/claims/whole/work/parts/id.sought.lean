/-! DRIVE: the graph works for an operator -/
/-- what stays while something is sought -/
def KEP (U V : Ud) : Prop := (∀ j, in1 FSK.t j = false → V.1 j = U.1 j) ∧ (∀ P j, in2 FSK.i P j = false → V.2.1 P j = U.2.1 P j) ∧ (∀ P J, in2 FSK.a P J = false → V.2.2.1 P J = U.2.2.1 P J) ∧ (∀ P J, ¬ P = 161 → in2 FSK.n P J = false → (V.2.2.1 P J).1 = (U.2.2.1 P J).1 ∧ V.2.2.2.1 P J = U.2.2.2.1 P J) ∧ (∀ p, in1 FSK.l p = false → V.2.2.2.2.1 p = U.2.2.2.2.1 p) ∧ V.2.2.2.2.2 114 = U.2.2.2.2.2 114 ∧ V.2.2.2.2.2 163 = U.2.2.2.2.2 163
def RXK (K0 : Ud) (lo : Nat) (m : Nat) (od : Nat → Nat) (Y : Ts) (es : Nat → Int32) (P : Nat) (f : Nat → Nat) (fb : Nat) (Gr : Nat → Nat → Prop) (NN us : Nat) (S : Nat → Nat → Bool) (z : Nat → Nat) (p : Nat → Bool) (nf : Nat) (nm tm : Nat → Int32) (bs lv lc : Nat → Nat) (oid : Nat → Nat → Nat) (nw : Nat) (wa wn wi : Nat → Nat) (wk : Nat → Bool) (nb : Nat) (bo : Nat → Nat → Nat) (cl : Nat → Nat) (al : Nat → Prop) (ro : Nat → Nat) (V : Ud) : Prop := RDX V m od Y es P f fb (pd f 0 P) Gr NN us S z p nf nm tm bs lv lc oid nw wa wn wi wk nb bo cl al ro ∧ KEP K0 V ∧ ∀ c, c < lo → V.2.2.2.2.2 161 c = K0.2.2.2.2.2 161 c
section Works
variable {H H0 : mu_H} {U U0 V V' V0 V3 X K0 : Ud} {m d P R wd nk N a i0 into n sc jl jr sj qs i N0 fb NN us nf nw nb : Nat} {C : Nat → Nat} {Y : Ts} {f od bs lv lc wa wn wi cl ro z mb me : Nat → Nat} {es rs nm tm : Nat → Int32} {wk p : Nat → Bool} {S FS : Nat → Nat → Bool} {bo oid : Nat → Nat → Nat} {Gr G : Nat → Nat → Prop} {al E Fr : Nat → Prop} {js : Nat → Option Nat} {F : Uf} {L4 L8 : Nat → Int64} {Q : Nat → Nat → Nat → Prop} {Φ : mu_R → Prop}
theorem KEP.refl (U : Ud) : KEP U U := ⟨fun _ _ => rfl, fun _ _ _ => rfl, fun _ _ _ => rfl, fun _ _ _ _ => ⟨rfl, rfl⟩, fun _ _ => rfl, rfl, rfl⟩
theorem in2_sub1 {l r : List (Nat × Nat)} {A j : Nat} (h : l.all (fun x => Nat.beq x.1 161 || in2 r x.1 x.2) = true) (hA : ¬ A = 161) (hj : in2 r A j = false) : in2 l A j = false := by
  by_cases e : in2 l A j = true
  · obtain ⟨t, ht, hx⟩ := List.any_eq_true.mp e
    have := List.all_eq_true.mp h t ht
    rw [Bool.and_eq_true] at hx
    rw [Nat.eq_of_beq_eq_true hx.1, Nat.eq_of_beq_eq_true hx.2, hj, Bool.or_false] at this
    exact absurd (Nat.eq_of_beq_eq_true this) hA
  · exact Bool.eq_false_iff.mpr e
theorem KEP.step (h : KEP U V) (hq : uq F V V') (hk : kpf F = true) (e1 : V'.2.2.2.2.2 114 = V.2.2.2.2.2 114) (e2 : V'.2.2.2.2.2 163 = V.2.2.2.2.2 163) : KEP U V' := by
  unfold kpf at hk
  rw [Bool.and_eq_true, Bool.and_eq_true, Bool.and_eq_true, Bool.and_eq_true] at hk
  obtain ⟨s1, s2, s3, s4, s5⟩ := hk
  obtain ⟨k1, k2, k3, k4, k5, k6, k7⟩ := h
  exact ⟨fun j hj => (hq.1 j (in1_sub s1 hj)).trans (k1 j hj), fun A j hj => (hq.2.1 A j (in2_sub s2 hj)).trans (k2 A j hj), fun A j hj => (hq.2.2.1 A j (in2_sub s3 hj)).trans (k3 A j hj), fun A j hA hj => ⟨((hq.2.2.2.1 A j (in2_sub1 s4 hA hj)).1).trans (k4 A j hA hj).1, ((hq.2.2.2.1 A j (in2_sub1 s4 hA hj)).2).trans (k4 A j hA hj).2⟩, fun q hj => (hq.2.2.2.2.1 q (in1_sub s5 hj)).trans (k5 q hj), e1.trans k6, e2.trans k7⟩
theorem wrl_rxk : WRL (RXK K0 into m od Y es P f fb Gr NN us S z p nf nm tm bs lv lc oid nw wa wn wi wk nb bo cl al ro) m od Y es P f into := ⟨fun V h => h.1.rsk, fun F V V' h hq h1 h2 h3 h4 e1 e2 e3 => ⟨h.1.keep4 hq h2 h3 h4 e1, h.2.1.step hq h1 e1 e2, fun c hc => (e3 c hc).trans (h.2.2 c hc)⟩, fun F V V' h hq h1 h4 h5 h6 h7 e1 e2 e3 => ⟨h.1.keepL hq h4 h5 h6 h7 e1, h.2.1.step hq h1 e1 e2, fun c hc => (e3 c hc).trans (h.2.2 c hc)⟩⟩
theorem GKQ.p114 {b c : Nat} (h : GKQ b c U V) (hb : ¬ b = 114) : V.2.2.2.2.2 114 = U.2.2.2.2.2 114 := funext fun x => h.1 114 x (fun z => hb z.1)
theorem GKQ.p163 {b c : Nat} (h : GKQ b c U V) (hb : ¬ b = 163) : V.2.2.2.2.2 163 = U.2.2.2.2.2 163 := funext fun x => h.1 163 x (fun z => hb z.1)
theorem plo_10 {o : Nat} (h : plo o = 10) : o = 10 ∨ o = 13 := by
  unfold plo at h
  by_cases y : o = 10 ∨ o = 13
  · exact y
  · rw [if_neg y] at h
    by_cases w : o = 12 ∨ o = 14
    · rw [if_pos w] at h; omega
    · rw [if_neg w] at h; omega
theorem plo_n10 {o : Nat} (h : ¬ plo o = 10) : ¬ (o = 10 ∨ o = 13) := fun y => h (by unfold plo; rw [if_pos y])
/-- the first work of an operator -/
theorem dr_wait1 (hRN : R = NN - fb) (hmem : ∀ r, ¬ r = 0 → r < R → ∃ s, s < pd f 0 P ∧ ro s = r) (hST : ∀ r x, S (fb + r) x = true → x < pd f 0 P) (hG : ∀ s t, s < pd f 0 P → (G s t ↔ S (fb + ro s) t = true)) (hGE : ∀ s t, G s t → E t) (hC : SKC Y es rs a N i0 into) (hTw : pd f 0 P ≤ 64 * wd) (hE : ∀ s, s < 64 * wd → (bts L4 s = true ↔ E s)) (hET : ∀ s, E s → s < pd f 0 P) (hF : ∀ s, s < pd f 0 P → (bts L8 s = true ↔ Fr s)) (hC21 : 2 * (((Y 13).1 + 2) * 4) + 4 ≤ C 21) (hC21b : C 21 ≤ 8388608) (hN0 : i + 8 * R + 1 ≤ 1073741824) (h : um m H) (hT : WTG X U0 m (RXK K0 into m od Y es P f fb Gr NN us S z p nf nm tm bs lv lc oid nw wa wn wi wk nb bo cl al ro) (pd f 0 P) R wd ro mb me nk FS L4 L8 Y a N i0 into E Q n js sc jl jr sj qs) (hK : RCK X (ud m H) (pd f 0 P) R wd ro mb me (fun r x => S (fb + r) x = true) nk FS 161 sj qs (plo (oc Y (a + n)))) (hback : ∀ i' H3, um m H3 → i' ≤ i + 8 * R → ur m C H H3 → RSA (ud m H3) U0 m (RXK K0 into m od Y es P f fb Gr NN us S z p nf nm tm bs lv lc oid nw wa wn wi wk nb bo cl al ro) (pd f 0 P) R wd ro mb me nk FS L4 L8 Y a N i0 into E Q n js sc jl jr sj 1 → (∀ s, s < pd f 0 P → E s → (bts (lgf (ud m H3) 161 sj) s = true ↔ rk1 G E Fr nk (fun f t => FS f t = true) (oc Y (a + n)) (Q n (bse Y a n)) (Q n (tpz Y a n - 1)) s)) → (ud m H3).2.2.2.2.1 162 = X.2.2.2.2.1 162 → mu_W (mu_D (d + 20)) mu_m376 (2, [(1, .inl (nI i')), (0, .inr (.inr (some 0)))], [], H3) Φ) : mu_W (mu_D (d + 20)) mu_m376 (2, [(1, .inl (nI i)), (0, .inr (.inr (some 0)))], [], H) Φ := by
  obtain ⟨⟨hS, hw, hl, ht⟩, ⟨p1, p2, p3, p4, l0⟩, ⟨q0, k0, x48, x4, x20⟩, hPRW⟩ := id hT
  obtain ⟨q1, k1, hK⟩ := hK
  obtain ⟨w1, w2, w3, w4, ⟨w5, w6⟩, ⟨w7, w8⟩, w9, w10⟩ := id hw
  have htw := hC.two hS.1 (Or.inr ⟨hl, Or.inl ht⟩)
  rw [bsn_lt hl] at htw
  obtain ⟨ql, -, hA⟩ := hS.2.2.2.2.2 _ jl (show bse Y a n < tpz Y a n by omega) p1
  obtain ⟨qr, -, hB⟩ := hS.2.2.2.2.2 _ jr (show tpz Y a n - 1 < tpz Y a n by omega) p2
  have hA := fun s (hs : E s) => hA s (hET s hs) hs
  have hB := fun s (hs : E s) => hB s (hET s hs) hs
  have hF' : ∀ s, s < pd f 0 P → (bts (X.2.2.2.2.1 148) s = true ↔ Fr s) := fun s hs => by rw [x48, w8]; exact hF s hs
  have hRX : RDX X m od Y es P f fb (pd f 0 P) Gr NN us S z p nf nm tm bs lv lc oid nw wa wn wi wk nb bo cl al ro ∧ KEP K0 X ∧ ∀ c, c < into → X.2.2.2.2.2 161 c = K0.2.2.2.2.2 161 c := wrl_rxk.2.1 F350j U0 X w1 q0 rfl rfl rfl rfl (k0.p114 (by decide)) (k0.p163 (by decide)) (fun c hc => k0.1 161 c (fun z => by have := z.2; omega))
  have hR1 : RDX (ud m H) m od Y es P f fb (pd f 0 P) Gr NN us S z p nf nm tm bs lv lc oid nw wa wn wi wk nb bo cl al ro ∧ KEP K0 (ud m H) ∧ ∀ c, c < into → (ud m H).2.2.2.2.2 161 c = K0.2.2.2.2.2 161 c := wrl_rxk.2.1 F322 X (ud m H) hRX q1 rfl rfl rfl rfl (k1.toQ.p114 (by decide)) (k1.toQ.p163 (by decide)) (fun c hc => k1.2.1 161 c (fun z => by have := z.2; omega))
  have hG1 : GRB (ud m H) (pd f 0 P) R wd ro mb me := (w2.keep q0 rfl (NK.of_eq (q0.a 147 10 rfl))).keep q1 rfl (NK.of_eq (q1.a 147 10 rfl))
  have hRb : R ≤ 20000 := by have := hG1.2.2.1.1; have := hG1.1.2.2; omega
  have hR0 : 0 < R := by rw [hRN]; exact Nat.sub_pos_of_lt hR1.1.2.1.2.1
  have h162 : (ud m H).2.2.2.2.1 162 = X.2.2.2.2.1 162 := k1.1 162 (Or.inr rfl) (fun z => absurd z.1 (by decide))
  rcases hK with ⟨o1, o2, o3, o4, o5, o6⟩ | ⟨o1, ev, o2, o3⟩
  · have ho := plo_10 o1
    refine dr_nearK (d := d) (C := C) (H0 := H) (V0 := ud m H) (N0 := i + 8 * R + 1) (ga := 161) (gi := sj) (gq := qs) (wd := wd) (mb := mb) (me := me) (B := fun u => (E u ∧ sgz (oc Y (a + n)) (Q n (bse Y a n)) u) ∧ Fr u) hRN hmem hC21 hC21b hST (fun i' H3 ph u3 g1 g2 g3 g4 g5 g6 g7 g8 => ?_) hN0 R i H (by omega) h (ur.refl m C H) hR1.1 hG1 (Or.inl ⟨0, hR0, by omega, o3, o2, o4, o5, fun t ht => ?_, fun x hx => absurd hx (Nat.not_lt_zero _)⟩) (uq.refl _ _) (GKP.refl _ _ _)
    · have hK3 : KEP K0 (ud m H3) ∧ ∀ c, c < into → (ud m H3).2.2.2.2.2 161 c = K0.2.2.2.2.2 161 c := ⟨hR1.2.1.step g6 rfl (g7.toQ.p114 (by decide)) (g7.toQ.p163 (by decide)), fun c hc => (g7.2.1 161 c (fun z => by have := z.2; omega)).trans (hR1.2.2 c hc)⟩
      refine hback i' H3 u3 (by omega) g2 (rsa_of hC hT q1 k1 g6 g7 ⟨g3, hK3⟩ g4 g8) (fun s s1 s2 => ?_) ((g7.1 162 (Or.inr rfl) (fun z => absurd z.1 (by decide))).trans h162)
      rcases g5 with ⟨r, r1, -, r3, -⟩ | ⟨-, -, r3⟩
      · rw [g8] at r3
        exact absurd r3.symm (nI_neg1 (by omega))
      · rw [r3 s (by omega)]
        exact rk1_near (RB := fun r x => S (fb + r) x = true) (rx := ro) ho hG hGE s1
    · have z := hPRW.to (op := 10) hTw hE hA hB hF' (by decide) ht
      rw [if_neg (by omega), if_neg (by omega)] at z
      refine Iff.trans ?_ z
      unfold bts
      rw [o6 (t / 64) (by omega), o1]
      exact Iff.rfl
  · have ho := plo_n10 o1
    refine dr_sweepK (d := d) (C := C) (H0 := H) (V0 := ud m H) (N0 := i + 8 * R + 1) (ga := 161) (gi := sj) (gq := qs) (wd := wd) (mb := mb) (me := me) (nk := nk) (FS := FS) (ev := ev) (A := fun t => t < pd f 0 P ∧ bts (rka X 161 sj (plo (oc Y (a + n)))) t = true) (g0 := fun t => t < pd f 0 P ∧ bts (rkt X 161 sj (plo (oc Y (a + n)))) t = true) hRN hmem hC21 hC21b (fun i' H3 ph u3 g1 g2 g3 g4 g5 g6 g7 g8 => ?_) hN0 (8 * R) i H (by omega) h (ur.refl m C H) hR1.1 hG1 o3 (uq.refl _ _) (GKP.refl _ _ _)
    have hK3 : KEP K0 (ud m H3) ∧ ∀ c, c < into → (ud m H3).2.2.2.2.2 161 c = K0.2.2.2.2.2 161 c := ⟨hR1.2.1.step g6 rfl (g7.toQ.p114 (by decide)) (g7.toQ.p163 (by decide)), fun c hc => (g7.2.1 161 c (fun z => by have := z.2; omega)).trans (hR1.2.2 c hc)⟩
    refine hback i' H3 u3 (by omega) g2 (rsa_of hC hT q1 k1 g6 g7 ⟨g3, hK3⟩ g4 g8) (fun s s1 s2 => ?_) ((g7.1 162 (Or.inr rfl) (fun z => absurd z.1 (by decide))).trans h162)
    rw [(g5.fin g8 hRb).2 s s1]
    exact rk1_sweep hPRW ht ho hTw hE hET hA hB hF' hG o2
end Works
