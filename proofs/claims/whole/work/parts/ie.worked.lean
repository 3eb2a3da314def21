/-! DRIVE: the second work of A [ ] -/
section Works2
variable {H H0 : mu_H} {U U0 V V' V0 V3 X K0 : Ud} {m d P R wd nk N a i0 into n sc jl jr sj qs i N0 fb NN us nf nw nb : Nat} {C : Nat → Nat} {Y : Ts} {f od bs lv lc wa wn wi cl ro z mb me : Nat → Nat} {es rs nm tm : Nat → Int32} {wk p : Nat → Bool} {S FS : Nat → Nat → Bool} {bo oid : Nat → Nat → Nat} {Gr G : Nat → Nat → Prop} {al E Fr : Nat → Prop} {js : Nat → Option Nat} {F : Uf} {L4 L8 : Nat → Int64} {Q : Nat → Nat → Nat → Prop} {Φ : mu_R → Prop}
theorem dr_wait2 (hRN : R = NN - fb) (hmem : ∀ r, ¬ r = 0 → r < R → ∃ s, s < pd f 0 P ∧ ro s = r) (hST : ∀ r x, S (fb + r) x = true → x < pd f 0 P) (hG : ∀ s t, s < pd f 0 P → (G s t ↔ S (fb + ro s) t = true)) (hGE : ∀ s t, G s t → E t) (hC : SKC Y es rs a N i0 into) (hTw : pd f 0 P ≤ 64 * wd) (hE : ∀ s, s < 64 * wd → (bts L4 s = true ↔ E s)) (hET : ∀ s, E s → s < pd f 0 P) (hF : ∀ s, s < pd f 0 P → (bts L8 s = true ↔ Fr s)) (hC21 : 2 * (((Y 13).1 + 2) * 4) + 4 ≤ C 21) (hC21b : C 21 ≤ 8388608) (hC26 : 4 * (N + 2) + 2 ≤ C 26) (hC26b : C 26 ≤ 8388608) (hN0 : i + 8 * R + 2 ≤ 1073741824) (h : um m H) (ho : oc Y (a + n) = 29) (hR : RSA (ud m H) U0 m (RXK K0 into m od Y es P f fb Gr NN us S z p nf nm tm bs lv lc oid nw wa wn wi wk nb bo cl al ro) (pd f 0 P) R wd ro mb me nk FS L4 L8 Y a N i0 into E Q n js sc jl jr sj 1) (h162 : ∀ i, i < wd → (ud m H).2.2.2.2.1 162 i = prs (oc Y (a + n)) (lgf U0 161 jl i) (lgf U0 161 jr i) (L4 i)) (hback : ∀ i' H3, um m H3 → i' ≤ i + 1 + 8 * R → ur m C H H3 → RSA (ud m H3) U0 m (RXK K0 into m od Y es P f fb Gr NN us S z p nf nm tm bs lv lc oid nw wa wn wi wk nb bo cl al ro) (pd f 0 P) R wd ro mb me nk FS L4 L8 Y a N i0 into E Q n js sc jl jr sj 2 → lgf (ud m H3) 161 sj = lgf (ud m H) 161 sj → (∀ s, s < pd f 0 P → E s → (bts ((ud m H3).2.2.2.2.1 162) s = true ↔ EGS G nk (fun f t => FS f t = true) (fun t => E t ∧ ¬ Q n (tpz Y a n - 1) t) s)) → mu_W (mu_D (d + 20)) mu_m376 (2, [(1, .inl (nI i')), (0, .inr (.inr (some 0)))], [], H3) Φ) : mu_W (mu_D (d + 20)) mu_m376 (2, [(1, .inl (nI i)), (0, .inr (.inr (some 0)))], [], H) Φ := by
  obtain ⟨⟨hS, hl, ht⟩, ⟨p1, p2, p3, p4, hall, h26⟩, ⟨⟨f1, f2, f3, f4, f5, f6, f7⟩, g1, g2⟩, ⟨w1, w2, w3, w4, ⟨w5, w6⟩, ⟨w7, w8⟩, w9, w10⟩, -⟩ := id hR
  have htw := hC.two hS.1 (Or.inr ⟨hl, Or.inl ht⟩)
  rw [bsn_lt hl] at htw
  obtain ⟨ql, -, hA⟩ := hS.2.2.2.2.2 _ jl (show bse Y a n < tpz Y a n by omega) p1
  obtain ⟨qr, -, hB⟩ := hS.2.2.2.2.2 _ jr (show tpz Y a n - 1 < tpz Y a n by omega) p2
  have hA := fun s (hs : E s) => hA s (hET s hs) hs
  have hB := fun s (hs : E s) => hB s (hET s hs) hs
  have hbit : ∀ s, s < 64 * wd → (bts ((ud m H).2.2.2.2.1 162) s = true ↔ E s ∧ ¬ Q n (tpz Y a n - 1) s) := fun s hs => by
    have z := prs_bit (o := oc Y (a + n)) (s := s) (Nat.mod_lt s (by decide)) (hE s hs) (hA s) (hB s)
    rw [if_neg (by omega), if_pos ho, ← h162 (s / 64) (by omega)] at z
    exact z
  refine dr_seek (d := d) (PV := fun H1 => um m H1 ∧ ur m C H H1 ∧ RCK (upI (upI (ud m H) 158 4 (nI (sj + 1))) 158 20 (nI 2)) (ud m H1) (pd f 0 P) R wd ro mb me (fun r x => S (fb + r) x = true) nk FS 0 162 162 12) h rfl (by omega) w6 w5 f7 (pr_seekW (d := d + 11) h rfl w10 (fun Ψ hΨ => sk_t6 (d := d + 11) (C := C) (RB := fun r x => S (fb + r) x = true) h rfl hC hR wrl_rxk ho hST (fun s hs y => hET s ((hbit s hs).mp y).1) hC21 hC21b hC26 hC26b (fun H1 u1 r1 y => hΨ H1 ⟨u1, r1, y⟩))) (fun H1 y => ?_)
  obtain ⟨u1, r1, q1, k1, hK⟩ := y
  have hX : RDX (upI (upI (ud m H) 158 4 (nI (sj + 1))) 158 20 (nI 2)) m od Y es P f fb (pd f 0 P) Gr NN us S z p nf nm tm bs lv lc oid nw wa wn wi wk nb bo cl al ro ∧ KEP K0 (upI (upI (ud m H) 158 4 (nI (sj + 1))) 158 20 (nI 2)) ∧ ∀ c, c < into → (upI (upI (ud m H) 158 4 (nI (sj + 1))) 158 20 (nI 2)).2.2.2.2.2 161 c = K0.2.2.2.2.2 161 c := wrl_rxk.2.1 F350j _ _ w1 (((uq.refl F350j _).I rfl).I rfl) rfl rfl rfl rfl rfl rfl (fun _ _ => rfl)
  have hR1 : RDX (ud m H1) m od Y es P f fb (pd f 0 P) Gr NN us S z p nf nm tm bs lv lc oid nw wa wn wi wk nb bo cl al ro ∧ KEP K0 (ud m H1) ∧ ∀ c, c < into → (ud m H1).2.2.2.2.2 161 c = K0.2.2.2.2.2 161 c := wrl_rxk.2.1 F322 _ (ud m H1) hX q1 rfl rfl rfl rfl (k1.toQ.p114 (by decide)) (k1.toQ.p163 (by decide)) (fun c hc => k1.2.1 161 c (fun z => absurd z.1 (by decide)))
  have hG1 : GRB (ud m H1) (pd f 0 P) R wd ro mb me := (w2.keep (((uq.refl F350j _).I rfl).I rfl) rfl (NK.of_eq rfl)).keep q1 rfl (NK.of_eq (q1.a 147 10 rfl))
  have hRb : R ≤ 20000 := by have := hG1.2.2.1.1; have := hG1.1.2.2; omega
  rcases hK with ⟨o1, -⟩ | ⟨o1, ev, o2, o3⟩
  · exact absurd o1 (by decide)
  rw [if_pos rfl] at o2
  subst o2
  refine dr_sweepK (d := d) (C := C) (H0 := H1) (V0 := ud m H1) (N0 := i + 1 + 8 * R + 1) (ga := 0) (gi := 162) (gq := 162) (wd := wd) (mb := mb) (me := me) (nk := nk) (FS := FS) (ev := 1) (A := fun t => t < pd f 0 P ∧ bts (rka (upI (upI (ud m H) 158 4 (nI (sj + 1))) 158 20 (nI 2)) 0 162 12) t = true) (g0 := fun t => t < pd f 0 P ∧ bts (rkt (upI (upI (ud m H) 158 4 (nI (sj + 1))) 158 20 (nI 2)) 0 162 12) t = true) hRN hmem hC21 hC21b (fun i' H3 ph u3 g1 g2 g3 g4 g5 g6 g7 g8 => ?_) (by omega) (8 * R) (i + 1) H1 (by omega) u1 (ur.refl m C H1) hR1.1 hG1 o3 (uq.refl _ _) (GKP.refl _ _ _)
  have hK3 : KEP K0 (ud m H3) ∧ ∀ c, c < into → (ud m H3).2.2.2.2.2 161 c = K0.2.2.2.2.2 161 c := ⟨hR1.2.1.step g6 rfl (g7.toQ.p114 (by decide)) (g7.toQ.p163 (by decide)), fun c hc => (g7.2.1 161 c (fun z => absurd z.1 (by decide))).trans (hR1.2.2 c hc)⟩
  obtain ⟨z1, z2⟩ := rsa_two hR q1 k1 g6 g7 ⟨g3, hK3⟩ g4 g8
  refine hback i' H3 u3 (by omega) (r1.trans g2) z1 z2 (fun s s1 s2 => ?_)
  have e : lgf (ud m H3) 0 162 = (ud m H3).2.2.2.2.1 162 := funext fun k => if_pos rfl
  rw [← e, (g5.fin g8 hRb).2 s s1]
  have k1 : ∀ s, s < pd f 0 P → ¬ bts (rkt (upI (upI (ud m H) 158 4 (nI (sj + 1))) 158 20 (nI 2)) 0 162 12) s = true := fun s hs y => by
    unfold bts rkt at y
    rw [if_pos rfl, btz_0] at y
    cases y
  refine sweep_egs (RB := fun r x => S (fb + r) x = true) (rx := ro) (p := fun t => E t ∧ ¬ Q n (tpz Y a n - 1) t) (fun s y => hET s y.1) k1 (fun s hs => ?_) hG
  refine Iff.trans ?_ (hbit s (by omega))
  have k2 := k1 s hs
  unfold bts at k2
  unfold bts rka
  rw [if_neg (by decide), btz_and, btz_xm1 (Nat.mod_lt s (by decide)), Bool.and_eq_true, Bool.eq_false_iff.mpr k2]
  exact ⟨fun y => y.1, fun y => ⟨y, rfl⟩⟩
end Works2
