/-! DRIVE: the graph has worked for an operator -/
section Waited
variable {H : mu_H} {U U0 V V0 V3 X : Ud} {m d P T R wn nf N a i0 into n sc jl jr sj qs : Nat} {C : Nat → Nat} {Y : Ts} {f od rx mb me : Nat → Nat} {es rs : Nat → Int32} {E Fr : Nat → Prop} {G Fs RB : Nat → Nat → Prop} {js : Nat → Option Nat} {RX : Ud → Prop} {F : Uf} {FS : Nat → Nat → Bool} {L4 L8 : Nat → Int64} {Q : Nat → Nat → Nat → Prop}
/-- both parts have sets -/
theorem two_all (hC : SKC Y es rs a N i0 into) (hn : n < N) (ht : tmd (oc Y (a + n))) (p1 : js (bse Y a n) = some jl) (p2 : js (tpz Y a n - 1) = some jr) (k : Nat) (k1 : bse Y a n ≤ k) (k2 : k < tpz Y a n) : ¬ js k = none := by
  have htw := hC.two (n := n) (by omega) (Or.inr ⟨hn, Or.inl ht⟩)
  rw [bsn_lt hn] at htw
  by_cases e : k = bse Y a n
  · rw [e, p1]; exact fun y => by cases y
  · rw [show k = tpz Y a n - 1 by omega, p2]; exact fun y => by cases y
/-- the first work is done -/
theorem rsa_of (hC : SKC Y es rs a N i0 into) (hT : WTG X U0 m RX T R wn rx mb me nf FS L4 L8 Y a N i0 into E Q n js sc jl jr sj qs) (q1 : uq F322 X V0) (k1 : GKP 161 sj X V0) (q2 : uq FDK V0 V3) (k2 : GKP 161 sj V0 V3) (hR : RX V3) (hG : GRB V3 T R wn rx mb me) (hwa : V3.2.1 147 15 = -1) : RSA V3 U0 m RX T R wn rx mb me nf FS L4 L8 Y a N i0 into E Q n js sc jl jr sj 1 := by
  obtain ⟨⟨hS, hw, hl, ht⟩, ⟨p1, p2, p3, p4, l0⟩, ⟨q0, k0, x48, x4, x20⟩, -⟩ := hT
  obtain ⟨w1, w2, w3, w4, ⟨w5, w6⟩, ⟨w7, w8⟩, w9, w10⟩ := hw
  have hb := bse_le hC.pln hl
  have htw := hC.two hS.1 (Or.inr ⟨hl, Or.inl ht⟩)
  rw [bsn_lt hl] at htw
  have h26 : V3.1 26 = U0.1 26 := (q2.t 26 rfl).trans ((q1.t 26 rfl).trans (q0.t 26 rfl))
  obtain ⟨⟨f1, f2, f3, f4, f5, f6, f7⟩, g1, g2⟩ := hS.2.1
  have hi : ∀ j, in2 F350j.i 158 j = false → V3.2.1 158 j = U0.2.1 158 j := fun j hj => (q2.i 158 j rfl).trans ((q1.i 158 j rfl).trans (q0.i 158 j hj))
  have kq : GKQ 161 sj U0 V3 := k0.trans (k1.toQ.trans k2.toQ)
  have hls : ∀ j q, LSN U0 161 j q 256 → LSN V3 161 j q 256 := fun j q y => ((y.gk q0 (fun _ => rfl) (fun _ => rfl) k0).gk q1 (fun _ => rfl) (fun _ => rfl) k1.toQ).gk q2 (fun _ => rfl) (fun _ => rfl) k2.toQ
  obtain ⟨ql, l1, -⟩ := hS.2.2.2.2.2 _ jl (show bse Y a n < tpz Y a n by omega) p1
  obtain ⟨qr, l2, -⟩ := hS.2.2.2.2.2 _ jr (show tpz Y a n - 1 < tpz Y a n by omega) p2
  refine ⟨⟨hS, hl, ht⟩, ⟨p1, p2, p3, p4, two_all hC hl ht p1 p2, h26⟩, ⟨⟨(hi 16 rfl).trans f1, (hi 17 rfl).trans f2, (hi 18 rfl).trans f3, (hi 19 rfl).trans f4, (q2.i 158 4 rfl).trans ((q1.i 158 4 rfl).trans x4), (q2.i 158 20 rfl).trans ((q1.i 158 20 rfl).trans x20), (hi 14 rfl).trans f7⟩, by rw [h26]; exact g1, by rw [h26]; exact g2⟩, ⟨hR, hG, w3.eq ((q2.i 99 19 rfl).trans ((q1.i 99 19 rfl).trans (q0.i 99 19 rfl))) ((q2.a 113 3 rfl).trans ((q1.a 113 3 rfl).trans (q0.a 113 3 rfl))) (fun c => kq.1 114 c (fun z => absurd z.1 (by decide))), ((w4.gk q0 (fun _ => rfl) (fun _ => rfl) k0).gk q1 (fun _ => rfl) (fun _ => rfl) k1.toQ).gk q2 (fun _ => rfl) (fun _ => rfl) k2.toQ, ⟨(q2.r 158 22 rfl).trans ((q1.r 158 22 rfl).trans ((q0.r 158 22 rfl).trans w5)), hwa⟩, ⟨(q2.l 124 rfl).trans ((q1.l 124 rfl).trans ((q0.l 124 rfl).trans w7)), (k2.1 148 (Or.inl rfl) (fun z => absurd z.1 (by decide))).trans ((k1.1 148 (Or.inl rfl) (fun z => absurd z.1 (by decide))).trans (x48.trans w8))⟩, (q2.t 0 rfl).trans ((q1.t 0 rfl).trans ((q0.t 0 rfl).trans w9)), (q2.r 99 0 rfl).trans ((q1.r 99 0 rfl).trans ((q0.r 99 0 rfl).trans w10))⟩, fun k j q hk hj y => ?_, ql, qr, qs, hls jl ql l1, hls jr qr l2, hls sj qs l0⟩
  have hne := hS.below hC k j (by rw [bsn_lt hl]; exact hk) hj
  rw [bsn_lt hl, ← p3] at hne
  exact ⟨hls j q y, lgf_ne kq ⟨by decide, fun z => hne z.2⟩⟩
/-- the second work of A [ ] is done -/
theorem rsa_two (hRS : RSA V U0 m RX T R wn rx mb me nf FS L4 L8 Y a N i0 into E Q n js sc jl jr sj 1) (q1 : uq F322 (upI (upI V 158 4 (nI (sj + 1))) 158 20 (nI 2)) V0) (k1 : GKP 0 162 (upI (upI V 158 4 (nI (sj + 1))) 158 20 (nI 2)) V0) (q2 : uq FDK V0 V3) (k2 : GKP 0 162 V0 V3) (hR : RX V3) (hG : GRB V3 T R wn rx mb me) (hwa : V3.2.1 147 15 = -1) : RSA V3 U0 m RX T R wn rx mb me nf FS L4 L8 Y a N i0 into E Q n js sc jl jr sj 2 ∧ lgf V3 161 sj = lgf V 161 sj := by
  obtain ⟨hA1, ⟨p1, p2, p3, p4, hall, h26⟩, ⟨⟨f1, f2, f3, f4, f5, f6, f7⟩, g1, g2⟩, ⟨w1, w2, w3, w4, ⟨w5, w6⟩, ⟨w7, w8⟩, w9, w10⟩, hold, ql, qr, qs, l1, l2, l3⟩ := hRS
  have ep : ∀ b c, ¬ b = 0 → V3.2.2.2.2.2 b c = V.2.2.2.2.2 b c := fun b c hb => (k2.2.1 b c (fun z => hb z.1.symm)).trans (k1.2.1 b c (fun z => hb z.1.symm))
  have h26' : V3.1 26 = U0.1 26 := (q2.t 26 rfl).trans ((q1.t 26 rfl).trans h26)
  have hls : ∀ j q, LSN V 161 j q 256 → LSN V3 161 j q 256 := fun j q y => y.keep (fun b c hb => by
    rcases hb with rfl | rfl
    · exact (q2.r 161 c rfl).trans (q1.r 161 c rfl)
    · exact (q2.r 163 c rfl).trans (q1.r 163 c rfl)) (by rw [ep 161 j (by decide)])
  have hlg : ∀ j, lgf V3 161 j = lgf V 161 j := fun j => by
    funext x
    unfold lgf
    rw [if_neg (by decide), if_neg (by decide), ep 161 j (by decide)]
  refine ⟨⟨hA1, ⟨p1, p2, p3, p4, hall, h26'⟩, ⟨⟨(q2.i 158 16 rfl).trans ((q1.i 158 16 rfl).trans f1), (q2.i 158 17 rfl).trans ((q1.i 158 17 rfl).trans f2), (q2.i 158 18 rfl).trans ((q1.i 158 18 rfl).trans f3), (q2.i 158 19 rfl).trans ((q1.i 158 19 rfl).trans f4), (q2.i 158 4 rfl).trans (q1.i 158 4 rfl), (q2.i 158 20 rfl).trans (q1.i 158 20 rfl), (q2.i 158 14 rfl).trans ((q1.i 158 14 rfl).trans f7)⟩, by rw [h26', ← h26]; exact g1, by rw [h26', ← h26]; exact g2⟩, ⟨hR, hG, w3.eq ((q2.i 99 19 rfl).trans (q1.i 99 19 rfl)) ((q2.a 113 3 rfl).trans (q1.a 113 3 rfl)) (fun c => ep 114 c (by decide)), ?_, ⟨(q2.r 158 22 rfl).trans ((q1.r 158 22 rfl).trans w5), hwa⟩, ⟨(q2.l 124 rfl).trans ((q1.l 124 rfl).trans w7), (k2.1 148 (Or.inl rfl) (fun z => absurd z.2 (by decide))).trans ((k1.1 148 (Or.inl rfl) (fun z => absurd z.2 (by decide))).trans w8)⟩, (q2.t 0 rfl).trans ((q1.t 0 rfl).trans w9), (q2.r 99 0 rfl).trans ((q1.r 99 0 rfl).trans w10)⟩, fun k j q hk hj y => ?_, ql, qr, qs, hls jl ql l1, hls jr qr l2, hls sj qs l3⟩, hlg sj⟩
  · refine ⟨fun c hc => ?_, fun c hc => ?_⟩
    · rcases w4.1 c hc with y | ⟨q, y⟩
      · exact Or.inl ((ep 161 c (by decide)).trans y)
      · exact Or.inr ⟨q, hls c q y⟩
    · rcases w4.2 c hc with y | ⟨q, L, y1, y⟩
      · exact Or.inl ((ep 163 c (by decide)).trans y)
      · exact Or.inr ⟨q, L, y1, y.keep (fun b c hb => by
          rcases hb with rfl | rfl
          · exact (q2.r 161 c rfl).trans (q1.r 161 c rfl)
          · exact (q2.r 163 c rfl).trans (q1.r 163 c rfl)) (by rw [ep 163 c (by decide)])⟩
  · obtain ⟨z1, z2⟩ := hold k j q hk hj y
    exact ⟨hls j q z1, (hlg j).trans z2⟩
end Waited
