/-! SEEKING: timed operators -/
/-- an operator that has waited for the graph: U0 the data when it began -/
def RSA (V U0 : Ud) (m : Nat) (RX : Ud → Prop) (T R wn : Nat) (rx mb me : Nat → Nat) (nf : Nat) (FS : Nat → Nat → Bool) (L4 L8 : Nat → Int64) (Y : Ts) (a N i0 into : Nat) (E : Nat → Prop) (Q : Nat → Nat → Nat → Prop) (n : Nat) (js : Nat → Option Nat) (sc jl jr sj sg : Nat) : Prop :=
  (SKS U0 Y a N i0 into T E Q n js sc ∧ n < N ∧ tmd (oc Y (a + n))) ∧ (js (bse Y a n) = some jl ∧ js (tpz Y a n - 1) = some jr ∧ sj = into + cna js (bse Y a n) ∧ sj = min jl jr ∧ (∀ k, bse Y a n ≤ k → k < tpz Y a n → ¬ js k = none) ∧ V.1 26 = U0.1 26) ∧
  SKI V Y a N i0 into n js (sj + 1) sg ∧ SKW V m RX T R wn rx mb me nf FS L4 L8 Y ∧ (∀ k j q, k < bse Y a n → js k = some j → LSN U0 161 j q 256 → LSN V 161 j q 256 ∧ lgf V 161 j = lgf U0 161 j) ∧ ∃ ql qr qs, LSN V 161 jl ql 256 ∧ LSN V 161 jr qr 256 ∧ LSN V 161 sj qs 256
section SeekTimed
variable {H : mu_H} {U U0 V X : Ud} {m d P T R wn nf N a i0 into n sc jl jr sj : Nat} {C : Nat → Nat} {Y : Ts} {f od rx mb me : Nat → Nat} {es rs : Nat → Int32} {E Fr : Nat → Prop} {G Fs RB : Nat → Nat → Prop} {lv : Nat → Nat → Int32} {js : Nat → Option Nat} {RX : Ud → Prop} {F : Uf} {FS : Nat → Nat → Bool} {L4 L8 : Nat → Int64} {Φ : mu_R → Prop} {Q : Nat → Nat → Nat → Prop}
/-- a timed operator begins: the graph is to work -/
theorem sk_t4 (h : um m H) (e : ud m H = U) (hC : SKC Y es rs a N i0 into) (hS : SKS U Y a N i0 into T E Q n js sc) (hw : SKW U m RX T R wn rx mb me nf FS L4 L8 Y) (hW : WRL RX m od Y es P f into) (hl : n < N) (ht : tmd (oc Y (a + n))) (hall : ∀ k, bse Y a n ≤ k → k < tpz Y a n → ¬ js k = none) (hRB : ∀ x t, RB x t → t < T) (hET : ∀ s, s < 64 * wn → bts L4 s = true → s < T) (hC1 : 2 * (((Y 13).1 + 2) * 4) + 4 ≤ C 21) (hC2 : C 21 ≤ 8388608) (hC26 : 4 * (N + 2) + 2 ≤ C 26) (hC26b : C 26 ≤ 8388608) (hret : ∀ H1, um m H1 → ur m C H H1 → (∃ X jl jr sj qs, WTG X U m RX T R wn rx mb me nf FS L4 L8 Y a N i0 into E Q n js sc jl jr sj qs ∧ RCK X (ud m H1) T R wn rx mb me RB nf FS 161 sj qs (plo (oc Y (a + n)))) → Φ (.inl none, H1)) : mu_W (mu_D (d + 8)) mu_m342 (8, [(0, .inr (.inr (some 158))), (1, .inr (.inr (some m)))], [], H) Φ := by
  have hbd := hC.bnd hS.1
  have hrm := hS.room hC
  have hb := bse_le hC.pln hl
  have hok := hC.ok hl
  have hA : ASK Y a N n := Or.inr ⟨hl, Or.inl ht⟩
  have hbn := bsn_lt (Y := Y) (a := a) hl
  obtain ⟨jl, jr, sj, ql, qr, qs, ⟨p1, p2, p3, p4⟩, ⟨b1, b2, b3⟩, ⟨l1, l2, l3⟩, hlt⟩ := hS.parts hC hA (fun k k1 k2 => hall k (by omega) k2)
  rw [hbn] at p1 p3 hlt
  obtain ⟨w1, w2, w3, w4, ⟨w5, w6⟩, ⟨w7, w8⟩, w9, w10⟩ := id hw
  have hI := hS.2.1
  obtain ⟨⟨f1, f2, f3, f4, f5, f6, f7⟩, g1, g2⟩ := id hI
  have hwn : U.2.1 99 12 = nI wn ∧ wn ≤ 256 := ⟨w2.1.1.1, by have := w2.1.2.1; have := w2.1.2.2; omega⟩
  refine sk_t0 h e hC hI (fun k hk => hS.jb hC k hk) hS.2.2.2.1.1 w9 hl hA ?_
  refine sk_comb (C := C) (PV := fun H1 => um m H1 ∧ ur m C H H1 ∧ ∃ X jl jr sj qs, WTG X U m RX T R wn rx mb me nf FS L4 L8 Y a N i0 into E Q n js sc jl jr sj qs ∧ RCK X (ud m H1) T R wn rx mb me RB nf FS 161 sj qs (plo (oc Y (a + n)))) (PW := fun _ => False) (jl := jl) (jr := jr) h e (fun H1 y => hret H1 y.1 y.2.1 y.2.2) f1 g1 (by omega) hlt (by rw [(g2 _ hlt).2, p1]; rfl) (by rw [(g2 _ (by omega)).2, p2]; rfl) (by omega) (by omega) p4 (by omega) (sk_f0 (d := d + 2) h e hC hI hS.1 (by omega) (hW.1 U w1) w4 (fun k hk => hS.jb hC k hk) (by omega) hall hC1 hC2) ((pr_comb2 (d := d + 2) (C := C) (to0 := a + N) (RB := RB) h e g1 (by omega) hlt (by rw [(g2 _ hlt).2, p1]; rfl) (by rw [(g2 _ (by omega)).2, p2]; rfl) b1 b2 b3 l1 l2 l3 f1 hwn.1 hwn.2 hok.2.1 f2 (by omega) (by omega) w2 w3 hRB ht f6 (by rw [w7]; exact hET)).imp (fun x H1 y => ?_)) (by omega) hC26b (fun H2 H3 u2 r2 hPW u3 r3 d3 => False.elim hPW)
  obtain ⟨y1, y2, y3, X, y4, y5, y6, y7, y8, y9, y10⟩ := y
  refine Or.inl ⟨y1, y2, y3, X, jl, jr, sj, qs, ⟨⟨hS, hw, hl, ht⟩, ⟨p1, p2, p3, p4, l3⟩, ⟨y4, y5, y6, y7, y8⟩, fun i hi => ?_⟩, y10⟩
  have := y9 i hi
  rw [w7] at this
  exact this
/-- a timed operator ends: on to the next one -/
theorem sk_t5 (h : um m H) (e : ud m H = V) (hC : SKC Y es rs a N i0 into) (hQd : Q = CTS Y G E Fr nf Fs lv a) {sg : Nat} (hR : RSA V U0 m RX T R wn rx mb me nf FS L4 L8 Y a N i0 into E Q n js sc jl jr sj sg) (hW : WRL RX m od Y es P f into) (hsg : (sg = 1 ∧ ¬ oc Y (a + n) = 29) ∨ (sg = 2 ∧ oc Y (a + n) = 29)) (hTw : T ≤ 64 * wn) (hE : ∀ s, s < 64 * wn → (bts L4 s = true ↔ E s)) (hres : ∀ s, s < T → E s → (bts (lgf V 161 sj) s = true ↔ rk1 G E Fr nf Fs (oc Y (a + n)) (Q n (bse Y a n)) (Q n (tpz Y a n - 1)) s)) (hres2 : oc Y (a + n) = 29 → ∀ s, s < T → E s → (bts (V.2.2.2.2.1 162) s = true ↔ EGS G nf Fs (fun t => E t ∧ ¬ Q n (tpz Y a n - 1) t) s)) (hC1 : 2 * (((Y 13).1 + 2) * 4) + 4 ≤ C 21) (hC2 : C 21 ≤ 8388608) (hC26 : 4 * (N + 2) + 2 ≤ C 26) (hC26b : C 26 ≤ 8388608) (hback : ∀ H3, um m H3 → ur m C H H3 → SKS (ud m H3) Y a N i0 into T E Q (n + 1) (upo js (bse Y a n) (some (into + cna js (bse Y a n)))) (into + cna js (bse Y a n) + 1) → SKW (ud m H3) m RX T R wn rx mb me nf FS L4 L8 Y → mu_W (mu_D (d + 8)) mu_m342 (8, [(0, .inr (.inr (some 158))), (1, .inr (.inr (some m)))], [], H3) Φ) : mu_W (mu_D (d + 8)) mu_m342 (8, [(0, .inr (.inr (some 158))), (1, .inr (.inr (some m)))], [], H) Φ := by
  obtain ⟨⟨hS, hl, ht⟩, ⟨p1, p2, p3, p4, hall, h26⟩, hI, hw, hold, ql, qr, qs, l1, l2, l3⟩ := hR
  have hbd := hC.bnd hS.1
  have hrm := hS.room hC
  have hb := bse_le hC.pln hl
  have hok := hC.ok hl
  have hA : ASK Y a N n := Or.inr ⟨hl, Or.inl ht⟩
  have hbn := bsn_lt (Y := Y) (a := a) hl
  have htw := hC.two hS.1 hA
  have hlt : bse Y a n < tpz Y a n := by omega
  have b1 := (hS.2.2.1.2.1 _ jl hlt p1).2
  have b2 := (hS.2.2.1.2.1 _ jr (show tpz Y a n - 1 < tpz Y a n by omega) p2).2
  have hbs : sj ≤ jl := by omega
  obtain ⟨w1, w2, w3, w4, ⟨w5, w6⟩, ⟨w7, w8⟩, w9, w10⟩ := id hw
  obtain ⟨⟨f1, f2, f3, f4, f5, f6, f7⟩, g1, g2⟩ := id hI
  obtain ⟨⟨f1', f2', f3', f4', f5', f6', f7'⟩, g1', g2'⟩ := hS.2.1
  have hTM : TMZ Y a (n + 1) (bse Y a n) := tmz_new.mpr (Or.inl ht)
  have hwn : V.2.1 99 12 = nI wn ∧ wn ≤ 256 := ⟨w2.1.1.1, by have := w2.1.2.1; have := w2.1.2.2; omega⟩
  have hcm : mu_TI (mu_D (d + 8)) 350 [.inr (.inr (some 158)), .inl (nI (oc Y (a + n))), .inl (nI (bse Y a n)), .inl (nI sj)] H (fun x H1 => x = 0 ∧ um m H1 ∧ ur m C H H1 ∧ uq F350j V (ud m H1) ∧ GKQ 161 sj V (ud m H1) ∧ (ud m H1).2.2.2.2.1 148 = V.2.2.2.2.1 148 ∧ (ud m H1).2.2.2.2.1 162 = V.2.2.2.2.1 162 ∧ (ud m H1).2.1 158 4 = nI (sj + 1) ∧ (ud m H1).2.1 158 20 = nI 0 ∧ ∀ i, i < wn → lgf (ud m H1) 161 sj i = fnw (oc Y (a + n)) (lgf V 161 sj i) (V.2.2.2.2.1 162 i) (V.2.2.2.2.1 124 i)) := by
    rcases hsg with ⟨s1, s2⟩ | ⟨s1, s2⟩
    · exact pr_comb4 (d := d + 2) (C := C) (to0 := a + N) h e g1 (by omega) hlt (by rw [(g2 _ hlt).2, p1]; rfl) (by rw [(g2 _ (by omega)).2, p2]; rfl) (by omega) (by omega) (by omega) l1 l2 l3 f1 hwn.1 hwn.2 hok.2.1 f2 (by omega) (by omega) ht s2 (by rw [f6, s1])
    · exact pr_comb5 (d := d + 2) (C := C) (to0 := a + N) h e g1 (by omega) hlt (by rw [(g2 _ hlt).2, p1]; rfl) (by rw [(g2 _ (by omega)).2, p2]; rfl) (by omega) (by omega) (by omega) l1 l2 l3 f1 hwn.1 hwn.2 hok.2.1 f2 (by omega) (by omega) ht (by rw [f6, s1])
  refine sk_t0 h e hC hI (fun k hk => hS.jb hC k hk) hS.2.2.2.1.1 w9 hl hA ?_
  refine sk_comb (C := C) (PV := fun _ => False) (PW := fun H1 => uq F350j V (ud m H1) ∧ GKQ 161 sj V (ud m H1) ∧ (ud m H1).2.2.2.2.1 148 = V.2.2.2.2.1 148 ∧ (ud m H1).2.1 158 4 = nI (sj + 1) ∧ (ud m H1).2.1 158 20 = nI 0 ∧ ∀ i, i < wn → lgf (ud m H1) 161 sj i = fnw (oc Y (a + n)) (lgf V 161 sj i) (V.2.2.2.2.1 162 i) (V.2.2.2.2.1 124 i)) (jl := jl) (jr := jr) h e (fun _ y => False.elim y) f1 g1 (by omega) hlt (by rw [(g2 _ hlt).2, p1]; rfl) (by rw [(g2 _ (by omega)).2, p2]; rfl) (by omega) (by omega) p4 (by omega) (sk_f0 (d := d + 2) h e hC hI hS.1 (by omega) (hW.1 V w1) w4 (fun k hk => hS.jb hC k hk) (by omega) hall hC1 hC2) (hcm.imp (fun x H1 y => ?_)) (by omega) hC26b (fun H2 H3 u2 r2 hPW u3 r3 d3 => ?_)
  · obtain ⟨y1, y2, y3, y4, y5, y6, y7, y8, y10, y9⟩ := y
    exact Or.inr ⟨y1, y2, y3, ⟨y4, y5, y6, y8, y10, y9⟩, y4.t 26 rfl, (y4.i 158 16 rfl).trans f1⟩
  · obtain ⟨y4, y5, y6, y8, y10, y9⟩ := hPW
    have hSKW2 : SKW (ud m H2) m RX T R wn rx mb me nf FS L4 L8 Y := SKW.keep hW hw y4 rfl rfl rfl rfl rfl rfl rfl rfl rfl rfl rfl rfl rfl (fun _ => rfl) (fun _ => rfl) y5 (by decide) (fun _ => by omega) y6
    have hls : LSN (ud m H2) 161 sj qs 256 := l3.gk y4 (fun _ => rfl) (fun _ => rfl) y5
    have hnew : ∀ s, s < T → E s → (bts (lgf (ud m H2) 161 sj) s = true ↔ Q (n + 1) (bse Y a n) s) := fun s s1 s2 => by
      have k1 := hres s s1 s2
      have k2 := fun ho => hres2 ho s s1 s2
      rw [hQd] at k1 k2 ⊢
      rw [cts_new hTM, ← fin_ctl ht]
      have hm : s % 64 < 64 := Nat.mod_lt _ (by decide)
      have hE1 : btz (V.2.2.2.2.1 124 (s / 64)) (s % 64) = true := by
        rw [w7]
        exact (hE s (by omega)).mpr s2
      rw [← fnw_bit hm hE1 k1 k2]
      unfold bts
      rw [y9 (s / 64) (by omega)]
    rw [p3] at d3 y5 y8 hls hnew
    refine hback H3 u3 r3 ?_ (by rw [d3]; exact hSKW2.skb hW)
    rw [d3]
    refine hS.join hC hl hA (fun k s hk => by rw [hQd]; exact cts_old (by omega)) ((y4.t 26 rfl).trans h26) ((y4.i 158 17 rfl).trans (f2.trans f2'.symm)) ((y4.i 158 18 rfl).trans (f3.trans f3'.symm)) ((y4.i 158 19 rfl).trans (f4.trans f4'.symm)) ((y4.i 158 14 rfl).trans (f7.trans f7'.symm)) y8 y10 (fun k j hk hj q y => ?_) ⟨qs, hls, hnew⟩
    have hne := hS.below hC k j (by omega) hj
    rw [hbn] at hne
    obtain ⟨z1, z2⟩ := hold k j q hk hj y
    exact ⟨z1.gk y4 (fun _ => rfl) (fun _ => rfl) y5, (lgf_ne y5 ⟨by decide, fun z => hne z.2⟩).trans z2⟩
/-- A [ ]: E [ ] has been reckoned, EG is to be -/
theorem sk_t6 (h : um m H) (e : ud m H = V) (hC : SKC Y es rs a N i0 into) (hR : RSA V U0 m RX T R wn rx mb me nf FS L4 L8 Y a N i0 into E Q n js sc jl jr sj 1) (hW : WRL RX m od Y es P f into) (ho : oc Y (a + n) = 29) (hRB : ∀ x t, RB x t → t < T) (hAT : ∀ s, s < 64 * wn → bts (V.2.2.2.2.1 162) s = true → s < T) (hC1 : 2 * (((Y 13).1 + 2) * 4) + 4 ≤ C 21) (hC2 : C 21 ≤ 8388608) (hC26 : 4 * (N + 2) + 2 ≤ C 26) (hC26b : C 26 ≤ 8388608) (hret : ∀ H1, um m H1 → ur m C H H1 → RCK (upI (upI V 158 4 (nI (sj + 1))) 158 20 (nI 2)) (ud m H1) T R wn rx mb me RB nf FS 0 162 162 12 → Φ (.inl none, H1)) : mu_W (mu_D (d + 8)) mu_m342 (8, [(0, .inr (.inr (some 158))), (1, .inr (.inr (some m)))], [], H) Φ := by
  obtain ⟨⟨hS, hl, ht⟩, ⟨p1, p2, p3, p4, hall, h26⟩, hI, hw, hold, ql, qr, qs, l1, l2, l3⟩ := hR
  have hbd := hC.bnd hS.1
  have hrm := hS.room hC
  have hb := bse_le hC.pln hl
  have hok := hC.ok hl
  have hA : ASK Y a N n := Or.inr ⟨hl, Or.inl ht⟩
  have hbn := bsn_lt (Y := Y) (a := a) hl
  have htw := hC.two hS.1 hA
  have hlt : bse Y a n < tpz Y a n := by omega
  have b1 := (hS.2.2.1.2.1 _ jl hlt p1).2
  have b2 := (hS.2.2.1.2.1 _ jr (show tpz Y a n - 1 < tpz Y a n by omega) p2).2
  obtain ⟨w1, w2, w3, w4, ⟨w5, w6⟩, ⟨w7, w8⟩, w9, w10⟩ := id hw
  obtain ⟨⟨f1, f2, f3, f4, f5, f6, f7⟩, g1, g2⟩ := id hI
  have hwn : V.2.1 99 12 = nI wn ∧ wn ≤ 256 := ⟨w2.1.1.1, by have := w2.1.2.1; have := w2.1.2.2; omega⟩
  refine sk_t0 h e hC hI (fun k hk => hS.jb hC k hk) hS.2.2.2.1.1 w9 hl hA ?_
  refine sk_comb (C := C) (PV := fun H1 => um m H1 ∧ ur m C H H1 ∧ RCK (upI (upI V 158 4 (nI (sj + 1))) 158 20 (nI 2)) (ud m H1) T R wn rx mb me RB nf FS 0 162 162 12) (PW := fun _ => False) (jl := jl) (jr := jr) h e (fun H1 y => hret H1 y.1 y.2.1 y.2.2) f1 g1 (by omega) hlt (by rw [(g2 _ hlt).2, p1]; rfl) (by rw [(g2 _ (by omega)).2, p2]; rfl) (by omega) (by omega) p4 (by omega) (sk_f0 (d := d + 2) h e hC hI hS.1 (by omega) (hW.1 V w1) w4 (fun k hk => hS.jb hC k hk) (by omega) hall hC1 hC2) ((pr_comb3 (d := d + 2) (C := C) (to0 := a + N) (RB := RB) h e g1 (by omega) hlt (by rw [(g2 _ hlt).2, p1]; rfl) (by rw [(g2 _ (by omega)).2, p2]; rfl) (by omega) (by omega) (by omega) l1 l2 l3 f1 hwn.1 hwn.2 hok.2.1 f2 (by omega) (by omega) w2 w3 hRB ho ht f6 hAT).imp (fun x H1 y => ?_)) (by omega) hC26b (fun H2 H3 u2 r2 hPW u3 r3 d3 => False.elim hPW)
  obtain ⟨y1, y2, y3, X, y4, y5⟩ := y
  rw [y4] at y5
  exact Or.inl ⟨y1, y2, y3, y5⟩
end SeekTimed
