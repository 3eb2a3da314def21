/-! SEEKING: seekOn whole -/
/-- what was sought is there: the STATES that have it, in the set that was asked for -/
def SKE (V : Ud) (m : Nat) (RX : Ud → Prop) (T R wn : Nat) (rx mb me : Nat → Nat) (nf : Nat) (FS : Nat → Nat → Bool) (L4 L8 : Nat → Int64) (Y : Ts) (into : Nat) (E D : Nat → Prop) : Prop :=
  SKW V m RX T R wn rx mb me nf FS L4 L8 Y ∧ V.2.1 158 14 = 0 ∧ ∃ q, LSN V 161 into q 256 ∧ ∀ s, s < 64 * wn → (bts (lgf V 161 into) s = true ↔ E s ∧ D s)
section SeekRun
variable {H H0 : mu_H} {U V : Ud} {m d P T R wn nf N a i0 into : Nat} {C : Nat → Nat} {Y : Ts} {f od rx mb me : Nat → Nat} {es rs : Nat → Int32} {E Fr : Nat → Prop} {G Fs RB : Nat → Nat → Prop} {lv : Nat → Nat → Int32} {RX : Ud → Prop} {FS : Nat → Nat → Bool} {L4 L8 : Nat → Int64} {Φ : mu_R → Prop} {Q : Nat → Nat → Nat → Prop}
def Fen : Uf := ⟨[], [(158, 14)], [], [], [148, 162], true⟩
def Fn4 : Uf := ⟨[], [(158, 4)], [], [], [], false⟩
/-- the end, where nothing is kept -/
theorem sk_tE (h : um m H) (e : ud m H = U) (hC : SKC Y es rs a N i0 into) (hw : SKW U m RX T R wn rx mb me nf FS L4 L8 Y) (hW : WRL RX m od Y es P f into) (h16 : U.2.1 158 16 = nI (a + (N + 1))) (h17 : U.2.1 158 17 = nI (a + N)) (h19 : U.2.1 158 19 = nI into) (h15 : U.2.1 158 15 = -1) (hset : ∃ q, LSN U 161 into q 256 ∧ ∀ s, s < T → E s → (bts (lgf U 161 into) s = true ↔ Q N 0 s)) (hTw : T ≤ 64 * wn) (hE : ∀ s, s < 64 * wn → (bts L4 s = true ↔ E s)) (hET : ∀ s, E s → s < T) (hret : ∀ H1, um m H1 → ur m C H H1 → SKE (ud m H1) m RX T R wn rx mb me nf FS L4 L8 Y into E (Q N 0) → Φ (.inl none, H1)) : mu_W (mu_D (d + 8)) mu_m342 (8, [(0, .inr (.inr (some 158))), (1, .inr (.inr (some m)))], [], H) Φ := by
  have hbd := hC.bnd (Nat.le_refl N)
  have hin := hC.2.1.2.2.2
  obtain ⟨w1, w2, w3, w4, ⟨w5, w6⟩, ⟨w7, w8⟩, w9, w10⟩ := id hw
  obtain ⟨q, l1, c1⟩ := hset
  have hwn : U.2.1 99 12 = nI wn ∧ wn ≤ 256 := ⟨w2.1.1.1, by have := w2.1.2.1; have := w2.1.2.2; omega⟩
  refine sk_endN (C := C) (PV := fun H1 => uq F258ga U (ud m H1) ∧ LSN (ud m H1) 161 into q 256 ∧ GKP 161 into U (ud m H1) ∧ ∀ i, i < wn → lgf (ud m H1) 161 into i = lgf U 161 into i &&& U.2.2.2.2.1 124 i) (at0 := a + (N + 1)) (to0 := a + N) h e h16 h17 (by omega) (by omega) h19 (by omega) l1 ((sp_commonG (d := d + 7) (C := C) h e hwn.1 hwn.2 l1).imp (fun H1 y => ?_)) (fun H2 H3 u2 r2 hPV u3 r3 d3 => ?_)
  · obtain ⟨y1, y2, y3, y4, y5, y6⟩ := y
    exact ⟨y1, y2, ⟨y3, y4, y5, y6⟩, (y3.i 158 15 rfl).trans h15⟩
  · obtain ⟨y3, y4, y5, y6⟩ := hPV
    have hS2 : SKW (ud m H2) m RX T R wn rx mb me nf FS L4 L8 Y := SKW.keep hW hw y3 rfl rfl rfl rfl rfl rfl rfl rfl rfl rfl rfl rfl rfl (fun _ => rfl) (fun _ => rfl) y5.toQ (by decide) (fun _ => Nat.le_refl _) (y5.1 148 (Or.inl rfl) (fun z => absurd z.1 (by decide)))
    have hS3 : SKW (ud m H3) m RX T R wn rx mb me nf FS L4 L8 Y := by
      rw [d3]
      exact SKW.keep (F := Fen) (c0 := 0) (i1 := 0) hW hS2 ((uq.refl Fen _).I rfl) rfl rfl rfl rfl rfl rfl rfl rfl rfl rfl rfl rfl rfl (fun _ => rfl) (fun _ => rfl) (GKQ.of_eq rfl) (by decide) (fun z => absurd z (by decide)) rfl
    refine hret H3 u3 r3 ⟨hS3, by rw [d3]; rfl, q, by rw [d3]; exact y4, fun s s1 => ?_⟩
    rw [d3]
    show bts (lgf (ud m H2) 161 into) s = true ↔ _
    unfold bts
    rw [y6 (s / 64) (by omega), btz_and, Bool.and_eq_true, w7]
    have hE1 := hE s (by omega)
    unfold bts at hE1
    rw [hE1]
    constructor
    · rintro ⟨k1, k2⟩
      exact ⟨k2, (c1 s (hET s k2) k2).mp k1⟩
    · rintro ⟨k1, k2⟩
      exact ⟨(c1 s (hET s k1) k1).mpr k2, k1⟩
/-- the last operator has been reckoned -/
theorem sk_tN {sc : Nat} {js : Nat → Option Nat} (h : um m H) (e : ud m H = U) (hC : SKC Y es rs a N i0 into) (hS : SKS U Y a N i0 into T E Q N js sc) (hw : SKW U m RX T R wn rx mb me nf FS L4 L8 Y) (hW : WRL RX m od Y es P f into) (hC1 : 2 * (((Y 13).1 + 2) * 4) + 4 ≤ C 21) (hC2 : C 21 ≤ 8388608) (hC26 : 4 * (N + 2) + 2 ≤ C 26) (hC26b : C 26 ≤ 8388608) (hfnd : ∀ H1, um m H1 → ur m C H H1 → (∃ k q, FND (ud m H1) m RX T R wn rx mb me nf FS L4 L8 Y P f od es a N i0 into E Q U N js sc k q) → Φ (.inl none, H1)) (hend : ∀ H3, um m H3 → ur m C H H3 → SKW (ud m H3) m RX T R wn rx mb me nf FS L4 L8 Y → (ud m H3).2.1 158 16 = nI (a + (N + 1)) → (ud m H3).2.1 158 17 = nI (a + N) → (ud m H3).2.1 158 19 = nI into → (∃ q, LSN (ud m H3) 161 into q 256 ∧ ∀ s, s < T → E s → (bts (lgf (ud m H3) 161 into) s = true ↔ Q N 0 s)) → mu_W (mu_D (d + 8)) mu_m342 (8, [(0, .inr (.inr (some 158))), (1, .inr (.inr (some m)))], [], H3) Φ) : mu_W (mu_D (d + 8)) mu_m342 (8, [(0, .inr (.inr (some 158))), (1, .inr (.inr (some m)))], [], H) Φ := by
  have hbd := hC.bnd (Nat.le_refl N)
  have hrm := hS.room hC
  have h1 := hC.one
  have hb0 : bsn Y a N N = 0 := bsn_end
  have hA : ASK Y a N N := Or.inl rfl
  obtain ⟨w1, w2, w3, w4, ⟨w5, w6⟩, ⟨w7, w8⟩, w9, w10⟩ := id hw
  have hI := hS.2.1
  obtain ⟨⟨f1, f2, f3, f4, f5, f6, f7⟩, g1, g2⟩ := id hI
  refine sk_front (d := d) (o := 9) (pa := 0) (pl := 1) (b := 0) (sz := 1) (at0 := a + N) (to0 := a + N) (st0 := a + spz Y a N 0) (ar := (U.1 0).2 (a + N) 1) h e f1 f2 (by omega) (Nat.le_refl _) (fun y => absurd y (Nat.lt_irrefl _)) (fun _ => rfl) rfl (by decide) rfl (fun y => absurd y (by decide)) (fun y => absurd y (by decide)) (g1.trans h1) (by decide) rfl ⟨fun y => absurd y (by decide), fun _ => (g2 0 (by omega)).1⟩ (fun y => absurd y (Nat.lt_irrefl _)) ?_
  by_cases hj0 : js 0 = none
  · exact sk_t2 (o := 9) (pl := 1) (b := 0) h e hC hS hw hW hA hb0.symm ⟨0, Nat.le_refl _, by omega, hj0⟩ hC1 hC2 hfnd
  · have hall : ∀ k, 0 ≤ k → k < tpz Y a N → ¬ js k = none := fun k _ hk => by
      rw [show k = 0 by omega]; exact hj0
    obtain ⟨jl, jr, sj, ql, qr, qs, ⟨p1, p2, p3, p4⟩, ⟨b1, b2, b3⟩, ⟨l1, l2, l3⟩, hlt⟩ := hS.parts hC hA (fun k _ k2 => hall k (Nat.zero_le _) k2)
    rw [hb0] at p1 p3 hlt
    rw [h1] at p2
    have p3 : sj = into := p3
    refine sk_comb (C := C) (PV := fun _ => False) (PW := fun H1 => ud m H1 = upI U 158 4 (nI (sj + 1))) (jl := jl) (jr := jr) (sz := 1) (b := 0) h e (fun _ y => False.elim y) f1 (g1.trans h1) (by decide) (by decide) (by rw [(g2 0 (by omega)).2, p1]; rfl) (by show (U.1 26).2 0 1 = nI jr; rw [(g2 0 (by omega)).2, p2]; rfl) (by omega) (by omega) p4 (by omega) (sk_f0 (d := d + 2) h e hC hI hS.1 (by omega) (hW.1 U w1) w4 (fun k hk => hS.jb hC k hk) (Nat.zero_le _) hall hC1 hC2) ((pr_comb0 (d := d + 2) (C := C) (o := 9) (b := 0) (sz := 1) h e (g1.trans h1) (by decide) (by decide) (by rw [(g2 0 (by omega)).2, p1]; rfl) (by show (U.1 26).2 0 1 = nI jr; rw [(g2 0 (by omega)).2, p2]; rfl) b1 b2 b3 l1 l2 l3 f1 f2).imp (fun x H1 y => ?_)) (by omega) hC26b (fun H2 H3 u2 r2 hPW u3 r3 d3 => ?_)
    · obtain ⟨y1, y2, y3, y4⟩ := y
      exact Or.inr ⟨y1, y2, y3, y4, by rw [y4]; rfl, by rw [y4]; exact f1⟩
    · rw [hPW] at d3
      have hS3 : SKW (ud m H3) m RX T R wn rx mb me nf FS L4 L8 Y := by
        rw [d3]
        have h2 : SKW (upI U 158 4 (nI (sj + 1))) m RX T R wn rx mb me nf FS L4 L8 Y := SKW.keep (F := Fn4) (c0 := 0) (i1 := 0) hW hw ((uq.refl Fn4 _).I rfl) rfl rfl rfl rfl rfl rfl rfl rfl rfl rfl rfl rfl rfl (fun _ => rfl) (fun _ => rfl) (GKQ.of_eq rfl) (by decide) (fun z => absurd z (by decide)) rfl
        exact h2.skb hW
      obtain ⟨q, z1, z2⟩ := hS.2.2.2.2.2 0 jl (by omega) p1
      have hjl : jl = into := by
        have := hS.2.2.1.2.1 0 jl (by omega) p1
        rw [p1] at p2
        cases p2
        omega
      rw [hjl] at z1 z2
      exact hend H3 u3 r3 hS3 (by rw [d3]; rfl) (by rw [d3]; exact f2) (by rw [d3]; exact f4) ⟨q, by rw [d3]; exact z1, by rw [d3]; exact z2⟩
/-- what seekOn comes to, from an operator on -/
def SOC (H1 H0 : mu_H) (m : Nat) (C : Nat → Nat) (RX : Ud → Prop) (T R wn : Nat) (rx mb me : Nat → Nat) (RB : Nat → Nat → Prop) (nf : Nat) (FS : Nat → Nat → Bool) (L4 L8 : Nat → Int64) (Y : Ts) (P : Nat) (f od : Nat → Nat) (es : Nat → Int32) (a N i0 into : Nat) (E : Nat → Prop) (Q : Nat → Nat → Nat → Prop) (n0 : Nat) : Prop :=
  um m H1 ∧ ur m C H0 H1 ∧ ((∃ U0 n js sc k q, n0 ≤ n ∧ FND (ud m H1) m RX T R wn rx mb me nf FS L4 L8 Y P f od es a N i0 into E Q U0 n js sc k q) ∨ (∃ X U0 n js sc jl jr sj qs, n0 ≤ n ∧ WTG X U0 m RX T R wn rx mb me nf FS L4 L8 Y a N i0 into E Q n js sc jl jr sj qs ∧ RCK X (ud m H1) T R wn rx mb me RB nf FS 161 sj qs (plo (oc Y (a + n)))))
theorem sk_run (hC : SKC Y es rs a N i0 into) (hQd : Q = CTS Y G E Fr nf Fs lv a) (hW : WRL RX m od Y es P f into) (hRB : ∀ x t, RB x t → t < T) (hTw : T ≤ 64 * wn) (hE : ∀ s, s < 64 * wn → (bts L4 s = true ↔ E s)) (hET : ∀ s, E s → s < T) (hC1 : 2 * (((Y 13).1 + 2) * 4) + 4 ≤ C 21) (hC2 : C 21 ≤ 8388608) (hC26 : 4 * (N + 2) + 2 ≤ C 26) (hC26b : C 26 ≤ 8388608) {n0 : Nat} (hΦ : ∀ H1, SOC H1 H0 m C RX T R wn rx mb me RB nf FS L4 L8 Y P f od es a N i0 into E Q n0 → Φ (.inl none, H1)) (hend : ∀ H3, um m H3 → ur m C H0 H3 → SKW (ud m H3) m RX T R wn rx mb me nf FS L4 L8 Y → (ud m H3).2.1 158 16 = nI (a + (N + 1)) → (ud m H3).2.1 158 17 = nI (a + N) → (ud m H3).2.1 158 19 = nI into → (∃ q, LSN (ud m H3) 161 into q 256 ∧ ∀ s, s < T → E s → (bts (lgf (ud m H3) 161 into) s = true ↔ Q N 0 s)) → mu_W (mu_D (d + 8)) mu_m342 (8, [(0, .inr (.inr (some 158))), (1, .inr (.inr (some m)))], [], H3) Φ) : ∀ (dn n sc : Nat) (js : Nat → Option Nat) (H : mu_H), n + dn = N → n0 ≤ n → um m H → ur m C H0 H → SKS (ud m H) Y a N i0 into T E Q n js sc → SKW (ud m H) m RX T R wn rx mb me nf FS L4 L8 Y → mu_W (mu_D (d + 8)) mu_m342 (8, [(0, .inr (.inr (some 158))), (1, .inr (.inr (some m)))], [], H) Φ
  | 0, n, sc, js, H, hn, hn0, h, h0, hS, hw => by
    have hn : n = N := hn
    subst hn
    exact sk_tN (d := d) (C := C) h rfl hC hS hw hW hC1 hC2 hC26 hC26b (fun H1 u1 r1 ⟨k, q, y⟩ => hΦ H1 ⟨u1, h0.trans r1, Or.inl ⟨_, _, _, _, k, q, hn0, y⟩⟩) (fun H3 u3 r3 => hend H3 u3 (h0.trans r3))
  | dn + 1, n, sc, js, H, hn, hn0, h, h0, hS, hw => by
    have hl : n < N := by omega
    have hbn := bsn_lt (Y := Y) (a := a) hl
    have ih := fun sc js H => sk_run hC hQd hW hRB hTw hE hET hC1 hC2 hC26 hC26b hΦ hend dn (n + 1) sc js H (by omega) (by omega)
    by_cases hA : ASK Y a N n
    · by_cases hun : ∃ k, bse Y a n ≤ k ∧ k < tpz Y a n ∧ js k = none
      · refine sk_t0 h rfl hC hS.2.1 (fun k hk => hS.jb hC k hk) hS.2.2.2.1.1 hw.2.2.2.2.2.2.1 hl hA ?_
        exact sk_t2 h rfl hC hS hw hW hA hbn.symm hun hC1 hC2 (fun H1 u1 r1 ⟨k, q, y⟩ => hΦ H1 ⟨u1, h0.trans r1, Or.inl ⟨_, _, _, _, k, q, hn0, y⟩⟩)
      · have hall : ∀ k, bse Y a n ≤ k → k < tpz Y a n → ¬ js k = none := fun k k1 k2 k3 => hun ⟨k, k1, k2, k3⟩
        by_cases ht : tmd (oc Y (a + n))
        · exact sk_t4 (RB := RB) h rfl hC hS hw hW hl ht hall hRB (fun s hs y => hET s ((hE s hs).mp y)) hC1 hC2 hC26 hC26b (fun H1 u1 r1 ⟨X, jl, jr, sj, qs, y1, y2⟩ => hΦ H1 ⟨u1, h0.trans r1, Or.inr ⟨X, _, _, _, _, jl, jr, sj, qs, hn0, y1, y2⟩⟩)
        · exact sk_t3 h rfl hC hQd hS hw hW hl hA ht hall hTw hC1 hC2 hC26 hC26b (fun H3 u3 r3 s3 w3 => ih _ _ H3 u3 (h0.trans r3) s3 w3)
    · exact sk_t1 h rfl hC hS hw hW hl hA hC26 hC26b (fun k s hk => by rw [hQd]; exact cts_old (by omega)) (fun H3 u3 r3 s3 w3 => ih _ _ H3 u3 (h0.trans r3) s3 w3)
end SeekRun
