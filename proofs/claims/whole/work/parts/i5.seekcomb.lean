/-! SEEKING: the sets of an operator's parts are there -/
/-- the graph is waited for: U0 the data when the operator began, X behind prepare, o the operator, jl, jr, sj the sets of its parts and of it -/
def WTG (X U0 : Ud) (m : Nat) (RX : Ud → Prop) (T R wn : Nat) (rx mb me : Nat → Nat) (nf : Nat) (FS : Nat → Nat → Bool) (L4 L8 : Nat → Int64) (Y : Ts) (a N i0 into : Nat) (E : Nat → Prop) (Q : Nat → Nat → Nat → Prop) (n : Nat) (js : Nat → Option Nat) (sc jl jr sj qs : Nat) : Prop :=
  (SKS U0 Y a N i0 into T E Q n js sc ∧ SKW U0 m RX T R wn rx mb me nf FS L4 L8 Y ∧ n < N ∧ tmd (oc Y (a + n))) ∧ (js (bse Y a n) = some jl ∧ js (tpz Y a n - 1) = some jr ∧ sj = into + cna js (bse Y a n) ∧ sj = min jl jr ∧ LSN U0 161 sj qs 256) ∧
  (uq F350j U0 X ∧ GKQ 161 sj U0 X ∧ X.2.2.2.2.1 148 = U0.2.2.2.2.1 148 ∧ X.2.1 158 4 = nI (sj + 1) ∧ X.2.1 158 20 = nI 1) ∧ PRW X U0 L4 (oc Y (a + n)) wn jl jr sj
section SeekComb
variable {H : mu_H} {U V X : Ud} {m d P T R wn nf N a i0 into n sc : Nat} {C : Nat → Nat} {Y : Ts} {f od rx mb me : Nat → Nat} {es rs : Nat → Int32} {E Fr : Nat → Prop} {G Fs RB : Nat → Nat → Prop} {lv : Nat → Nat → Int32} {js : Nat → Option Nat} {RX : Ud → Prop} {F : Uf} {FS : Nat → Nat → Bool} {L4 L8 : Nat → Int64} {Φ : mu_R → Prop} {Q : Nat → Nat → Nat → Prop}
/-- the sets of the parts, and the one that is used again -/
theorem SKS.parts (hC : SKC Y es rs a N i0 into) (hS : SKS U Y a N i0 into T E Q n js sc) (hA : ASK Y a N n) (hall : ∀ k, bsn Y a N n ≤ k → k < tpz Y a n → ¬ js k = none) : ∃ jl jr sj ql qr qs, (js (bsn Y a N n) = some jl ∧ js (tpz Y a n - 1) = some jr ∧ sj = into + cna js (bsn Y a N n) ∧ sj = min jl jr) ∧ (jl < 248 ∧ jr < 248 ∧ sj < 248) ∧ (LSN U 161 jl ql 256 ∧ LSN U 161 jr qr 256 ∧ LSN U 161 sj qs 256) ∧ bsn Y a N n < tpz Y a n := by
  have hrm := hS.room hC
  have htw := hC.two hS.1 hA
  have hb : bsn Y a N n < tpz Y a n := by omega
  have h1 := hall (bsn Y a N n) (Nat.le_refl _) hb
  have h2 := hall (tpz Y a n - 1) (by omega) (by omega)
  cases hj1 : js (bsn Y a N n) with
  | none => exact absurd hj1 h1
  | some jl =>
    cases hj2 : js (tpz Y a n - 1) with
    | none => exact absurd hj2 h2
    | some jr =>
      have hm := hS.2.2.1.min htw hj1 hj2
      obtain ⟨ql, l1, -⟩ := hS.2.2.2.2.2 _ jl hb hj1
      obtain ⟨qr, l2, -⟩ := hS.2.2.2.2.2 _ jr (by omega) hj2
      have b1 := (hS.2.2.1.2.1 _ jl hb hj1).2
      have b2 := (hS.2.2.1.2.1 _ jr (by omega) hj2).2
      have hm2 : min jl jr = into + cna js (bsn Y a N n) := hm
      rcases Nat.le_total jl jr with y | y
      · have e : into + cna js (bsn Y a N n) = jl := by omega
        exact ⟨jl, jr, jl, ql, qr, ql, ⟨rfl, rfl, e.symm, by omega⟩, ⟨by omega, by omega, by omega⟩, ⟨l1, l2, l1⟩, hb⟩
      · have e : into + cna js (bsn Y a N n) = jr := by omega
        exact ⟨jl, jr, jr, ql, qr, qr, ⟨rfl, rfl, e.symm, by omega⟩, ⟨by omega, by omega, by omega⟩, ⟨l1, l2, l2⟩, hb⟩
/-- the sets below are others than the one that is used again -/
theorem SKS.below (hC : SKC Y es rs a N i0 into) (hS : SKS U Y a N i0 into T E Q n js sc) (k j : Nat) (hk : k < bsn Y a N n) (hj : js k = some j) : ¬ j = into + cna js (bsn Y a N n) := by
  have hb := bsn_le hC hS.1
  have h1 := hS.2.2.1.2.2.1 k j hk (by omega) hj
  have h2 := cna_lt hk (show ¬ js k = none from fun y => by rw [y] at hj; cases hj)
  omega
/-- no part without a set: findPart finds none -/
theorem sk_f0 (h : um m H) (e : ud m H = U) (hC : SKC Y es rs a N i0 into) {sg sc2 b : Nat} (hI : SKI U Y a N i0 into n js sc2 sg) (hn : n ≤ N) (hsc : sc2 ≤ 247) (hK : RSK m U Y P f od es) (hP : PLS U) (hjb : ∀ k, k < tpz Y a n → ∀ j, js k = some j → j < 2147483648) (hb : b ≤ tpz Y a n) (hall : ∀ k, b ≤ k → k < tpz Y a n → ¬ js k = none) (hC1 : 2 * (((Y 13).1 + 2) * 4) + 4 ≤ C 21) (hC2 : C 21 ≤ 8388608) : mu_TI (mu_D (d + 6)) 349 [.inr (.inr (some 158)), .inl (nI b)] H (fun x H1 => x = 0 ∧ H1 = H) := by
  have hbd := hC.bnd hn
  obtain ⟨⟨f1, f2, f3, f4, f5, f6, f7⟩, g1, g2⟩ := hI
  refine (pr_findPart (d := d) (C := C) (sz := tpz Y a n) (at0 := a + n) (st := fun k => a + spz Y a n k) (js := js) h e hK hP hC1 hC2 f5 hsc f1 (by omega) f3 hC.1.2.2 g1 (by omega) hb (fun k hk => (g2 k hk).2) hjb (fun k hk => ⟨(g2 k hk).1, ?_⟩) (fun k hk hj => ?_)).imp (fun x H1 y => ?_)
  · have := (spz_at hC.pln n hn k hk).1
    show a + spz Y a n k < 2147483648
    omega
  · obtain ⟨kd', hr⟩ := part_rg hC.1.1 hC.pln hn hk
    refine ⟨[kd'], epz Y a n k - spz Y a n k, rgs_of hr, ?_⟩
    rw [pen_epz]
    have := (epz_at hC.pln hn hk).1
    show a + epz Y a n k = a + spz Y a n k + (epz Y a n k - spz Y a n k)
    omega
  · rcases y with ⟨y1, -, y3⟩ | ⟨-, -, -, k, n2, q, W, W1, ⟨k1, k2⟩, hj, -⟩
    · exact ⟨y1, y3.symm⟩
    · exact absurd hj (hall k k1 k2)
/-- truths are joined: on to the next operator -/
theorem sk_t3 (h : um m H) (e : ud m H = U) (hC : SKC Y es rs a N i0 into) (hQd : Q = CTS Y G E Fr nf Fs lv a) (hS : SKS U Y a N i0 into T E Q n js sc) (hw : SKW U m RX T R wn rx mb me nf FS L4 L8 Y) (hW : WRL RX m od Y es P f into) (hl : n < N) (hA : ASK Y a N n) (hnt : ¬ tmd (oc Y (a + n))) (hall : ∀ k, bse Y a n ≤ k → k < tpz Y a n → ¬ js k = none) (hTw : T ≤ 64 * wn) (hC1 : 2 * (((Y 13).1 + 2) * 4) + 4 ≤ C 21) (hC2 : C 21 ≤ 8388608) (hC26 : 4 * (N + 2) + 2 ≤ C 26) (hC26b : C 26 ≤ 8388608) (hback : ∀ H3, um m H3 → ur m C H H3 → SKS (ud m H3) Y a N i0 into T E Q (n + 1) (upo js (bse Y a n) (some (into + cna js (bse Y a n)))) (into + cna js (bse Y a n) + 1) → SKW (ud m H3) m RX T R wn rx mb me nf FS L4 L8 Y → mu_W (mu_D (d + 8)) mu_m342 (8, [(0, .inr (.inr (some 158))), (1, .inr (.inr (some m)))], [], H3) Φ) : mu_W (mu_D (d + 8)) mu_m342 (8, [(0, .inr (.inr (some 158))), (1, .inr (.inr (some m)))], [], H) Φ := by
  have hbd := hC.bnd hS.1
  have hrm := hS.room hC
  have hb := bse_le hC.pln hl
  have hok := hC.ok hl
  have hbn := bsn_lt (Y := Y) (a := a) hl
  obtain ⟨jl, jr, sj, ql, qr, qs, ⟨p1, p2, p3, p4⟩, ⟨b1, b2, b3⟩, ⟨l1, l2, l3⟩, hlt⟩ := hS.parts hC hA (fun k k1 k2 => hall k (by omega) k2)
  rw [hbn] at p1 p3 hlt
  obtain ⟨w1, w2, w3, w4, ⟨w5, w6⟩, ⟨w7, w8⟩, w9, w10⟩ := id hw
  have hI := hS.2.1
  obtain ⟨⟨f1, f2, f3, f4, f5, f6, f7⟩, g1, g2⟩ := id hI
  have hTM : TMZ Y a (n + 1) (bse Y a n) := by
    rcases hA with y | ⟨-, y⟩
    · omega
    · exact tmz_new.mpr y
  have ho : 4 ≤ oc Y (a + n) ∧ oc Y (a + n) ≤ 9 := by
    rcases tm_op hC.pln hC.ev hC.1.2.1 hl (by omega) hTM with y | y
    · exact absurd y hnt
    · exact y
  have hwn : U.2.1 99 12 = nI wn ∧ wn ≤ 256 := ⟨w2.1.1.1, by have := w2.1.2.1; have := w2.1.2.2; omega⟩
  refine sk_t0 h e hC hI (fun k hk => hS.jb hC k hk) hS.2.2.2.1.1 w9 hl hA ?_
  refine sk_comb (C := C) (PV := fun _ => False) (PW := fun H1 => uq F350j U (ud m H1) ∧ GKQ 161 sj U (ud m H1) ∧ (ud m H1).2.2.2.2.1 148 = U.2.2.2.2.1 148 ∧ (ud m H1).2.2.2.2.1 162 = U.2.2.2.2.1 162 ∧ (ud m H1).2.1 158 4 = nI (sj + 1) ∧ (ud m H1).2.1 158 20 = U.2.1 158 20 ∧ ∀ i, i < wn → lgf (ud m H1) 161 sj i = jnw (oc Y (a + n)) (lgf U 161 jl i) (lgf U 161 jr i)) (jl := jl) (jr := jr) h e (fun _ y => False.elim y) f1 g1 (by omega) hlt (by rw [(g2 _ hlt).2, p1]; rfl) (by rw [(g2 _ (by omega)).2, p2]; rfl) (by omega) (by omega) p4 (by omega) (sk_f0 (d := d + 2) h e hC hI hS.1 (by omega) (hW.1 U w1) w4 (fun k hk => hS.jb hC k hk) (by omega) hall hC1 hC2) ((pr_comb1 (d := d + 2) (C := C) (to0 := a + N) h e g1 (by omega) hlt (by rw [(g2 _ hlt).2, p1]; rfl) (by rw [(g2 _ (by omega)).2, p2]; rfl) b1 b2 b3 l1 l2 l3 f1 hwn.1 hwn.2 hok.2.1 f2 (by omega) (by omega) ho).imp (fun x H1 y => ?_)) (by omega) hC26b (fun H2 H3 u2 r2 hPW u3 r3 d3 => ?_)
  · obtain ⟨y1, y2, y3, y4, y5, y6, y7, y8, y10, y9⟩ := y
    exact Or.inr ⟨y1, y2, y3, ⟨y4, y5, y6, y7, y8, y10, y9⟩, y4.t 26 rfl, (y4.i 158 16 rfl).trans f1⟩
  · obtain ⟨y4, y5, y6, y7, y8, y10, y9⟩ := hPW
    have hSKW2 : SKW (ud m H2) m RX T R wn rx mb me nf FS L4 L8 Y := SKW.keep hW hw y4 rfl rfl rfl rfl rfl rfl rfl rfl rfl rfl rfl rfl rfl (fun _ => rfl) (fun _ => rfl) y5 (by decide) (fun _ => by omega) y6
    have hls : LSN (ud m H2) 161 sj qs 256 := l3.gk y4 (fun _ => rfl) (fun _ => rfl) y5
    rw [p3] at d3 y5 y8 y9 hls
    refine hback H3 u3 r3 ?_ (by rw [d3]; exact hSKW2.skb hW)
    rw [d3]
    refine hS.join hC hl hA (fun k s hk => by rw [hQd]; exact cts_old (by omega)) (y4.t 26 rfl) (y4.i 158 17 rfl) (y4.i 158 18 rfl) (y4.i 158 19 rfl) (y4.i 158 14 rfl) y8 ?_ (fun k j hk hj q y => ?_) ⟨qs, hls, fun s s1 s2 => ?_⟩
    · exact y10.trans f6
    · have hne := hS.below hC k j (by omega) hj
      rw [hbn] at hne
      exact ⟨y.gk y4 (fun _ => rfl) (fun _ => rfl) y5, lgf_ne y5 ⟨by decide, fun z => hne z.2⟩⟩
    · rw [hQd, cts_new hTM]
      obtain ⟨q1, -, c1⟩ := hS.2.2.2.2.2 _ jl hlt p1
      obtain ⟨q2, -, c2⟩ := hS.2.2.2.2.2 _ jr (show tpz Y a n - 1 < tpz Y a n by omega) p2
      rw [hQd] at c1 c2
      have hm : s % 64 < 64 := Nat.mod_lt _ (by decide)
      have := jnw_bit (G := G) (E := E) (Fr := Fr) (nf := nf) (Fs := Fs) hm ho (c1 s s1 s2) (c2 s s1 s2)
      rw [← this]
      unfold bts
      rw [y9 (s / 64) (by omega)]
end SeekComb
