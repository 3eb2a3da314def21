/-! FROM READY TO DRIVE: rows, FAIRNESS, what the first drive stands on -/
def EVS (Y : Ts) (U : Ud) (f : Nat → Nat) (P : Nat) (od : Nat → Nat) (s : Nat) : Prop := s < pd f 0 P ∧ EVR Y U f P od s
def INS (Y : Ts) (U : Ud) (f : Nat → Nat) (P : Nat) (od : Nat → Nat) (s : Nat) : Prop := s < pd f 0 P ∧ INR Y U f P od s ∧ EVR Y U f P od s
def GOS (Y : Ts) (U Xt : Ud) (f : Nat → Nat) (P : Nat) (od : Nat → Nat) (s t : Nat) : Prop := EVS Y U f P od s ∧ EVS Y U f P od t ∧ GOR Y Xt f P od s t
section ReadyFirst
variable {U V : Ud} {m P fb nf nw nb NN us q : Nat} {Y : Ts} {f od bs lv lc wa wn wi cl ro z : Nat → Nat} {es : Nat → Int32} {nm tm : Nat → Int32} {wk p : Nat → Bool} {S S' : Nat → Nat → Bool} {bo oid : Nat → Nat → Nat} {Gr : Nat → Nat → Prop} {al : Nat → Prop}
/-- sets that are not there do not matter -/
theorem RDX.trim (h : RDX V m od Y es P f fb q Gr NN us S z p nf nm tm bs lv lc oid nw wa wn wi wk nb bo cl al ro) (hold : ∀ j, j < NN → S' j = S j) : RDX V m od Y es P f fb q Gr NN us S' z p nf nm tm bs lv lc oid nw wa wn wi wk nb bo cl al ro := by
  obtain ⟨⟨⟨a1, a2, a3, a4, a5, ⟨hF1, hF2⟩, ⟨s1, s2, s3, s4, s5, s6, s7⟩, b3, b4, b5, ⟨b6, b7, b8⟩, b9⟩, a7⟩, ⟨c1, c2, c3, c4, c5⟩, d1, ⟨d2, d3⟩, ⟨d4, d5⟩, d6, d7, d8⟩ := h
  have e : ∀ s t, (MNB Y V P f od S' nf nm tm oid nw wa wn wi wk nb bo s t ↔ MNB Y V P f od S nf nm tm oid nw wa wn wi wk nb bo s t) := fun s t => mnb_to (U := V) (V := V) ⟨hF1, hF2⟩ a1.2.1 b7 hold rfl rfl rfl
  refine ⟨⟨⟨a1, a2, a3, a4, a5, ⟨hF1, fun x hx => ?_⟩, ⟨s1, s2, s3, s4, fun id hid hp => ?_, s6, fun id hid => ?_⟩, b3, b4, b5, ⟨b6, b7, b8⟩, b9⟩, a7⟩, ⟨c1, c2, c3, c4, by rw [hold fb c2]; exact c5⟩, d1, ⟨d2, fun s s' k1 k2 k3 t k4 => by rw [e, e]; exact d3 s s' k1 k2 k3 t k4⟩, ⟨d4, fun s t k1 k2 => by rw [e]; exact d5 s t k1 k2⟩, fun s hs => ?_, d7, d8⟩
  · obtain ⟨x1, x2, x3, x4⟩ := hF2 x hx
    refine ⟨x1, x2, x3, fun c hc => ?_⟩
    obtain ⟨y1, y2, y3, y4⟩ := x4 c hc
    exact ⟨y1, y2, y3, by rw [hold _ y2]; exact y4⟩
  · rw [hold id hid]; exact s5 id hid hp
  · rw [hold id hid]; exact s7 id hid
  · obtain ⟨x1, x2, x3⟩ := d6 s hs
    exact ⟨x1, x2, by rw [hold _ x2]; exact x3⟩
theorem bts_ev {L : Nat → Int64} {A : Nat → Prop} {T s : Nat} (h : BTS L T A) (hs : s < T) : bts L s = true ↔ A s := (h s (by omega)).trans ⟨fun y => y.2, fun y => ⟨hs, y⟩⟩
/-- behind ready -/
theorem rd_first {wd : Nat} (hwd : wd = (pd f 0 P + 63) / 64) (hpost : uq F383 U V ∧ ∃ (Xt Xr XV : Ud) (N N5 : Nat) (ro5 : Nat → Nat) (GX : Nat → Nat → Prop), (GX = fun s u => EVR Y U f P od s ∧ GOR Y Xt f P od s u) ∧ (∃ nf nm tm bs lv oid nw wa wn wi wk nb bo cl A GW O1, (∀ s u, s < pd f 0 P → u < pd f 0 P → (GW s u ↔ GX s u)) ∧ (∃ us S z p, (∀ j, j < N → (S j, p j) = O1 j) ∧ RDX Xr m od Y es P f N (pd f 0 P) GW N5 us S z p nf nm tm bs lv (lcz tm lv P) oid nw wa wn wi wk nb bo cl A ro5) ∧ FRO Xr m U Y P f od es N O1) ∧ (uq F337 Xr XV ∧ uq F364 XV V) ∧ (7 * (pd f 0 P + 4) ≤ (XV.2.2.1 147 10).1 ∧ lwh 7 (XV.2.2.1 147 10).1 ∧ 1 * (pd f 0 P + 4) ≤ (XV.2.2.1 147 11).1 ∧ lwh 1 (XV.2.2.1 147 11).1 ∧ 1 * (pd f 0 P + 4) ≤ (XV.2.2.1 147 12).1 ∧ lwh 1 (XV.2.2.1 147 12).1 ∧ 1 * (pd f 0 P + 4) ≤ (XV.2.2.1 147 13).1 ∧ lwh 1 (XV.2.2.1 147 13).1) ∧ ((∀ r, r < N5 - N + 1 → (XV.2.2.1 147 10).2 (r * 7 + 0) = nI (pzz ro5 r (pd f 0 P))) ∧ ∀ s, s < pd f 0 P → (XV.2.2.1 147 11).2 (psz ro5 (pd f 0 P) s) = nI s) ∧ (V.2.1 147 14 = 0 ∧ V.2.1 147 19 = -1 ∧ V.2.2.2.1 147 8 = none ∧ V.2.1 158 14 = 1) ∧ (∀ i, i < ((pd f 0 P + 63) / 64) → V.2.2.2.2.1 150 i = XV.2.2.2.2.1 124 i &&& (XV.2.2.2.2.1 125 i ^^^ (-1 : Int64))) ∧ ∃ (X : Ud) (tl : Nat) (qu : Nat → Nat) (hh : Nat), X.2.2.2.2.1 150 = V.2.2.2.2.1 150 ∧ (∀ s, s < (pd f 0 P) → (bts (X.2.2.2.2.1 149) s = true ↔ bts (XV.2.2.2.2.1 125) s = true)) ∧ (∀ r, r < (N5 - N) → (X.2.2.1 147 10).2 (r * 7 + 1) = 0) ∧ (∀ j, ¬ j % 7 = 1 → (X.2.2.1 147 10).2 j = (XV.2.2.1 147 10).2 j) ∧ V.2.1 147 18 = nI tl ∧ tl ≤ (pd f 0 P) ∧ (∀ i, i < tl → (V.2.2.1 147 12).2 i = nI (qu i) ∧ qu i < (pd f 0 P) ∧ bts (XV.2.2.2.2.1 125) (qu i) = true) ∧ (∀ x, x < (pd f 0 P) → bts (XV.2.2.2.2.1 125) x = true → ∃ i, i < tl ∧ qu i = x) ∧ (∀ i j, i < j → j < tl → qu i < qu j) ∧ hh ≤ tl ∧ V.2.1 147 17 = nI hh ∧ (∃ c, V.2.1 147 16 = nI c ∧ c ≤ ((pd f 0 P + 63) / 64) ∧ ∀ i, i < c → V.2.2.2.2.1 150 i = 0) ∧ OPW X V (fun _ => 0) ro5 qu 0 hh ∧ (V.2.1 147 15 = -1 → hh = tl ∨ ∀ i, i < ((pd f 0 P + 63) / 64) → V.2.2.2.2.1 150 i = 0) ∧ (V.2.1 147 15 = -1 → ∀ s, s < 16384 → (bts (V.2.2.2.2.1 149) s = true ↔ bts (X.2.2.2.2.1 149) s = true ∨ ∃ i, i < tl ∧ qu i = s)) ∧ (¬ V.2.1 147 15 = -1 → V.2.2.2.2.1 149 = X.2.2.2.2.1 149)) : ∃ (Xt : Ud) (fb NN us : Nat) (S : Nat → Nat → Bool) (z : Nat → Nat) (p : Nat → Bool) (nf : Nat) (nm tm : Nat → Int32) (bs lv lc : Nat → Nat) (oid : Nat → Nat → Nat) (nw : Nat) (wa wn wi : Nat → Nat) (wk : Nat → Bool) (nb : Nat) (bo : Nat → Nat → Nat) (cl : Nat → Nat) (al : Nat → Prop) (ro : Nat → Nat) (Gr : Nat → Nat → Prop) (me : Nat → Nat) (kN : Nat) (FS : Nat → Nat → Bool), (RDX V m od Y es P f fb (pd f 0 P) Gr NN us S z p nf nm tm bs lv lc oid nw wa wn wi wk nb bo cl al ro ∧ GRB V (pd f 0 P) (NN - fb) wd ro (fun r => pzz ro r (pd f 0 P)) me ∧ BFK V (EVS Y U f P od) (INS Y U f P od) (GOS Y U Xt f P od) ro (pd f 0 P) (NN - fb) wd (pd f 0 P + 1) ∧ FST V kN (pd f 0 P) FS) ∧ ((∀ r, ¬ r = 0 → r < NN - fb → ∃ s, s < pd f 0 P ∧ ro s = r) ∧ (∀ r x, S (fb + r) x = true → x < pd f 0 P) ∧ (∀ s t, s < pd f 0 P → (GOS Y U Xt f P od s t ↔ S (fb + ro s) t = true)) ∧ ∀ s, s < pd f 0 P → ro s < NN - fb) ∧ (BTS (V.2.2.2.2.1 124) (pd f 0 P) (EVR Y U f P od) ∧ BTS (V.2.2.2.2.1 125) (pd f 0 P) (fun s => INR Y U f P od s ∧ EVR Y U f P od s)) ∧ V.2.1 158 14 = 1 ∧ (∀ fr, fr < (Y 16).1 → ∃ id, id < kN ∧ (V.1 16).2 fr 3 = nI id ∧ ∀ s, FS id s = true ↔ (s < pd f 0 P ∧ EVR Y U f P od s ∧ FRv Y U f P od fr s)) ∧ ∀ id, id < kN → ∃ fr, fr < (Y 16).1 ∧ (V.1 16).2 fr 3 = nI id := by
  obtain ⟨hq, Xt, Xr, XV, N, N5, ro5, GX, hGX, ⟨nf, nm, tm, bs, lv, oid, nw, wa, wn, wi, wk, nb, bo, cl, A, GW, O1, hGW, ⟨us, S, z, p, hO1, hR0⟩, kN, Xk, kS, kp, hKN, ⟨f19, f16, f124, f125⟩, hkN, hO, hfr, hid⟩, ⟨q1, q2⟩, hl, ⟨m1, m2⟩, ⟨i14, i19, igo, itk⟩, h150, X, tl, qu, hh, x150, x149, x0, x7, i18, htl, hqu, hqa, hqr, hhh, i17, hc, hOP, hen, he1, he2⟩ := hpost
  obtain ⟨k1, k2, k3, ⟨k4, k5⟩, k6⟩ := hKN
  have hT : pd f 0 P ≤ 16384 := hR0.1.1.1.1.2.2.2.1.2.1
  have hR := hR0.trim (S' := fun j x => decide (j < N5) && S j x) (fun j hj => funext fun x => by rw [decide_eq_true hj, Bool.true_and])
  have l4 : V.2.2.2.2.1 124 = XV.2.2.2.2.1 124 := q2.l 124 rfl
  have b4 : BTS (XV.2.2.2.2.1 124) (pd f 0 P) (EVR Y U f P od) := by rw [q1.l 124 rfl, f124]; exact k4
  have b5 : BTS (XV.2.2.2.2.1 125) (pd f 0 P) (fun s => INR Y U f P od s ∧ EVR Y U f P od s) := by rw [q1.l 125 rfl, f125]; exact k5
  have hb64 : ∀ s, s < 64 * wd → s / 64 < (pd f 0 P + 63) / 64 := fun s hs => by omega
  obtain ⟨hRV, ⟨me, hG⟩, hB⟩ := rd_start (wd := wd) (X := X) hR q1 q2 hwd hl m1 m2 i14 igo (by rw [hwd]; exact h150) (fun s hs y => ((b4 s (hb64 s hs)).mp y).1) (fun s hs y => ((b5 s (hb64 s hs)).mp y).1) x149 x0 x7 i18 hqu hqa hqr hhh i17 (by rw [hwd]; exact hc) hOP (by rw [hwd]; exact hen) he1 he2
  have hrow := hRV.2.2.2.2.2.1
  have hfb := hRV.2.1.2.1
  have hrow2 : ∀ s t, s < pd f 0 P → ((decide (N + ro5 s < N5) && S (N + ro5 s) t) = true ↔ GOS Y U Xt f P od s t) := fun s t hs => by
    rw [(hrow s hs).2.2 t, l4]
    constructor
    · rintro ⟨y1, y2, y3⟩
      have y4 := (hGW s t hs y1).mp y3
      rw [hGX] at y4
      exact ⟨⟨hs, y4.1⟩, ⟨y1, (bts_ev b4 y1).mp y2⟩, y4.2⟩
    · rintro ⟨⟨-, y1⟩, ⟨y2, y3⟩, y4⟩
      refine ⟨y2, (bts_ev b4 y2).mpr y3, (hGW s t hs y2).mpr ?_⟩
      rw [hGX]
      exact ⟨y1, y4⟩
  have eE : (fun s => s < pd f 0 P ∧ bts (XV.2.2.2.2.1 124) s = true) = EVS Y U f P od := funext fun s => propext (and_congr_right fun hs => bts_ev b4 hs)
  have eI : (fun s => s < pd f 0 P ∧ bts (XV.2.2.2.2.1 125) s = true) = INS Y U f P od := funext fun s => propext (and_congr_right fun hs => bts_ev b5 hs)
  have eG : (fun s t => s < pd f 0 P ∧ (decide (N + ro5 s < N5) && S (N + ro5 s) t) = true) = GOS Y U Xt f P od := funext fun s => funext fun t => propext ⟨fun y => (hrow2 s t y.1).mp y.2, fun y => ⟨y.1.1, (hrow2 s t y.1.1).mpr y⟩⟩
  rw [eE, eI, eG] at hB
  have hSO := hRV.1.1.2.2.2.2.2.2.1
  have hfair : ∀ id, id < kN → p id = true ∧ (fun x => decide (id < N5) && S id x) = kS id ∧ ∀ x, kS id x = true → x < pd f 0 P := fun id h => by
    obtain ⟨fr, y1, y2⟩ := hid id h
    obtain ⟨id', z1, z2, z3, z4⟩ := hfr fr y1
    have hN5 := hSO.1.2.2.2
    have e : id' = id := by
      rw [y2] at z2
      exact (nI_inj (by omega) (by omega) z2).symm
    subst e
    have eo := (hO1 id' (by omega)).trans (hO id' h)
    refine ⟨(congrArg Prod.snd eo).trans z3, ?_, fun x hx => ((z4 x).mp hx).1⟩
    rw [← show S id' = kS id' from congrArg Prod.fst eo]
    funext x
    rw [decide_eq_true (show id' < N5 by omega), Bool.true_and]
  refine ⟨Xt, N, N5, us, (fun j x => decide (j < N5) && S j x), z, p, nf, nm, tm, bs, lv, lcz tm lv P, oid, nw, wa, wn, wi, wk, nb, bo, cl, A, ro5, GW, me, kN, kS, ⟨hRV, hG, hB, ⟨(q2.i 99 19 rfl).trans ((q1.i 99 19 rfl).trans f19), ?_⟩, fun id h => ?_⟩, ⟨fun r r0 r1 => hRV.2.2.2.2.2.2.2.2.2 r r0 (by omega), fun r x y => ?_, fun s t hs => (hrow2 s t hs).symm, fun s hs => by have := (hrow s hs).2.1; omega⟩, ⟨by rw [l4]; exact b4, by rw [q2.l 125 rfl]; exact b5⟩, itk, fun fr h => ?_, fun id h => ?_⟩
  · have := hSO.1.2.2.2
    omega
  · obtain ⟨y1, y2, y3⟩ := hfair id h
    obtain ⟨st, fc, w1, w2, -⟩ := hSO.2.2.2.2.1 id (by omega) y1
    rw [show (fun j x => decide (j < N5) && S j x) id = kS id from y2] at w2
    exact ⟨⟨st, fc, w1, w2⟩, y3⟩
  · by_cases hr : N + r < N5
    · by_cases r0 : r = 0
      · subst r0
        exact absurd y (hRV.2.1.2.2.2.2 x)
      · obtain ⟨s, y1, y2⟩ := hRV.2.2.2.2.2.2.2.2.2 r r0 hr
        rw [← y2] at y
        exact (((hrow s y1).2.2 x).mp y).1
    · have y : (decide (N + r < N5) && S (N + r) x) = true := y
      rw [decide_eq_false hr, Bool.false_and] at y
      cases y
  · obtain ⟨id, y1, y2, -, y4⟩ := hfr fr h
    exact ⟨id, y1, by rw [q2.t 16 rfl, q1.t 16 rfl, f16]; exact y2, y4⟩
  · obtain ⟨fr, y1, y2⟩ := hid id h
    exact ⟨fr, y1, by rw [q2.t 16 rfl, q1.t 16 rfl, f16]; exact y2⟩
end ReadyFirst
