/-! THE RELATION WHILE IT IS MADE: what it means so far; pieces -/
/-- the packet as it lies: cnt rows at most, G: what is left of a step by a branch -/
def RLO (V : Ud) (Y : Ts) (es : Nat → Int32) (P : Nat) (f od : Nat → Nat) (N0 : Nat) (O0 : Nat → (Nat → Bool) × Bool) (sf : Nat) (nb : Nat) (bo : Nat → Nat → Nat) (br : Option Nat) (ba bn bi : Nat) (A : Nat → Prop) (N us : Nat) (S : Nat → Nat → Bool) (z : Nat → Nat) (p : Nat → Bool) (nf : Nat) (nm tm : Nat → Int32) (bs lv : Nat → Nat) (oid : Nat → Nat → Nat) (nw : Nat) (wa wn wi : Nat → Nat) (wk : Nat → Bool) (ou : Nat) (cnt : Nat) (G : Nat → Nat → Nat → Prop) : Prop := RST V Y es P f N0 O0 sf nb bo br ba bn bi N us S z p nf nm tm bs lv oid nw wa wn wi wk ou ∧ nf + nw ≤ cnt ∧ BTS (V.2.2.2.2.1 145) (pd f 0 P) A ∧ ∀ b s t, b < nb → s < pd f 0 P → t < pd f 0 P → ((A s ∧ LVB Y V P f od S nf nm tm oid nw wa wn wi wk nb bo br b s t) ↔ G b s t)
def RLG (V : Ud) (Y : Ts) (es : Nat → Int32) (P : Nat) (f od : Nat → Nat) (N0 : Nat) (O0 : Nat → (Nat → Bool) × Bool) (sf : Nat) (nb : Nat) (bo : Nat → Nat → Nat) (br : Option Nat) (ba bn bi : Nat) (cnt : Nat) (G : Nat → Nat → Nat → Prop) : Prop := ∃ A N us S z p nf nm tm bs lv oid nw wa wn wi wk ou, RLO V Y es P f od N0 O0 sf nb bo br ba bn bi A N us S z p nf nm tm bs lv oid nw wa wn wi wk ou cnt G
section Sofar
variable {O0 : Nat → (Nat → Bool) × Bool} {U V : Ud} {m P N0 sf nb ba bn bi N us nf nw ou cnt cnt' a n i k r : Nat} {Y : Ts} {f od bs lv wa wn wi z : Nat → Nat} {wk : Nat → Bool} {es rs : Nat → Int32} {nm tm : Nat → Int32} {al : Int32} {bo oid : Nat → Nat → Nat} {S : Nat → Nat → Bool} {p : Nat → Bool} {br : Option Nat} {F : Uf} {A : Nat → Prop} {G G' : Nat → Nat → Nat → Prop} {X : Nat → Nat → Prop} {t14 : Tb}
theorem RLO.eq (h : RLO U Y es P f od N0 O0 sf nb bo br ba bn bi A N us S z p nf nm tm bs lv oid nw wa wn wi wk ou cnt G) (e15 : V.1 15 = U.1 15) (e24 : V.1 24 = U.1 24) (e25 : V.1 25 = U.1 25) (e27 : V.1 27 = U.1 27) (i5 : V.2.1 129 5 = U.2.1 129 5) (j1 : V.2.1 113 1 = U.2.1 113 1) (j2 : V.2.1 113 2 = U.2.1 113 2) (j5 : V.2.1 113 5 = U.2.1 113 5) (j7 : V.2.1 113 7 = U.2.1 113 7) (a4 : V.2.2.1 129 4 = U.2.2.1 129 4) (a3 : V.2.2.1 113 3 = U.2.2.1 113 3) (a13 : V.2.2.1 113 4 = U.2.2.1 113 4) (a8 : V.2.2.1 99 8 = U.2.2.1 99 8) (ep : V.2.2.2.2.2 114 = U.2.2.2.2.2 114) (l5 : V.2.2.2.2.1 145 = U.2.2.2.2.1 145) : RLO V Y es P f od N0 O0 sf nb bo br ba bn bi A N us S z p nf nm tm bs lv oid nw wa wn wi wk ou cnt G := by
  obtain ⟨h1, h2, h3, h4⟩ := h
  exact ⟨h1.eq e15 e24 e25 e27 i5 j1 j2 j5 j7 a4 a3 a13 ep, h2, by rw [l5]; exact h3, fun b s t hb hs ht => (and_congr Iff.rfl (LVB.eq e25 e15 a8)).trans (h4 b s t hb hs ht)⟩
theorem RLO.q (h : RLO U Y es P f od N0 O0 sf nb bo br ba bn bi A N us S z p nf nm tm bs lv oid nw wa wn wi wk ou cnt G) (hq : uq F U V) (hF : rok F = true) (h145 : in1 F.l 145 = false) : RLO V Y es P f od N0 O0 sf nb bo br ba bn bi A N us S z p nf nm tm bs lv oid nw wa wn wi wk ou cnt G := by
  obtain ⟨⟨e15, e24, e25, e27⟩, ⟨i5, j1, j2, j5, j7⟩, ⟨a4, a3, a13, a8⟩, ep⟩ := rok_eq hq hF
  exact h.eq e15 e24 e25 e27 i5 j1 j2 j5 j7 a4 a3 a13 a8 ep (hq.l 145 h145)
theorem RLG.q (h : RLG U Y es P f od N0 O0 sf nb bo br ba bn bi cnt G) (hq : uq F U V) (hF : rok F = true) (h145 : in1 F.l 145 = false) : RLG V Y es P f od N0 O0 sf nb bo br ba bn bi cnt G := by
  obtain ⟨A, N, us, S, z, p, nf, nm, tm, bs, lv, oid, nw, wa, wn, wi, wk, ou, y⟩ := h
  exact ⟨A, N, us, S, z, p, nf, nm, tm, bs, lv, oid, nw, wa, wn, wi, wk, ou, y.q hq hF h145⟩
theorem RLG.mono (h : RLG V Y es P f od N0 O0 sf nb bo br ba bn bi cnt G) (hc : cnt ≤ cnt') (hG : ∀ b s t, b < nb → s < pd f 0 P → t < pd f 0 P → (G b s t ↔ G' b s t)) : RLG V Y es P f od N0 O0 sf nb bo br ba bn bi cnt' G' := by
  obtain ⟨A, N, us, S, z, p, nf, nm, tm, bs, lv, oid, nw, wa, wn, wi, wk, ou, h1, h2, h3, h4⟩ := h
  exact ⟨A, N, us, S, z, p, nf, nm, tm, bs, lv, oid, nw, wa, wn, wi, wk, ou, h1, by omega, h3, fun b s t hb hs ht => (h4 b s t hb hs ht).trans (hG b s t hb hs ht)⟩
/-- a row more, a table again -/
theorem RLO.step (h : RLO U Y es P f od N0 O0 sf nb bo br ba bn bi A N us S z p nf nm tm bs lv oid nw wa wn wi wk ou cnt G) (l5 : V.2.2.2.2.1 145 = U.2.2.2.2.1 145) (hr : ∃ N' us' S' z' p' nf' nm' tm' bs' lv' oid' nw' wa' wn' wi' wk' ou', RST V Y es P f N0 O0 sf nb bo br ba bn bi N' us' S' z' p' nf' nm' tm' bs' lv' oid' nw' wa' wn' wi' wk' ou' ∧ nf' + nw' ≤ nf + nw + 1 ∧ ∀ b s t, b < nb → s < pd f 0 P → t < pd f 0 P → (LVB Y V P f od S' nf' nm' tm' oid' nw' wa' wn' wi' wk' nb bo br b s t ↔ LVB Y U P f od S nf nm tm oid nw wa wn wi wk nb bo br b s t ∧ (b + 1 = nb → X s t))) : RLG V Y es P f od N0 O0 sf nb bo br ba bn bi (cnt + 1) (fun b s t => G b s t ∧ (b + 1 = nb → X s t)) := by
  obtain ⟨h1, h2, h3, h4⟩ := h
  obtain ⟨N', us', S', z', p', nf', nm', tm', bs', lv', oid', nw', wa', wn', wi', wk', ou', g1, g2, g3⟩ := hr
  refine ⟨A, N', us', S', z', p', nf', nm', tm', bs', lv', oid', nw', wa', wn', wi', wk', ou', g1, by omega, by rw [l5]; exact h3, fun b s t hb hs ht => ?_⟩
  show _ ↔ G b s t ∧ (b + 1 = nb → X s t)
  rw [g3 b s t hb hs ht, ← h4 b s t hb hs ht]
  exact ⟨fun ⟨y1, y2, y3⟩ => ⟨⟨y1, y2⟩, y3⟩, fun ⟨⟨y1, y2⟩, y3⟩ => ⟨y1, y2, y3⟩⟩
/-- STATES from which one cannot GO -/
theorem RLG.alive {B : Nat → Prop} (h : RLG U Y es P f od N0 O0 sf nb bo br ba bn bi cnt G) (hB : ∀ s, s < pd f 0 P → (bts (U.2.2.2.2.1 126) s = true ↔ B s)) : RLG (upM U 145 0 (fun i => (U.2.2.2.2.1 145 i &&& U.2.2.2.2.1 126 i)) ((pd f 0 P + 63) / 64)) Y es P f od N0 O0 sf nb bo br ba bn bi cnt (fun b s t => G b s t ∧ B s) := by
  obtain ⟨A, N, us, S, z, p, nf, nm, tm, bs, lv, oid, nw, wa, wn, wi, wk, ou, h1, h2, h3, h4⟩ := h
  refine ⟨fun s => A s ∧ B s, N, us, S, z, p, nf, nm, tm, bs, lv, oid, nw, wa, wn, wi, wk, ou, h1.eq rfl rfl rfl rfl rfl rfl rfl rfl rfl rfl rfl rfl rfl, h2, (h3.and hB).to (fun i hi => ?_), fun b s t hb hs ht => ?_⟩
  · show (if 145 = 145 ∧ 0 ≤ i ∧ i < 0 + (pd f 0 P + 63) / 64 then U.2.2.2.2.1 145 (i - 0) &&& U.2.2.2.2.1 126 (i - 0) else U.2.2.2.2.1 145 i) = _
    rw [if_pos ⟨rfl, Nat.zero_le _, by omega⟩]
    rfl
  · show (A s ∧ B s) ∧ _ ↔ G b s t ∧ B s
    rw [← h4 b s t hb hs ht, LVB.eq (U := U) rfl rfl rfl]
    exact ⟨fun ⟨⟨y1, y2⟩, y3⟩ => ⟨⟨y1, y3⟩, y2⟩, fun ⟨⟨y1, y3⟩, y2⟩ => ⟨⟨y1, y2⟩, y3⟩⟩

theorem vso_9 (v : Nat) : ¬ vso Y v = 9 := by
  unfold vso
  by_cases h1 : (Y 3).2 v 1 = 0
  · rw [if_pos h1]
    decide
  · rw [if_neg h1]
    by_cases h2 : (Y 3).2 v 1 = 2 ∧ ¬ tget (Y 4) ((Y 3).2 v 2) 1 = 0
    · rw [if_pos h2]
      decide
    · rw [if_neg h2]
      decide
theorem stk_no9 {N : Nat} (hs : SRT Y es i al a rs N) (hal : ¬ al = 2) (hpl : ∀ n, n < N → plen (oc Y (a + n)) (oa Y (a + n)) ≤ tpz Y a n) (hE : ∀ n e, n < N → (oc Y (a + n) = 2 ∨ oc Y (a + n) = 3) → ((Y 9).2 (oa Y (a + n)) 2 = 1 ∨ (Y 9).2 (oa Y (a + n)) 2 = 2) → e < (Y 13).1 → rch Y (oa Y (a + n)) i = nI e → ¬ es e = 9) : ∀ n, n ≤ N → ∀ q, q < tpz Y a n → ¬ stk Y rs a n q = 9
  | 0, _, q, hq => absurd hq (Nat.not_lt_zero q)
  | n + 1, hn, q, hq => by
    have ih := stk_no9 hs hal hpl hE n (by omega)
    have hp := hpl n (by omega)
    rw [tpz_s] at hq
    show ¬ (if q = tpz Y a n - plen (oc Y (a + n)) (oa Y (a + n)) then rs n else stk Y rs a n q) = 9
    by_cases hq2 : q = tpz Y a n - plen (oc Y (a + n)) (oa Y (a + n))
    · rw [if_pos hq2]
      obtain ⟨-, g1, g2⟩ := hs n (by omega)
      by_cases h0 : plen (oc Y (a + n)) (oa Y (a + n)) = 0
      · rcases g1 h0 with ⟨-, y⟩ | ⟨-, y⟩ | ⟨y1, -, y2⟩
        · rw [y]
          decide
        · rw [y]
          decide
        · rcases y2 with ⟨-, y⟩ | ⟨-, w, v, -, -, -, -, y⟩ | ⟨y3, e, e1, e2, e3⟩
          · rw [y]
            decide
          · rw [y]
            exact vso_9 v
          · rw [e3]
            exact hE n e (by omega) y1 y3 e1 e2
      · rcases g2 (by omega) with ⟨-, y, -⟩ | ⟨-, -, y⟩ | ⟨-, y, -⟩ | ⟨-, -, -, y⟩ | ⟨-, y, -, y3⟩ | ⟨-, -, y⟩
        · exact absurd y hal
        · rcases y with ⟨y, -⟩ | ⟨-, q', q1, q2, q3⟩
          · rw [y]
            decide
          · exact absurd q3 (ih q' (by omega))
        · exact y
        · rw [y]
          decide
        · rw [y3]
          exact y
        · rw [y]
          by_cases c : 22 ≤ oc Y (a + n)
          · rw [if_pos c]
            decide
          · rw [if_neg c]
            decide
    · rw [if_neg hq2]
      exact ih q (by omega)
theorem es_no9 (hW : JW Y) (hT : TOP Y t14 od) (hY : TYP Y es) : ∀ e, e < (Y 13).1 → ¬ es e = 9 := by
  have key : ∀ k, k < (Y 13).1 → ¬ es (od k) = 9 := by
    intro k
    induction k using Nat.strongRecOn with
    | ind k ih =>
      intro hk
      have hod := (hT.1.2.1 k hk).2
      obtain ⟨rs, s1, s2, -⟩ := hY.1 (od k) hod
      obtain ⟨g1, g2, g3, g4, g5⟩ := en_ok hW hod
      have b0 := hW.2.2.2.2.2.2 0 (by decide)
      have t1 : tpz Y (enx Y (od k) 0) (elx Y (od k)) = 1 := by
        have y := rg_1 g5
        rw [Nat.add_sub_cancel_left] at y
        exact y
      have hlx : enx Y (od k) 0 + elx Y (od k) = enx Y (od k) 1 := by
        have y : enx Y (od k) 1 = enx Y (od k) 0 + elx Y (od k) := by
          show ((Y 13).2 (od k) 1).toNatClampNeg = _
          rw [g2]
          exact nI_clamp (by have := g5.2.1; omega)
        exact y.symm
      rw [s2]
      refine stk_no9 s1 (by decide) (rg_pl g5) (fun n e hn ho hkd he hr => ?_) _ (Nat.le_refl _) 0 (by omega)
      have hoc := oc_w hW (q := enx Y (od k) 0 + n) (by have := g5.2.1; omega)
      obtain ⟨k', k1, k2⟩ := hT.2 k hk (enx Y (od k) 0 + n) e ⟨by omega, by omega, he, by
        unfold nmd
        rw [if_pos ⟨by rw [hoc]; rcases ho with y | y <;> rw [y]; exact Or.inl rfl; exact Or.inr rfl, hkd⟩]
        exact hr⟩
      rw [← k2]
      exact ih k' k1 (by omega)
  intro e he
  obtain ⟨k, k1, k2⟩ := hT.1.2.2.2 e he
  rw [← k2]
  exact key k k1
/-- a truth of a TRANS -/
theorem wtc_of (hW : JW Y) (hT : TOP Y t14 od) (hY : TYP Y es) (hr : rg Y (im Y i) false a (a + n)) (hs : SRT Y es i 1 a rs n) (hst : stk Y rs a n 0 = 1 ∨ stk Y rs a n 0 = 9) : WTC Y es a n i := by
  refine ⟨hr, rs, hs, hst.resolve_right ?_⟩
  have t1 : tpz Y a n = 1 := by
    have y := rg_1 hr
    rw [Nat.add_sub_cancel_left] at y
    exact y
  exact stk_no9 hs (by decide) (rg_pl hr) (fun n e _ _ _ he _ => es_no9 hW hT hY e he) n (Nat.le_refl _) 0 (by omega)
theorem WTC.pos (h : WTC Y es a n i) : ¬ n = 0 := fun e => by
  have y := rg_1 h.1
  rw [Nat.add_sub_cancel_left, e] at y
  exact absurd y (by show ¬ 0 = 1; decide)
end Sofar
/-- a piece: a truth, or empty -/
def PCT (Y : Ts) (es : Nat → Int32) (t : Tb) (r : Nat) : Prop := (t.2 r 0 = nI (rwa t r) ∧ t.2 r 1 = nI (rwa t r + rwn t r) ∧ t.2 r 2 = nI (rwi t r)) ∧ rwi t r < (Y 11).1 ∧ rwa t r + rwn t r ≤ (Y 0).1 ∧ (rwn t r = 0 ∨ WTC Y es (rwa t r) (rwn t r) (rwi t r))
/-- all pieces that are left let a step be -/
def PND (Y : Ts) (U : Ud) (f : Nat → Nat) (P : Nat) (od : Nat → Nat) (t : Tb) (s u : Nat) : Prop := ∀ r, r < t.1 → ¬ rwn t r = 0 → trs Y U f P od (rwi t r) (rwa t r) (rwn t r) s u = 1
/-- a next lets a step be -/
def LNX (Y : Ts) (U : Ud) (f : Nat → Nat) (P : Nat) (od : Nat → Nat) (t : Tb) (r s u : Nat) : Prop := CHSw Y U f P od true (rwa t r) (rwn t r) (rwi t r) s (vst U f P u (t.2 r 3).toNatClampNeg)
/-- a row of what takeLines collects -/
def RTL (Y : Ts) (es : Nat → Int32) (t : Tb) (r : Nat) : Prop := (t.2 r 0 = nI (rwa t r) ∧ t.2 r 1 = nI (rwa t r + rwn t r) ∧ t.2 r 2 = nI (rwi t r)) ∧ rwi t r < (Y 11).1 ∧ ((t.2 r 3 = -1 ∧ WTC Y es (rwa t r) (rwn t r) (rwi t r)) ∨ ∃ v0, v0 < (Y 15).1 ∧ t.2 r 3 = nI v0 ∧ rg Y (im Y (rwi t r)) true (rwa t r) (rwa t r + rwn t r) ∧ ∃ rs, SRT Y es (rwi t r) 0 (rwa t r) rs (rwn t r))
/-- the first k rows: a next is empty -/
def TLN (t0 t : Tb) (k : Nat) : Prop := t.1 = t0.1 ∧ (∀ r c, ¬ (c = 1 ∧ r < k) → t.2 r c = t0.2 r c) ∧ ∀ r, r < k → t.2 r 1 = if t0.2 r 3 = -1 then t0.2 r 1 else t0.2 r 0
/-- where one can GO: all TRANS and all next -/
def GOR (Y : Ts) (U : Ud) (f : Nat → Nat) (P : Nat) (od : Nat → Nat) (s u : Nat) : Prop := (∀ i c, PCi Y (Y 11).1 i c → (Y 8).2 c 0 = 6 → trs Y U f P od i ((Y 8).2 c 1).toNatClampNeg (((Y 8).2 c 2).toNatClampNeg - ((Y 8).2 c 1).toNatClampNeg) s u = 1) ∧ ∀ i n, PLi Y (Y 11).1 i n → (Y 7).2 n 0 = 4 → CHSw Y U f P od true ((Y 7).2 n 2).toNatClampNeg (((Y 7).2 n 3).toNatClampNeg - ((Y 7).2 n 2).toNatClampNeg) i s (vst U f P u (lvr Y i n).toNatClampNeg)
section Lines
variable {U V : Ud} {m P i c n r s u k B : Nat} {Y : Ts} {f od : Nat → Nat} {es : Nat → Int32} {t t0 tz t14 : Tb} {stg : Int32}
theorem TLN.init : TLN t0 t0 0 := ⟨rfl, fun _ _ _ => rfl, fun r hr => absurd hr (Nat.not_lt_zero r)⟩
theorem TLN.skip (h : TLN t0 t k) (h3 : t0.2 k 3 = -1) : TLN t0 t (k + 1) := by
  obtain ⟨h1, h2, hk⟩ := h
  refine ⟨h1, fun r c hn => h2 r c (fun y => hn ⟨y.1, by omega⟩), fun r hr => ?_⟩
  by_cases e : r = k
  · rw [e, if_pos h3]
    exact h2 k 1 (by omega)
  · exact hk r (by omega)
theorem TLN.set (h : TLN t0 t k) (h3 : ¬ t0.2 k 3 = -1) (hk : k < t0.1) (hb : t0.1 ≤ 67108864) : TLN t0 (tset 5 t (nI k) 1 (t0.2 k 0)) (k + 1) := by
  obtain ⟨h1, h2, hr⟩ := h
  have e : tset 5 t (nI k) 1 (t0.2 k 0) = (t.1, fun i c => if i = k ∧ c = 1 then t0.2 k 0 else t.2 i c) := by
    unfold tset
    rw [if_neg (nI_pos (by omega)), nI_clamp (by omega), if_pos ⟨by omega, by decide⟩]
  rw [e]
  refine ⟨h1, fun r c hn => ?_, fun r hr' => ?_⟩
  · show (if r = k ∧ c = 1 then t0.2 k 0 else t.2 r c) = t0.2 r c
    rw [if_neg (fun y => hn ⟨y.2, by omega⟩)]
    exact h2 r c (fun y => hn ⟨y.1, by omega⟩)
  · show (if r = k ∧ 1 = 1 then t0.2 k 0 else t.2 r 1) = _
    by_cases er : r = k
    · rw [if_pos ⟨er, rfl⟩, er, if_neg h3]
    · rw [if_neg (fun y => er y.1)]
      exact hr r (by omega)
theorem TKc.rtl (hD : MDL Y es) (hT : TOP Y t14 od) (h : TKc Y stg t r i c) (hp : PCi Y (Y 11).1 i c) (hk : (Y 8).2 c 0 = 6) : RTL Y es t r := by
  obtain ⟨h1, h2, h3⟩ := hp
  obtain ⟨a, N, rs, e1, e2, e3, e4, e5⟩ := (hD.2.1.2 i h1).1 c h2 h3
  rw [if_pos hk] at e4
  have b0 := hD.1.2.2.2.2.2.2 0 (by decide)
  have b11 := hD.1.2.2.2.2.2.2 11 (by decide)
  have g1 := e3.2.1
  obtain ⟨q0, q1, q2, q3, q4⟩ := h
  obtain ⟨w1, w2, w3⟩ := rw_of (q0.trans e1) (q1.trans e2) q2 (by omega) (by omega)
  refine ⟨by rw [w1, w2, w3]; exact ⟨q0.trans e1, q1.trans e2, q2⟩, by rw [w3]; exact h1, Or.inl ⟨q3, by rw [w1, w2, w3]; exact wtc_of hD.1 hT hD.2.1 e3 e4 e5⟩⟩
theorem TKl.rtl (hD : MDL Y es) (h : TKl Y stg t r i n) (hp : PLi Y (Y 11).1 i n) : RTL Y es t r := by
  obtain ⟨v0, v1, v2⟩ := lvr_ok hD.1 hD.2.2.2.2.2.1 hp
  obtain ⟨h1, h2, h3⟩ := hp
  obtain ⟨a, N, rs, v, e1, e2, e3, e4, e5, e6⟩ := (hD.2.1.2 i h1).2 n h2 h3
  have b0 := hD.1.2.2.2.2.2.2 0 (by decide)
  have b11 := hD.1.2.2.2.2.2.2 11 (by decide)
  have g1 := e3.2.1
  obtain ⟨q0, q1, q2, q3, q4⟩ := h
  obtain ⟨w1, w2, w3⟩ := rw_of (q0.trans e1) (q1.trans e2) q2 (by omega) (by omega)
  refine ⟨by rw [w1, w2, w3]; exact ⟨q0.trans e1, q1.trans e2, q2⟩, by rw [w3]; exact h1, Or.inr ⟨v0, v1, q3.trans v2, by rw [w1, w2, w3]; exact e3, rs, by rw [w1, w2, w3]; exact e5⟩⟩
/-- what is collected: all TRANS and all next -/
theorem GOR_of (hD : MDL Y es) (hT : TOP Y t14 od) (h : TKS Y 6 4 stg 0 tz t (PCi Y (Y 11).1) (PLi Y (Y 11).1) B) : (∀ r, r < t.1 → RTL Y es t r) ∧ ∀ U f P s u, ((∀ r, r < t.1 → t.2 r 3 = -1 → trs Y U f P od (rwi t r) (rwa t r) (rwn t r) s u = 1) ∧ ∀ r, r < t.1 → ¬ t.2 r 3 = -1 → LNX Y U f P od t r s u) ↔ GOR Y U f P od s u := by
  obtain ⟨-, -, h1, h2, h3⟩ := h
  have b11 := hD.1.2.2.2.2.2.2 11 (by decide)
  have b15 := hD.2.2.2.1.2.2.1
  have hb : ∀ i c, PCi Y (Y 11).1 i c → i < 2147483648 := fun i c y => by have := y.1; omega
  have hbl : ∀ i c, PLi Y (Y 11).1 i c → i < 2147483648 := fun i c y => by have := y.1; omega
  have hl3 : ∀ r i n, PLi Y (Y 11).1 i n → TKl Y stg t r i n → ¬ t.2 r 3 = -1 := fun r i n hp hk => by
    obtain ⟨v0, v1, v2⟩ := lvr_ok hD.1 hD.2.2.2.2.2.1 hp
    rw [hk.2.2.2.1, v2]
    exact nI_neg1 (by omega)
  refine ⟨fun r hr => ?_, fun U f P s u => ⟨fun ⟨g1, g2⟩ => ⟨fun i c hp hk => ?_, fun i n hp hk => ?_⟩, fun ⟨g1, g2⟩ => ⟨fun r hr h3' => ?_, fun r hr h3' => ?_⟩⟩⟩
  · rcases h1 r (Nat.zero_le _) hr with ⟨i, c, hp, hk, y⟩ | ⟨i, n, hp, hk, y⟩
    · exact TKc.rtl hD hT y hp hk
    · exact TKl.rtl hD y hp
  · obtain ⟨r, -, hr, y⟩ := h2 i c hp hk
    have z := g1 r hr y.2.2.2.1
    obtain ⟨w1, w2, w3⟩ := TKc.rw y (hb i c hp)
    rw [w1, w2, w3] at z
    exact z
  · obtain ⟨r, -, hr, y⟩ := h3 i n hp hk
    have z := g2 r hr (hl3 r i n hp y)
    obtain ⟨w1, w2, w3⟩ := TKl.rw y (hbl i n hp)
    unfold LNX at z
    rw [w1, w2, w3, y.2.2.2.1] at z
    exact z
  · rcases h1 r (Nat.zero_le _) hr with ⟨i, c, hp, hk, y⟩ | ⟨i, n, hp, hk, y⟩
    · obtain ⟨w1, w2, w3⟩ := TKc.rw y (hb i c hp)
      rw [w1, w2, w3]
      exact g1 i c hp hk
    · exact absurd h3' (hl3 r i n hp y)
  · rcases h1 r (Nat.zero_le _) hr with ⟨i, c, hp, hk, y⟩ | ⟨i, n, hp, hk, y⟩
    · exact absurd y.2.2.2.1 h3'
    · obtain ⟨w1, w2, w3⟩ := TKl.rw y (hbl i n hp)
      unfold LNX
      rw [w1, w2, w3, y.2.2.2.1]
      exact g2 i n hp hk
/-- behind takeLines: the TRANS are left -/
theorem TLN.fin (hR : ∀ r, r < t0.1 → RTL Y es t0 r) (h15 : (Y 15).1 ≤ 67108864) (h0 : (Y 0).1 ≤ 67108864) (h : TLN t0 t t0.1) : (∀ r, r < t.1 → PCT Y es t r) ∧ ∀ s u, PND Y U f P od t s u ↔ ∀ r, r < t0.1 → t0.2 r 3 = -1 → trs Y U f P od (rwi t0 r) (rwa t0 r) (rwn t0 r) s u = 1 := by
  obtain ⟨h1, h2, h3⟩ := h
  have ea : ∀ r, rwa t r = rwa t0 r := fun r => by
    unfold rwa
    rw [h2 r 0 (by omega)]
  have ei : ∀ r, rwi t r = rwi t0 r := fun r => by
    unfold rwi
    rw [h2 r 2 (by omega)]
  have en : ∀ r, r < t0.1 → rwn t r = if t0.2 r 3 = -1 then rwn t0 r else 0 := fun r hr => by
    have hx : rwn t r = (t.2 r 1).toNatClampNeg - rwa t0 r := by
      rw [← ea r]
      rfl
    rw [hx, h3 r hr]
    by_cases c : t0.2 r 3 = -1
    · rw [if_pos c, if_pos c]
      rfl
    · rw [if_neg c, if_neg c]
      exact Nat.sub_self _
  refine ⟨fun r hr => ?_, fun s u => ⟨fun g r hr c => ?_, fun g r hr c => ?_⟩⟩
  · rw [h1] at hr
    obtain ⟨⟨y0, y1, y2⟩, yi, yc⟩ := hR r hr
    rcases yc with ⟨c, w⟩ | ⟨v0, v1, v2, v3, -⟩
    · have e := en r hr
      rw [if_pos c] at e
      have e1 := h3 r hr
      rw [if_pos c] at e1
      unfold PCT
      rw [ea r, ei r, e, h2 r 0 (by omega), h2 r 2 (by omega), e1]
      exact ⟨⟨y0, y1, y2⟩, yi, w.1.2.1, Or.inr w⟩
    · have c : ¬ t0.2 r 3 = -1 := by
        rw [v2]
        exact nI_neg1 (by omega)
      have e := en r hr
      rw [if_neg c] at e
      have e1 := h3 r hr
      rw [if_neg c] at e1
      unfold PCT
      rw [ea r, ei r, e, h2 r 0 (by omega), h2 r 2 (by omega), e1]
      exact ⟨⟨y0, y0, y2⟩, yi, by have := v3.2.1; omega, Or.inl rfl⟩
  · rcases (hR r hr).2.2 with ⟨-, w⟩ | ⟨v0, v1, v2, -⟩
    · have y := g r (by omega) (by rw [en r hr, if_pos c]; exact w.pos)
      rw [ea r, ei r, en r hr, if_pos c] at y
      exact y
    · rw [v2] at c
      exact absurd c (nI_neg1 (by omega))
  · rw [h1] at hr
    rw [en r hr] at c
    by_cases c3 : t0.2 r 3 = -1
    · rw [ea r, ei r, en r hr, if_pos c3]
      exact g r hr c3
    · rw [if_neg c3] at c
      exact absurd rfl c
end Lines
