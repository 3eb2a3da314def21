/-! RELATION as it stands: a piece is taken -/
section Taken
variable {U V : Ud} {m P N0 sf ou N us nf nw l a0 n0 i0 k spn M : Nat} {Y : Ts} {f od wa wn wi z bs lv : Nat → Nat} {nm tm : Nat → Int32} {oid : Nat → Nat → Nat} {S : Nat → Nat → Bool} {p : Nat → Bool} {es : Nat → Int32} {wk : Nat → Bool} {G G' : Nat → Nat → Prop} {mk nmk tmk w : Int32} {b : Bool} {rs : Nat → Int32} {al : Int32}
variable {Lk : List Bool}
theorem RSU.mono (h : RSU V Y es P f od N0 sf ou G) (hG : ∀ s t, s < pd f 0 P → t < pd f 0 P → (G s t ↔ G' s t)) : RSU V Y es P f od N0 sf ou G' := by
  obtain ⟨N, us, S, z, p, nf, nm, tm, bs, lv, oid, nw, wa, wn, wi, wk, h1, h2, h3, h4, h5, h6, h7, al, a1, a2⟩ := h
  exact ⟨N, us, S, z, p, nf, nm, tm, bs, lv, oid, nw, wa, wn, wi, wk, h1, h2, h3, h4, h5, h6, h7, al, a1, fun s t hs ht => (hG s t hs ht).symm.trans (a2 s t hs ht)⟩
/-- choices in a table -/
theorem RSG.tab (h : RSG U Y es P f od N0 sf ou G N us S z p nf nm tm bs lv oid nw wa wn wi wk) (hK : KNV m U Y P f od es) (hl : LDW U Y P f od a0 n0 i0) (hmk : U.2.1 100 4 = mk) (hnx : ¬ NXW Y (U.1 15) P a0 n0 i0) (hi : i0 < (Y 11).1) (hr : rgs Y (im Y i0) Lk a0 (a0 + n0)) (hk : k < P) (q : uq F307 U V) (hT : TBL U V N us S z p spn ou (pm mk f P) (fun c x => x < f k ∧ CHW Y b (lvl Y (vlz U f mk 0 c) (vlz U f mk 14 c) (evz Y od (vlz U f mk 0 c)) i0) a0 n0 ((U.2.2.1 99 8).2 (sm f 0 k + x)))) (h5 : V.2.1 129 5 = nI (ou + pm mk f P) ∧ ou + pm mk f P ≤ (V.2.2.1 129 4).1 ∧ OLN (V.2.2.1 129 4).1) (h24 : V.1 24 = ax 24 (ap 24 U.1 mk ((1 : Int32) <<< (nI k &&& 31)) (nI ou) 0) (nI nf) 4 (nI k) 24) (hCL : CLS U V (pd f 0 P) (fun t => (V.2.2.1 129 4).2 (ou + pj mk f P P t))) (hcost : us - sf + pm mk f P * (spn + 1) ≤ 65536) (hfit : ou + pm mk f P ≤ 32768) : RSU V Y es P f od N0 sf (ou + pm mk f P) (fun s t => G s t ∧ CHSw Y U f P od b a0 n0 i0 s ((U.2.2.1 99 8).2 (sm f 0 k + dgz f P t k))) := by
  have hP := hK.P14
  have hpd : pd f 0 P ≤ 16384 := hK.1.2.2.2.1.2.1
  refine (RSG.factor (l := k) (tmx := (1 : Int32) <<< (nI k &&& 31)) h hT h24 h5 hCL (q.t 15 rfl) (q.t 25 rfl) (q.a 99 8 rfl) (q.l 145 rfl) (q.i 129 21 rfl) hK.2.1 hpd hk (fun j j1 j2 => Decidable.not_not.mp (fun y => by have := (mb_one (k := k) (j := j) (by omega) (by omega)).mp y; omega)) (fun c x hc hq => by rw [pm_one hk hP]; exact hq.1) hcost hfit).mono (fun s t hs ht => and_congr_right (fun _ => ?_))
  show (ixz ((1 : Int32) <<< (nI k &&& 31)) f (dgz f P t) P < f k ∧ CHW Y b (lvl Y (vlz U f mk 0 (pj mk f P P s)) (vlz U f mk 14 (pj mk f P P s)) (evz Y od (vlz U f mk 0 (pj mk f P P s))) i0) a0 n0 ((U.2.2.1 99 8).2 (sm f 0 k + ixz ((1 : Int32) <<< (nI k &&& 31)) f (dgz f P t) P))) ↔ _
  rw [ixz_one hk hP, chs_state hK hl hmk hnx hi hr hs]
  exact ⟨fun y => y.2, fun y => ⟨dgz_lt hK.2.1, y⟩⟩
/-- choices that are reckoned for each STATE -/
theorem RSG.aside (h : RSG U Y es P f od N0 sf ou G N us S z p nf nm tm bs lv oid nw wa wn wi wk) (hK : KNV m U Y P f od es) (hl : LDW U Y P f od a0 n0 i0) (hmk : U.2.1 100 4 = mk) (hnx : ¬ NXW Y (U.1 15) P a0 n0 i0) (hi : i0 < (Y 11).1) (hr : rgs Y (im Y i0) Lk a0 (a0 + n0)) (hLk : 1 ≤ Lk.length) (hb : (b = true → Lk = [true]) ∧ (b = false → ¬ true ∈ Lk)) (hs0 : SRT Y es i0 al a0 rs n0) (hal : ¬ al = 2) (hk : k < P) (hn : nw < 16777216) (q : uq F308 U V) (h25 : V.1 25 = ap 25 U.1 (nI a0) (nI (a0 + n0)) (nI i0) (nI k) 25) (hCL : CLS U V (pd f 0 P) (fun t => nI (pj mk f P P t))) : RSU V Y es P f od N0 sf ou (fun s t => G s t ∧ CHSw Y U f P od b a0 n0 i0 s ((U.2.2.1 99 8).2 (sm f 0 k + dgz f P t k))) :=
  RSG.wideC h hK hl hmk hnx hi hr hLk hb hs0 hal hk hn h25 hCL (q.t 24 rfl) (q.t 15 rfl) (q.a 99 8 rfl) (q.a 129 4 rfl) (q.i 129 5 rfl) (q.i 129 21 rfl) (h.2.1.q q rfl rfl rfl rfl rfl rfl) (q.l 145 rfl)
/-- a truth in a table -/
theorem RSG.tabT {kd : Bool} (h : RSG U Y es P f od N0 sf ou G N us S z p nf nm tm bs lv oid nw wa wn wi wk) (hK : KNV m U Y P f od es) (hl : LDW U Y P f od a0 n0 i0) (hmk : U.2.1 100 4 = mk) (hnm : ∀ k, k < 14 → mb nmk k = mb mk k) (htm : ∀ k, k < 14 → mb tmk k = mb mk (k + 14)) (hi : i0 < (Y 11).1) (hr : rg Y (im Y i0) kd a0 (a0 + n0)) (hM : M = pm tmk f P) (hlP : l < P) (hlv : ∀ j, l < j → j < P → mb tmk j = 0) (q : uq F302 U V) (hT : TBL U V N us S z p spn ou (pm nmk f P) (fun c x => x < M ∧ ¬ trz Y U f mk od i0 a0 n0 (c * M + x) = 0)) (h5 : V.2.1 129 5 = nI (ou + pm nmk f P) ∧ ou + pm nmk f P ≤ (V.2.2.1 129 4).1 ∧ OLN (V.2.2.1 129 4).1) (h24 : V.1 24 = ax 24 (ap 24 U.1 nmk tmk (nI ou) 0) (nI nf) 4 (nI l) 24) (hCL : CLS U V (pd f 0 P) (fun t => (V.2.2.1 129 4).2 (ou + pj nmk f P P t))) (hcost : us - sf + pm nmk f P * (spn + 1) ≤ 65536) (hfit : ou + pm nmk f P ≤ 32768) : RSU V Y es P f od N0 sf (ou + pm nmk f P) (fun s t => G s t ∧ ¬ trs Y U f P od i0 a0 n0 s t = 0) := by
  have hpd : pd f 0 P ≤ 16384 := hK.1.2.2.2.1.2.1
  subst hM
  refine (RSG.factor (l := l) (tmx := tmk) (mk := nmk) h hT h24 h5 hCL (q.t 15 rfl) (q.t 25 rfl) (q.a 99 8 rfl) (q.l 145 rfl) (q.i 129 21 rfl) hK.2.1 hpd hlP hlv (fun c x hc hq => hq.1) hcost hfit).mono (fun s t hs ht => and_congr_right (fun _ => ?_))
  show (ixz tmk f (dgz f P t) P < pm tmk f P ∧ ¬ trz Y U f mk od i0 a0 n0 (pj nmk f P P s * pm tmk f P + ixz tmk f (dgz f P t) P) = 0) ↔ _
  have hx := ixz_lt (mk := tmk) (f := f) (dg := dgz f P t) (n := P) (fun k _ => dgz_lt hK.2.1)
  rw [ixz_pj ht] at hx ⊢
  rw [trz_two hK hl hmk hnm htm hi hr hs ht]
  exact ⟨fun y => y.2, fun y => ⟨hx, y⟩⟩
end Taken
