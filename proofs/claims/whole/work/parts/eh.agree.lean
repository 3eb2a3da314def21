/-! RELATION as it stands: choices and truths by valuations and by STATES -/
section Agree
variable {P s k n N a0 N0 i0 dp cp c sh : Nat} {U : Ud} {Y : Ts} {od f : Nat → Nat} {mk mv al : Int32} {NX : Prop} {M : Nat → Prop} {es rs vn vn' vx vx' : Nat → Int32} {kd : Bool} {t14 t15 : Tb}
variable {Lk : List Bool}
theorem lvl_agrees {a i q : Nat} {ev ev' : Nat → Int32} (hW : JW Y) (hi : i < (Y 11).1) (hr : rgs Y (im Y i) Lk a (a + N)) (hP : P ≤ 14) (hq : q < N) (hlf : lfm t15 mk M Y P a N i) (ho : oc Y (a + q) ≤ 3) (h1 : AGR t15 Y mk 0 vn vn') (h2 : oc Y (a + q) = 3 → AGR t15 Y mk 14 vx vx') (he : ∀ e2, e2 < (Y 13).1 → M e2 → nmd Y i (a + q) = nI e2 → ev e2 = ev' e2) : lvl Y vn vx ev i (a + q) = lvl Y vn' vx' ev' i (a + q) := by
  have b15 := hW.2.2.2.2.2.2 15 (by decide)
  have b13 := hW.2.2.2.2.2.2 13 (by decide)
  by_cases h3 : oc Y (a + q) < 2
  · unfold lvl; rw [if_pos h3, if_pos h3]
  · have h23 : oc Y (a + q) = 2 ∨ oc Y (a + q) = 3 := by omega
    obtain ⟨r, er, hr1, hr2⟩ := rgs_ref hr hW hq h23
    obtain ⟨-, -, -, hkM, b1⟩ := hW.inst hi
    obtain ⟨lr1, lr2, lr3⟩ := hW.le hkM (c := 6) (j := 9) (by decide) (by decide) rfl
    have eoa : oa Y (a + q) = r := by unfold oa; rw [er]; exact nI_clamp (by omega)
    have hoc := oc_w hW (q := a + q) (by have := hr.2.1; omega)
    obtain ⟨l1, l2⟩ := hlf q hq h23
    rw [eoa] at l1 l2
    unfold lvl
    rw [if_neg h3, if_neg h3, eoa]
    rcases rch_ok hW hi hr1 hr2 with z | ⟨z, w, v, hw, ew, ev, hv⟩ | ⟨z, e2, he2, ee⟩
    · rw [if_pos z, if_pos z]
    · have n5 : ¬ (Y 9).2 r 2 = 5 := by rw [z]; decide
      rw [if_neg n5, if_neg n5, if_pos z, if_pos z, ew, nI_clamp (by omega)]
      rcases l1 z w hw ew with y | ⟨pl, y1, y2, y3⟩
      · by_cases h4 : oc Y (a + q) = 3
        · rw [if_pos h4, if_pos h4]; exact (h2 h4 w hw).1 y
        · rw [if_neg h4, if_neg h4]; exact (h1 w hw).1 y
      · by_cases h4 : oc Y (a + q) = 3
        · rw [if_pos h4] at y3
          rw [if_pos h4, if_pos h4]; exact (h2 h4 w hw).2 pl (by omega) y2 y3
        · rw [if_neg h4] at y3
          rw [if_neg h4, if_neg h4]; exact (h1 w hw).2 pl (by omega) y2 y3
    · have n5 : ¬ (Y 9).2 r 2 = 5 := by rcases z with z | z <;> (rw [z]; decide)
      have n3 : ¬ (Y 9).2 r 2 = 3 := by rcases z with z | z <;> (rw [z]; decide)
      rw [if_neg n5, if_neg n5, if_neg n3, if_neg n3, ee, nI_clamp (by omega)]
      refine he e2 he2 (l2 z e2 he2 ee) ?_
      unfold nmd
      rw [if_pos ⟨by rw [hoc]; rcases h23 with y | y <;> rw [y]; exact Or.inl rfl; exact Or.inr rfl, by rw [eoa]; exact z⟩, eoa]
      exact ee
theorem root_agrees (hW : JW Y) (hT : TOP Y t14 od) (hY : TYP Y es) (hP : P ≤ 14) (hLC : LC t15 Y P NX a0 N0 i0 cp dp mk M) (hi : i0 < (Y 11).1) (hr : rgs Y (im Y i0) Lk a0 (a0 + N0)) (h1 : AGR t15 Y mk 0 vn vn') (h2 : AGR t15 Y mk 14 vx vx') : svz Y (lvl Y vn vx (evz Y od vn) i0) a0 N0 = svz Y (lvl Y vn' vx' (evz Y od vn') i0) a0 N0 ∧ kvz Y (lvl Y vn vx (evz Y od vn) i0) a0 N0 = kvz Y (lvl Y vn' vx' (evz Y od vn') i0) a0 N0 := by
  have hl : ∀ x, x < N0 → oc Y (a0 + x) ≤ 3 → lvl Y vn vx (evz Y od vn) i0 (a0 + x) = lvl Y vn' vx' (evz Y od vn') i0 (a0 + x) := fun x hx ho =>
    lvl_agrees hW hi hr hP hx hLC.1.1 ho h1 (fun _ => h2) (fun e2 he2 hm2 hn => by
      obtain ⟨k, y1, y2⟩ := hT.1.2.2.2 e2 he2
      rw [← y2] at hm2 ⊢
      exact evz_agree hW hT hY hP hLC h1 k y1 hm2)
  exact ⟨svz_congr hl, kvz_congr hl⟩
end Agree
section Valued
variable {U V : Ud} {m P N0 sf ou N us nf nw l a0 n0 i0 k s s' t pl : Nat} {Y : Ts} {f od wa wn wi z bs lv : Nat → Nat} {nm tm : Nat → Int32} {oid : Nat → Nat → Nat} {S : Nat → Nat → Bool} {p : Nat → Bool} {es : Nat → Int32} {wk : Nat → Bool} {G : Nat → Nat → Prop} {mk a b c v : Int32} {bb : Bool} {rs : Nat → Int32} {al : Int32}
variable {Lk : List Bool}
theorem CHW_eq {l1 l2 : Nat → Int32} (h1 : svz Y l1 a0 n0 = svz Y l2 a0 n0) (h2 : kvz Y l1 a0 n0 = kvz Y l2 a0 n0) : CHW Y bb l1 a0 n0 v ↔ CHW Y bb l2 a0 n0 v := by
  unfold CHW chq
  rw [h1, h2]
/-- what the valuation of a STATE chooses is what the STATE chooses -/
theorem chs_state (hK : KNV m U Y P f od es) (hl : LDW U Y P f od a0 n0 i0) (hmk : U.2.1 100 4 = mk) (hnx : ¬ NXW Y (U.1 15) P a0 n0 i0) (hi : i0 < (Y 11).1) (hr : rgs Y (im Y i0) Lk a0 (a0 + n0)) (hs : s < pd f 0 P) : CHW Y bb (lvl Y (vlz U f mk 0 (pj mk f P P s)) (vlz U f mk 14 (pj mk f P P s)) (evz Y od (vlz U f mk 0 (pj mk f P P s))) i0) a0 n0 v ↔ CHSw Y U f P od bb a0 n0 i0 s v := by
  have hb := LDW.now hl hmk hnx
  obtain ⟨S0, K, dp, W, mk', M, rk, l1, l2, l3, l4⟩ := hl
  have emk : mk' = mk := l2.1.2.2.2.symm.trans hmk
  subst emk
  have hP := hK.P14
  obtain ⟨e1, e2⟩ := root_agrees hK.2.2.2.1.1 hK.2.2.2.2.1 hK.2.2.2.1.2.1 hP l3 hi hr (agr_state (U := U) hP (fun k _ => hK.2.1 k) hK.2.2.2.2.2.2 hb hs) (vx := vlz U f mk' 14 (pj mk' f P P s)) (vx' := vst U f P s) (fun w hw => ⟨fun e => by unfold vlz vst; rw [if_pos e, if_pos e], fun pl h14 e hm => by have := hb (pl + 14) (by omega) hm; omega⟩)
  exact CHW_eq e1 e2
/-- STATES that a mask does not part choose alike -/
theorem chs_mask (hK : KNV m U Y P f od es) (hl : LDW U Y P f od a0 n0 i0) (hmk : U.2.1 100 4 = mk) (hnx : ¬ NXW Y (U.1 15) P a0 n0 i0) (hi : i0 < (Y 11).1) (hr : rgs Y (im Y i0) Lk a0 (a0 + n0)) (hs : s < pd f 0 P) (hs' : s' < pd f 0 P) (he : pj mk f P P s = pj mk f P P s') : CHSw Y U f P od bb a0 n0 i0 s v ↔ CHSw Y U f P od bb a0 n0 i0 s' v := by
  rw [← chs_state hK hl hmk hnx hi hr hs, he]
  exact chs_state hK hl hmk hnx hi hr hs'
theorem pj_16 (hK : KNV m U Y P f od es) (hs : s < pd f 0 P) : pj mk f P P s < 16384 := by
  have y := pj_lt (mk := mk) (f := f) (P := P) (n := P) (fun k _ => hK.2.1 k) (Nat.le_refl P) s (by rw [Nat.sub_self]; exact hs)
  rw [wn_pm] at y
  have y2 := (pm_le (mk := mk) (f := f) (n := P) (fun k _ => hK.2.1 k)).2
  have y3 := hK.1.2.2.2.1.2.1
  omega
theorem wid_put (h : WIDw Y es P (U.1 15) (U.1 25) nw wa wn wi wk) (hn : nw < 16777216) (h25 : V.1 25 = tput 4 (U.1 25) a b c v) : (V.1 25).1 = nw + 1 ∧ (∀ r q, r < nw → (V.1 25).2 r q = (U.1 25).2 r q) ∧ (V.1 25).2 nw 0 = a ∧ (V.1 25).2 nw 1 = b ∧ (V.1 25).2 nw 2 = c ∧ (V.1 25).2 nw 3 = v := by
  have h1 := h.1.1
  rw [h25, tk4_eq, h1]
  refine ⟨rfl, fun r q hr => ?_, ?_, ?_, ?_, ?_⟩
  · show (if r = nw then (if q < 4 then rw_col a b c v q else 0) else (U.1 25).2 r q) = _
    rw [if_neg (by omega)]
  · show (if nw = nw then (if 0 < 4 then rw_col a b c v 0 else 0) else (U.1 25).2 nw 0) = a
    rw [if_pos rfl]; rfl
  · show (if nw = nw then (if 1 < 4 then rw_col a b c v 1 else 0) else (U.1 25).2 nw 1) = b
    rw [if_pos rfl]; rfl
  · show (if nw = nw then (if 2 < 4 then rw_col a b c v 2 else 0) else (U.1 25).2 nw 2) = c
    rw [if_pos rfl]; rfl
  · show (if nw = nw then (if 3 < 4 then rw_col a b c v 3 else 0) else (U.1 25).2 nw 3) = v
    rw [if_pos rfl]; rfl
/-- STATES that do not GO on are taken out -/
theorem RSG.alive {B : Nat → Prop} (h : RSG U Y es P f od N0 sf ou G N us S z p nf nm tm bs lv oid nw wa wn wi wk) (e24 : V.1 24 = U.1 24) (e15 : V.1 15 = U.1 15) (e25 : V.1 25 = U.1 25) (e98 : V.2.2.1 99 8 = U.2.2.1 99 8) (e4 : V.2.2.1 129 4 = U.2.2.1 129 4) (e7 : V.2.2.1 129 7 = U.2.2.1 129 7) (i5 : V.2.1 129 5 = U.2.1 129 5) (i21 : V.2.1 129 21 = U.2.1 129 21) (hSk : SOK V N us S z p) (hB : ∀ al, BTS (U.2.2.2.2.1 145) (pd f 0 P) al → BTS (V.2.2.2.2.1 145) (pd f 0 P) (fun s => al s ∧ B s)) : RSU V Y es P f od N0 sf ou (fun s t => G s t ∧ B s) := by
  obtain ⟨q1, hSO, hWD, hb, ho, ⟨n1, n2, n3⟩, ⟨cl, c1, c2⟩, al, a1, a2⟩ := h
  refine ⟨N, us, S, z, p, nf, nm, tm, bs, lv, oid, nw, wa, wn, wi, wk, by unfold FAC at *; rw [e24, e4]; exact q1, hSk, by rw [e15, e25]; exact hWD, hb, by rw [i5, e4]; exact ho, ⟨n1, i21.trans n2, n3⟩, ⟨cl, by rw [e7]; exact c1, fun s s' hs hs' y => (c2 s s' hs hs' y).same e15 e98 e25⟩, _, hB al a1, fun s t hs ht => ?_⟩
  have hw : ∀ k, (WCHw Y V f P od wa wn wi wk s nw k (dgz f P t k) ↔ WCHw Y U f P od wa wn wi wk s nw k (dgz f P t k)) := fun k => WCHw.same e25 e15 e98
  show (G s t ∧ B s) ↔ (al s ∧ B s) ∧ _
  rw [a2 s t hs ht]
  constructor
  · rintro ⟨⟨g1, g2, g3, g4⟩, g5⟩
    exact ⟨⟨g1, g5⟩, g2, fun k hk => (hw k).mpr (g3 k hk), (WTR_same e15 e98 e25).mpr g4⟩
  · rintro ⟨⟨g1, g5⟩, g2, g3, g4⟩
    exact ⟨⟨g1, g2, fun k hk => (hw k).mp (g3 k hk), (WTR_same e15 e98 e25).mp g4⟩, g5⟩
/-- a wide choice more -/
theorem RSG.wideC (h : RSG U Y es P f od N0 sf ou G N us S z p nf nm tm bs lv oid nw wa wn wi wk) (hK : KNV m U Y P f od es) (hl : LDW U Y P f od a0 n0 i0) (hmk : U.2.1 100 4 = mk) (hnx : ¬ NXW Y (U.1 15) P a0 n0 i0) (hi : i0 < (Y 11).1) (hr : rgs Y (im Y i0) Lk a0 (a0 + n0)) (hLk : 1 ≤ Lk.length) (hb : (bb = true → Lk = [true]) ∧ (bb = false → ¬ true ∈ Lk)) (hs0 : SRT Y es i0 al a0 rs n0) (hal : ¬ al = 2) (hpl : pl < P) (hn : nw < 16777216) (h25 : V.1 25 = tput 4 (U.1 25) (nI a0) (nI (a0 + n0)) (nI i0) (nI pl)) (hCL : CLS U V (pd f 0 P) (fun t => nI (pj mk f P P t))) (e24 : V.1 24 = U.1 24) (e15 : V.1 15 = U.1 15) (e98 : V.2.2.1 99 8 = U.2.2.1 99 8) (e4 : V.2.2.1 129 4 = U.2.2.1 129 4) (i5 : V.2.1 129 5 = U.2.1 129 5) (i21 : V.2.1 129 21 = U.2.1 129 21) (hSk : SOK V N us S z p) (e145 : V.2.2.2.2.1 145 = U.2.2.2.2.1 145) : RSU V Y es P f od N0 sf ou (fun s t => G s t ∧ CHSw Y U f P od bb a0 n0 i0 s ((U.2.2.1 99 8).2 (sm f 0 pl + dgz f P t pl))) := by
  obtain ⟨q1, hSO, hWD, hbo, ho, ⟨n1, n2, n3⟩, ⟨cl, c1, c2⟩, al', a1, a2⟩ := h
  obtain ⟨w1, w2, w3, w4, w5, w6⟩ := wid_put hWD hn h25
  have hP := hK.P14
  have hpd : pd f 0 P ≤ 16384 := hK.1.2.2.2.1.2.1
  have hold : ∀ r, r < nw → ∀ s v, (CHSw Y V f P od (upv wk nw bb r) (upv wa nw a0 r) (upv wn nw n0 r) (upv wi nw i0 r) s v ↔ CHSw Y U f P od (wk r) (wa r) (wn r) (wi r) s v) := fun r hr s v => by
    rw [upv_ne hr, upv_ne hr, upv_ne hr, upv_ne hr]
    exact CHSw_same e15 e98
  have hnew : ∀ s v, (CHSw Y V f P od (upv wk nw bb nw) (upv wa nw a0 nw) (upv wn nw n0 nw) (upv wi nw i0 nw) s v ↔ CHSw Y U f P od bb a0 n0 i0 s v) := fun s v => by
    rw [upv_eq, upv_eq, upv_eq, upv_eq]
    exact CHSw_same e15 e98
  have hn1 : ∀ q, q < 14 → ¬ nI q = -1 := fun q hq => nI_neg1 (by omega)
  refine ⟨N, us, S, z, p, nf, nm, tm, bs, lv, oid, nw + 1, upv wa nw a0, upv wn nw n0, upv wi nw i0, upv wk nw bb, by unfold FAC at *; rw [e24, e4]; exact q1, hSk, ⟨⟨w1, by omega⟩, fun r hr' => ?_⟩, hbo, by rw [i5, e4]; exact ho, ⟨n1, i21.trans n2, n3⟩, ?_, al', by rw [e145]; exact a1, fun s t hs ht => ?_⟩
  · by_cases hrn : r = nw
    · rw [hrn, upv_eq, upv_eq, upv_eq, upv_eq, w3, w4, w5, w6]
      refine ⟨⟨rfl, rfl, rfl, hi⟩, Or.inr ⟨pl, hpl, rfl, by rw [e15]; exact hnx, al, Lk, rs, hal, hr, hLk, hs0, hb.1, hb.2⟩⟩
    · have hrs : r < nw := by omega
      have y := hWD.2 r hrs
      rw [upv_ne hrs, upv_ne hrs, upv_ne hrs, upv_ne hrs, w2 r 0 hrs, w2 r 1 hrs, w2 r 2 hrs, w2 r 3 hrs, e15]
      exact y
  · obtain ⟨cn, d1, d2⟩ := hCL
    refine ⟨cn, fun t ht => ⟨(d1 t ht).1, Nat.le_of_lt (d1 t ht).2⟩, fun s s' hs hs' hss => ?_⟩
    obtain ⟨y1, y2⟩ := (d2 s s' hs hs').mp hss
    rw [(c1 s hs).1, (c1 s' hs').1] at y1
    have y3 : cl s = cl s' := nI_inj (by have := (c1 s hs).2; omega) (by have := (c1 s' hs').2; omega) y1
    have hsm := c2 s s' hs hs' y3
    refine ⟨hsm.1, fun r hr' h3 v => ?_⟩
    by_cases hrn : r = nw
    · rw [hrn]
      have p1 := pj_16 (mk := mk) hK hs
      have p2 := pj_16 (mk := mk) hK hs'
      have y4 : pj mk f P P s = pj mk f P P s' := nI_inj (by omega) (by omega) y2
      exact (hnew s v).trans ((chs_mask hK hl hmk hnx hi hr hs hs' y4).trans (hnew s' v).symm)
    · have hrs : r < nw := by omega
      rw [w2 r 3 hrs] at h3
      exact (hold r hrs s v).trans ((hsm.2 r hrs h3 v).trans (hold r hrs s' v).symm)
  · show (G s t ∧ CHSw Y U f P od bb a0 n0 i0 s ((U.2.2.1 99 8).2 (sm f 0 pl + dgz f P t pl))) ↔ _
    rw [a2 s t hs ht]
    have hwt : (WTR Y V f P od (upv wa nw a0) (upv wn nw n0) (upv wi nw i0) s (nw + 1) t ↔ WTR Y U f P od wa wn wi s nw t) := by
      constructor
      · intro y r hr' h3
        have y2 := y r (by omega) (by rw [w2 r 3 hr']; exact h3)
        rw [upv_ne hr', upv_ne hr', upv_ne hr', trs_same e15 e98] at y2
        exact y2
      · intro y r hr' h3
        by_cases hrn : r = nw
        · rw [hrn, w6] at h3
          exact absurd h3 (hn1 pl (by omega))
        · have hrs : r < nw := by omega
          rw [w2 r 3 hrs] at h3
          rw [upv_ne hrs, upv_ne hrs, upv_ne hrs, trs_same e15 e98]
          exact y r hrs h3
    constructor
    · rintro ⟨⟨g1, g2, g3, g4⟩, g5⟩
      refine ⟨g1, g2, fun k hk r hr' h3 => ?_, hwt.mpr g4⟩
      rw [e98]
      by_cases hrn : r = nw
      · rw [hrn] at h3 ⊢
        rw [w6] at h3
        have e5 : pl = k := nI_inj (by omega) (by omega) h3
        rw [← e5]
        exact (hnew s _).mpr g5
      · have hrs : r < nw := by omega
        rw [w2 r 3 hrs] at h3
        exact (hold r hrs s _).mpr (g3 k hk r hrs h3)
    · rintro ⟨g1, g2, g3, g4⟩
      refine ⟨⟨g1, g2, fun k hk r hr' h3 => ?_, hwt.mp g4⟩, ?_⟩
      · have y := g3 k hk r (by omega) (by rw [w2 r 3 hr']; exact h3)
        rw [e98] at y
        exact (hold r hr' s _).mp y
      · have y := g3 pl hpl nw (by omega) w6
        rw [e98] at y
        exact (hnew s _).mp y
/-- a wide truth more -/
theorem RSG.wideT (h : RSG U Y es P f od N0 sf ou G N us S z p nf nm tm bs lv oid nw wa wn wi wk) (hP : P ≤ 14) (hi : i0 < (Y 11).1) (hr : rg Y (im Y i0) false a0 (a0 + n0)) (hs0 : SRT Y es i0 1 a0 rs n0) (hst : stk Y rs a0 n0 0 = 1) (hn : nw < 16777216) (h25 : V.1 25 = tput 4 (U.1 25) (nI a0) (nI (a0 + n0)) (nI i0) (-1)) (e24 : V.1 24 = U.1 24) (e15 : V.1 15 = U.1 15) (e98 : V.2.2.1 99 8 = U.2.2.1 99 8) (e4 : V.2.2.1 129 4 = U.2.2.1 129 4) (e7 : V.2.2.1 129 7 = U.2.2.1 129 7) (i5 : V.2.1 129 5 = U.2.1 129 5) (i21 : V.2.1 129 21 = U.2.1 129 21) (hSk : SOK V N us S z p) (e145 : V.2.2.2.2.1 145 = U.2.2.2.2.1 145) : RSU V Y es P f od N0 sf ou (fun s t => G s t ∧ ¬ trs Y U f P od i0 a0 n0 s t = 0) := by
  obtain ⟨q1, hSO, hWD, hbo, ho, ⟨n1, n2, n3⟩, ⟨cl, c1, c2⟩, al', a1, a2⟩ := h
  obtain ⟨w1, w2, w3, w4, w5, w6⟩ := wid_put hWD hn h25
  have hold : ∀ r, r < nw → ∀ s v, (CHSw Y V f P od (upv wk nw true r) (upv wa nw a0 r) (upv wn nw n0 r) (upv wi nw i0 r) s v ↔ CHSw Y U f P od (wk r) (wa r) (wn r) (wi r) s v) := fun r hr s v => by
    rw [upv_ne hr, upv_ne hr, upv_ne hr, upv_ne hr]
    exact CHSw_same e15 e98
  refine ⟨N, us, S, z, p, nf, nm, tm, bs, lv, oid, nw + 1, upv wa nw a0, upv wn nw n0, upv wi nw i0, upv wk nw true, by unfold FAC at *; rw [e24, e4]; exact q1, hSk, ⟨⟨w1, by omega⟩, fun r hr' => ?_⟩, hbo, by rw [i5, e4]; exact ho, ⟨n1, i21.trans n2, n3⟩, ⟨cl, by rw [e7]; exact c1, fun s s' hs hs' y => ⟨(c2 s s' hs hs' y).1, fun r hr' h3 v => ?_⟩⟩, al', by rw [e145]; exact a1, fun s t hs ht => ?_⟩
  · by_cases hrn : r = nw
    · rw [hrn, upv_eq, upv_eq, upv_eq, upv_eq, w3, w4, w5, w6]
      exact ⟨⟨rfl, rfl, rfl, hi⟩, Or.inl ⟨rfl, hr, rs, hs0, hst⟩⟩
    · have hrs : r < nw := by omega
      have y := hWD.2 r hrs
      rw [upv_ne hrs, upv_ne hrs, upv_ne hrs, upv_ne hrs, w2 r 0 hrs, w2 r 1 hrs, w2 r 2 hrs, w2 r 3 hrs, e15]
      exact y
  · by_cases hrn : r = nw
    · rw [hrn] at h3
      exact absurd w6 h3
    · have hrs : r < nw := by omega
      rw [w2 r 3 hrs] at h3
      exact (hold r hrs s v).trans (((c2 s s' hs hs' y).2 r hrs h3 v).trans (hold r hrs s' v).symm)
  · show (G s t ∧ ¬ trs Y U f P od i0 a0 n0 s t = 0) ↔ _
    rw [a2 s t hs ht]
    have hwt : (WTR Y V f P od (upv wa nw a0) (upv wn nw n0) (upv wi nw i0) s (nw + 1) t ↔ (WTR Y U f P od wa wn wi s nw t ∧ ¬ trs Y U f P od i0 a0 n0 s t = 0)) := by
      constructor
      · intro y
        refine ⟨fun r hr' h3 => ?_, ?_⟩
        · have y2 := y r (by omega) (by rw [w2 r 3 hr']; exact h3)
          rw [upv_ne hr', upv_ne hr', upv_ne hr', trs_same e15 e98] at y2
          exact y2
        · have y2 := y nw (by omega) w6
          rw [upv_eq, upv_eq, upv_eq, trs_same e15 e98] at y2
          exact y2
      · rintro ⟨y, y0⟩ r hr' h3
        by_cases hrn : r = nw
        · rw [hrn, upv_eq, upv_eq, upv_eq, trs_same e15 e98]
          exact y0
        · have hrs : r < nw := by omega
          rw [w2 r 3 hrs] at h3
          rw [upv_ne hrs, upv_ne hrs, upv_ne hrs, trs_same e15 e98]
          exact y r hrs h3
    have hwc : ∀ k, k < P → (WCHw Y V f P od (upv wa nw a0) (upv wn nw n0) (upv wi nw i0) (upv wk nw true) s (nw + 1) k (dgz f P t k) ↔ WCHw Y U f P od wa wn wi wk s nw k (dgz f P t k)) := fun k hk => by
      constructor
      · intro y r hr' h3
        have y2 := y r (by omega) (by rw [w2 r 3 hr']; exact h3)
        rw [e98] at y2
        exact (hold r hr' s _).mp y2
      · intro y r hr' h3
        rw [e98]
        by_cases hrn : r = nw
        · rw [hrn, w6] at h3
          exact absurd h3.symm (nI_neg1 (by omega))
        · have hrs : r < nw := by omega
          rw [w2 r 3 hrs] at h3
          exact (hold r hrs s _).mpr (y r hrs h3)
    constructor
    · rintro ⟨⟨g1, g2, g3, g4⟩, g5⟩
      exact ⟨g1, g2, fun k hk => (hwc k hk).mpr (g3 k hk), hwt.mpr ⟨g4, g5⟩⟩
    · rintro ⟨g1, g2, g3, g4⟩
      exact ⟨⟨g1, g2, fun k hk => (hwc k hk).mp (g3 k hk), (hwt.mp g4).1⟩, (hwt.mp g4).2⟩
end Valued
