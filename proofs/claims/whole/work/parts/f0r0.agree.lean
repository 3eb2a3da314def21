/-! RELATION as it stands: choices and truths by valuations and by STATES -/
section Agree
variable {P s k n N a0 N0 i0 dp cp c sh : Nat} {U : Ud} {Y : Ts} {od f : Nat → Nat} {mk mv al : Int32} {NX : Prop} {M : Nat → Prop} {es rs vn vn' vx vx' : Nat → Int32} {kd : Bool} {t14 t15 : Tb}
variable {Lk : List Bool}
theorem lvl_agrees {a i q : Nat} {ev ev' : Nat → Int32} (hW : JW Y) (hi : i < (Y 11).1) (hr : rgs Y (im Y i) Lk a (a + N)) (hP : P ≤ 14) (hq : q < N) (hlf : lfm t15 mk M Y P a N i) (ho : oc Y (a + q) ≤ 3) (h1 : AGR t15 Y mk 0 vn vn') (h2 : oc Y (a + q) = 3 → AGR t15 Y mk 14 vx vx') (he : ∀ e2, e2 < (Y 13).1 → M e2 → nmd Y i (a + q) = nI e2 → ev e2 = ev' e2) : lvl Y vn vx ev i (a + q) = lvl Y vn' vx' ev' i (a + q) := by
  have b15 := hW.2.2.2.2.2.2 15 (by decide)
  have b13 := hW.2.2.2.2.2.2 13 (by decide)
  by_cases h3 : oc Y (a + q) < 2
  · unfold lvl; rw [if_pos h3, if_pos h3]
  · have h23 : oc Y (a + q) = 2 ∨ oc Y (a + q) = 3 := by omega
    obtain ⟨r, er, hr1, hr2⟩ := rgs_ref hr hW hq h23
    obtain ⟨-, -, -, hkM, b1⟩ := hW.inst hi
    obtain ⟨lr1, lr2, lr3⟩ := hW.le hkM (c := 6) (j := 9) (by decide) (by decide) rfl
    have eoa : oa Y (a + q) = r := by unfold oa; rw [er]; exact nI_clamp (by omega)
    have hoc := oc_w hW (q := a + q) (by have := hr.2.1; omega)
    obtain ⟨l1, l2⟩ := hlf q hq h23
    rw [eoa] at l1 l2
    unfold lvl
    rw [if_neg h3, if_neg h3, eoa]
    rcases rch_ok hW hi hr1 hr2 with z | ⟨z, w, v, hw, ew, ev, hv⟩ | ⟨z, e2, he2, ee⟩
    · rw [if_pos z, if_pos z]
    · have n5 : ¬ (Y 9).2 r 2 = 5 := by rw [z]; decide
      rw [if_neg n5, if_neg n5, if_pos z, if_pos z, ew, nI_clamp (by omega)]
      rcases l1 z w hw ew with y | ⟨pl, y1, y2, y3⟩
      · by_cases h4 : oc Y (a + q) = 3
        · rw [if_pos h4, if_pos h4]; exact (h2 h4 w hw).1 y
        · rw [if_neg h4, if_neg h4]; exact (h1 w hw).1 y
      · by_cases h4 : oc Y (a + q) = 3
        · rw [if_pos h4] at y3
          rw [if_pos h4, if_pos h4]; exact (h2 h4 w hw).2 pl (by omega) y2 y3
        · rw [if_neg h4] at y3
          rw [if_neg h4, if_neg h4]; exact (h1 w hw).2 pl (by omega) y2 y3
    · have n5 : ¬ (Y 9).2 r 2 = 5 := by rcases z with z | z <;> (rw [z]; decide)
      have n3 : ¬ (Y 9).2 r 2 = 3 := by rcases z with z | z <;> (rw [z]; decide)
      rw [if_neg n5, if_neg n5, if_neg n3, if_neg n3, ee, nI_clamp (by omega)]
      refine he e2 he2 (l2 z e2 he2 ee) ?_
      unfold nmd
      rw [if_pos ⟨by rw [hoc]; rcases h23 with y | y <;> rw [y]; exact Or.inl rfl; exact Or.inr rfl, by rw [eoa]; exact z⟩, eoa]
      exact ee
theorem root_agrees (hW : JW Y) (hT : TOP Y t14 od) (hY : TYP Y es) (hP : P ≤ 14) (hLC : LC t15 Y P NX a0 N0 i0 cp dp mk M) (hi : i0 < (Y 11).1) (hr : rgs Y (im Y i0) Lk a0 (a0 + N0)) (h1 : AGR t15 Y mk 0 vn vn') (h2 : AGR t15 Y mk 14 vx vx') : svz Y (lvl Y vn vx (evz Y od vn) i0) a0 N0 = svz Y (lvl Y vn' vx' (evz Y od vn') i0) a0 N0 ∧ kvz Y (lvl Y vn vx (evz Y od vn) i0) a0 N0 = kvz Y (lvl Y vn' vx' (evz Y od vn') i0) a0 N0 := by
  have hl : ∀ x, x < N0 → oc Y (a0 + x) ≤ 3 → lvl Y vn vx (evz Y od vn) i0 (a0 + x) = lvl Y vn' vx' (evz Y od vn') i0 (a0 + x) := fun x hx ho =>
    lvl_agrees hW hi hr hP hx hLC.1.1 ho h1 (fun _ => h2) (fun e2 he2 hm2 hn => by
      obtain ⟨k, y1, y2⟩ := hT.1.2.2.2 e2 he2
      rw [← y2] at hm2 ⊢
      exact evz_agree hW hT hY hP hLC h1 k y1 hm2)
  exact ⟨svz_congr hl, kvz_congr hl⟩
end Agree
section Valued
variable {U V : Ud} {m P N0 sf ou N us nf nw l a0 n0 i0 k s s' t pl : Nat} {Y : Ts} {f od wa wn wi z bs lv : Nat → Nat} {nm tm : Nat → Int32} {oid : Nat → Nat → Nat} {S : Nat → Nat → Bool} {p : Nat → Bool} {es : Nat → Int32} {wk : Nat → Bool} {G : Nat → Nat → Prop} {mk a b c v : Int32} {bb : Bool} {rs : Nat → Int32} {al : Int32}
variable {Lk : List Bool}
theorem CHW_eq {l1 l2 : Nat → Int32} (h1 : svz Y l1 a0 n0 = svz Y l2 a0 n0) (h2 : kvz Y l1 a0 n0 = kvz Y l2 a0 n0) : CHW Y bb l1 a0 n0 v ↔ CHW Y bb l2 a0 n0 v := by
  unfold CHW chq
  rw [h1, h2]
/-- what the valuation of a STATE chooses is what the STATE chooses -/
theorem chs_state (hK : KNV m U Y P f od es) (hl : LDW U Y P f od a0 n0 i0) (hmk : U.2.1 100 4 = mk) (hnx : ¬ NXW Y (U.1 15) P a0 n0 i0) (hi : i0 < (Y 11).1) (hr : rgs Y (im Y i0) Lk a0 (a0 + n0)) (hs : s < pd f 0 P) : CHW Y bb (lvl Y (vlz U f mk 0 (pj mk f P P s)) (vlz U f mk 14 (pj mk f P P s)) (evz Y od (vlz U f mk 0 (pj mk f P P s))) i0) a0 n0 v ↔ CHSw Y U f P od bb a0 n0 i0 s v := by
  have hb := LDW.now hl hmk hnx
  obtain ⟨S0, K, dp, W, mk', M, rk, l1, l2, l3, l4⟩ := hl
  have emk : mk' = mk := l2.1.2.2.2.symm.trans hmk
  subst emk
  have hP := hK.P14
  obtain ⟨e1, e2⟩ := root_agrees hK.2.2.2.1.1 hK.2.2.2.2.1 hK.2.2.2.1.2.1 hP l3 hi hr (agr_state (U := U) hP (fun k _ => hK.2.1 k) hK.2.2.2.2.2.2 hb hs) (vx := vlz U f mk' 14 (pj mk' f P P s)) (vx' := vst U f P s) (fun w hw => ⟨fun e => by unfold vlz vst; rw [if_pos e, if_pos e], fun pl h14 e hm => by have := hb (pl + 14) (by omega) hm; omega⟩)
  exact CHW_eq e1 e2
/-- STATES that a mask does not part choose alike -/
theorem chs_mask (hK : KNV m U Y P f od es) (hl : LDW U Y P f od a0 n0 i0) (hmk : U.2.1 100 4 = mk) (hnx : ¬ NXW Y (U.1 15) P a0 n0 i0) (hi : i0 < (Y 11).1) (hr : rgs Y (im Y i0) Lk a0 (a0 + n0)) (hs : s < pd f 0 P) (hs' : s' < pd f 0 P) (he : pj mk f P P s = pj mk f P P s') : CHSw Y U f P od bb a0 n0 i0 s v ↔ CHSw Y U f P od bb a0 n0 i0 s' v := by
  rw [← chs_state hK hl hmk hnx hi hr hs, he]
  exact chs_state hK hl hmk hnx hi hr hs'
theorem pj_16 (hK : KNV m U Y P f od es) (hs : s < pd f 0 P) : pj mk f P P s < 16384 := by
  have y := pj_lt (mk := mk) (f := f) (P := P) (n := P) (fun k _ => hK.2.1 k) (Nat.le_refl P) s (by rw [Nat.sub_self]; exact hs)
  rw [wn_pm] at y
  have y2 := (pm_le (mk := mk) (f := f) (n := P) (fun k _ => hK.2.1 k)).2
  have y3 := hK.1.2.2.2.1.2.1
  omega
end Valued
