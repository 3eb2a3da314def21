/-! WHAT IS TRUE IN A STATE -/
/-- what a VARIABLE is in a STATE -/
def vst (U : Ud) (f : Nat → Nat) (P s w : Nat) : Int32 :=
  if (U.1 15).2 w 2 = -1 then (U.1 15).2 w 3 else (U.2.2.1 99 8).2 (sm f 0 ((U.1 15).2 w 2).toNatClampNeg + s / pd f (((U.1 15).2 w 2).toNatClampNeg + 1) (P - 1 - ((U.1 15).2 w 2).toNatClampNeg) % f ((U.1 15).2 w 2).toNatClampNeg)
/-- what an E is in a STATE -/
def tru (Y : Ts) (U : Ud) (f : Nat → Nat) (P : Nat) (od : Nat → Nat) (i0 a0 N0 s : Nat) : Int32 :=
  svz Y (lvl Y (vst U f P s) (vst U f P s) (evz Y od (vst U f P s)) i0) a0 N0 0
/-- the VALUES are of their VARIABLES' SORTS -/
def WTY (U : Ud) (Y : Ts) (f : Nat → Nat) (P : Nat) : Prop := ∀ w v, w < (Y 15).1 → (Y 15).2 w 0 = nI v → v < (Y 3).1 →
  ((U.1 15).2 w 2 = -1 ∨ ∃ pl, pl < P ∧ (U.1 15).2 w 2 = nI pl) ∧ ((U.1 15).2 w 2 = -1 → cfm (vso Y v) ((U.1 15).2 w 3)) ∧ ∀ pl, pl < P → (U.1 15).2 w 2 = nI pl → ∀ x, x < f pl → cfm (vso Y v) ((U.2.2.1 99 8).2 (sm f 0 pl + x))
section States
variable {P s k n N a0 N0 i0 dp cp c sh : Nat} {U : Ud} {Y : Ts} {od f : Nat → Nat} {mk mv al : Int32} {NX : Prop} {M : Nat → Prop} {es rs vn vn' vx vx' : Nat → Int32} {kd : Bool} {t14 t15 : Tb}
theorem VLS_vlz (h : WTY U Y f P) (hP : P ≤ 14) (hf : ∀ k, 1 ≤ f k) : VLS Y (vlz U f mv sh c) := by
  intro w v hw ev hv
  obtain ⟨h1, h2, h3⟩ := h w v hw ev hv
  unfold vlz
  rcases h1 with z | ⟨pl, z1, z2⟩
  · rw [if_pos z]; exact h2 z
  · rw [if_neg (by rw [z2]; exact nI_neg1 (by omega)), z2, nI_clamp (by omega)]
    exact h3 pl z1 z2 _ (Nat.mod_lt _ (hf pl))
theorem VLS_vst (h : WTY U Y f P) (hP : P ≤ 14) (hf : ∀ k, 1 ≤ f k) : VLS Y (vst U f P s) := by
  intro w v hw ev hv
  obtain ⟨h1, h2, h3⟩ := h w v hw ev hv
  unfold vst
  rcases h1 with z | ⟨pl, z1, z2⟩
  · rw [if_pos z]; exact h2 z
  · rw [if_neg (by rw [z2]; exact nI_neg1 (by omega)), z2, nI_clamp (by omega)]
    exact h3 pl z1 z2 _ (Nat.mod_lt _ (hf pl))
theorem wn_dvd {n' : Nat} (hb : ¬ mb mk (P - 1 - n') = 0) : ∀ n, n' < n → ∃ r, wn mk f P n = wn mk f P n' * (f (P - 1 - n') * r)
  | 0, h => absurd h (Nat.not_lt_zero _)
  | n + 1, h => by
    have e : wn mk f P (n + 1) = wn mk f P n * (if mb mk (P - 1 - n) = 0 then 1 else f (P - 1 - n)) := rfl
    by_cases e2 : n' = n
    · subst e2; rw [e, if_neg hb]; exact ⟨1, by rw [Nat.mul_one]⟩
    · obtain ⟨r, hr⟩ := wn_dvd hb n (by omega)
      exact ⟨r * (if mb mk (P - 1 - n) = 0 then 1 else f (P - 1 - n)), by rw [e, hr, Nat.mul_assoc, Nat.mul_assoc]⟩
theorem pd_dvd {n' : Nat} : ∀ n, n' < n → n ≤ P → ∃ r, pd f (P - n) n = pd f (P - n') n' * (f (P - 1 - n') * r)
  | 0, h, _ => absurd h (Nat.not_lt_zero _)
  | n + 1, h, hn => by
    have e := pd_next (f := f) (P := P) (n := n) (by omega)
    by_cases e2 : n' = n
    · subst e2; rw [e]; exact ⟨1, by rw [Nat.mul_one, Nat.mul_comm]⟩
    · obtain ⟨r, hr⟩ := pd_dvd (n' := n') n (by omega) (by omega)
      exact ⟨r * f (P - 1 - n), by rw [e, hr, Nat.mul_comm, Nat.mul_assoc, Nat.mul_assoc]⟩
theorem dm_add {x y a b r : Nat} (ha : 0 < a) : (x + y * (a * (b * r))) / a % b = x / a % b := by
  rw [show x + y * (a * (b * r)) = x + a * (b * (y * r)) by rw [← Nat.mul_assoc, Nat.mul_comm y a, Nat.mul_assoc, ← Nat.mul_assoc y b r, Nat.mul_comm y b, Nat.mul_assoc], Nat.add_mul_div_left _ _ ha, Nat.add_mul_mod_self_left]
theorem dm_mod {s a b r : Nat} (ha : 0 < a) : s % (a * (b * r)) / a % b = s / a % b := by
  have h := Nat.div_add_mod s (a * (b * r))
  have e : s / a % b = (s % (a * (b * r)) + s / (a * (b * r)) * (a * (b * r))) / a % b := by
    rw [Nat.mul_comm (s / (a * (b * r))), Nat.add_comm, h]
  rw [e, dm_add ha]
/-- the digits of a valuation, among those that a mask tells apart -/
theorem pj_digit (hf : ∀ k, k < P → 1 ≤ f k) {n' : Nat} (hb : ¬ mb mk (P - 1 - n') = 0) : ∀ n, n' < n → n ≤ P → ∀ s, s < pd f (P - n) n → pj mk f P n s / wn mk f P n' % f (P - 1 - n') = s / pd f (P - n') n' % f (P - 1 - n')
  | 0, h, _, _, _ => absurd h (Nat.not_lt_zero _)
  | n + 1, h, hn, s, hs => by
    have e : pj mk f P (n + 1) s = pj mk f P n (s % pd f (P - n) n) + (if mb mk (P - 1 - n) = 0 then 0 else s / pd f (P - n) n * wn mk f P n) := rfl
    have hD := pd_tail hf (k := P - n) (by omega)
    rw [show P - (P - n) = n by omega] at hD
    have hm : s % pd f (P - n) n < pd f (P - n) n := Nat.mod_lt _ (by omega)
    have hw := wn_le (mk := mk) (n := n') hf (by omega)
    have hpl := pj_lt (mk := mk) (n := n) hf (by omega) _ hm
    by_cases e2 : n' = n
    · subst e2
      rw [e, if_neg hb]
      have hsd : s / pd f (P - n') n' < f (P - 1 - n') := by
        rw [pd_next (by omega), Nat.mul_comm] at hs
        exact Nat.div_lt_of_lt_mul hs
      rw [Nat.add_comm, Nat.mul_comm, Nat.mul_add_div (by omega), Nat.div_eq_of_lt hpl, Nat.add_zero]
    · have ih := pj_digit hf hb n (by omega) (by omega) _ hm
      obtain ⟨r, hr⟩ := wn_dvd (mk := mk) (f := f) hb n (by omega)
      obtain ⟨r2, hr2⟩ := pd_dvd (f := f) (P := P) (n' := n') n (by omega) (by omega)
      have hD' := pd_tail hf (k := P - n') (by omega)
      rw [show P - (P - n') = n' by omega] at hD'
      have e3 : pj mk f P (n + 1) s / wn mk f P n' % f (P - 1 - n') = pj mk f P n (s % pd f (P - n) n) / wn mk f P n' % f (P - 1 - n') := by
        rw [e]
        split
        · rw [Nat.add_zero]
        · rw [hr]; exact dm_add (by omega)
      rw [e3, ih, hr2]
      exact dm_mod (by omega)
/-- VARIABLES that a mask has are alike -/
def AGR (t15 : Tb) (Y : Ts) (mk : Int32) (sh : Nat) (vn vn' : Nat → Int32) : Prop := ∀ w, w < (Y 15).1 → (t15.2 w 2 = -1 → vn w = vn' w) ∧ ∀ pl, pl < 14 → t15.2 w 2 = nI pl → ¬ mb mk (pl + sh) = 0 → vn w = vn' w
theorem lvl_agree {a i q : Nat} {ev ev' : Nat → Int32} (hW : JW Y) (hi : i < (Y 11).1) (hr : rg Y (im Y i) kd a (a + N)) (hP : P ≤ 14) (hq : q < N) (hlf : lfm t15 mk M Y P a N i) (ho : oc Y (a + q) ≤ 3) (h1 : AGR t15 Y mk 0 vn vn') (h2 : oc Y (a + q) = 3 → AGR t15 Y mk 14 vx vx') (he : ∀ e2, e2 < (Y 13).1 → M e2 → nmd Y i (a + q) = nI e2 → ev e2 = ev' e2) : lvl Y vn vx ev i (a + q) = lvl Y vn' vx' ev' i (a + q) := by
  have b15 := hW.2.2.2.2.2.2 15 (by decide)
  have b13 := hW.2.2.2.2.2.2 13 (by decide)
  by_cases h3 : oc Y (a + q) < 2
  · unfold lvl; rw [if_pos h3, if_pos h3]
  · have h23 : oc Y (a + q) = 2 ∨ oc Y (a + q) = 3 := by omega
    obtain ⟨r, er, hr1, hr2⟩ := rg_ref hr hW hq h23
    obtain ⟨-, -, -, hkM, b1⟩ := hW.inst hi
    obtain ⟨lr1, lr2, lr3⟩ := hW.le hkM (c := 6) (j := 9) (by decide) (by decide) rfl
    have eoa : oa Y (a + q) = r := by unfold oa; rw [er]; exact nI_clamp (by omega)
    have hoc := oc_w hW (q := a + q) (by have := hr.2.1; omega)
    obtain ⟨l1, l2⟩ := hlf q hq h23
    rw [eoa] at l1 l2
    unfold lvl
    rw [if_neg h3, if_neg h3, eoa]
    rcases rch_ok hW hi hr1 hr2 with z | ⟨z, w, v, hw, ew, ev, hv⟩ | ⟨z, e2, he2, ee⟩
    · rw [if_pos z, if_pos z]
    · have n5 : ¬ (Y 9).2 r 2 = 5 := by rw [z]; decide
      rw [if_neg n5, if_neg n5, if_pos z, if_pos z, ew, nI_clamp (by omega)]
      rcases l1 z w hw ew with y | ⟨pl, y1, y2, y3⟩
      · by_cases h4 : oc Y (a + q) = 3
        · rw [if_pos h4, if_pos h4]; exact (h2 h4 w hw).1 y
        · rw [if_neg h4, if_neg h4]; exact (h1 w hw).1 y
      · by_cases h4 : oc Y (a + q) = 3
        · rw [if_pos h4] at y3
          rw [if_pos h4, if_pos h4]; exact (h2 h4 w hw).2 pl (by omega) y2 y3
        · rw [if_neg h4] at y3
          rw [if_neg h4, if_neg h4]; exact (h1 w hw).2 pl (by omega) y2 y3
    · have n5 : ¬ (Y 9).2 r 2 = 5 := by rcases z with z | z <;> (rw [z]; decide)
      have n3 : ¬ (Y 9).2 r 2 = 3 := by rcases z with z | z <;> (rw [z]; decide)
      rw [if_neg n5, if_neg n5, if_neg n3, if_neg n3, ee, nI_clamp (by omega)]
      refine he e2 he2 (l2 z e2 he2 ee) ?_
      unfold nmd
      rw [if_pos ⟨by rw [hoc]; rcases h23 with y | y <;> rw [y]; exact Or.inl rfl; exact Or.inr rfl, by rw [eoa]; exact z⟩, eoa]
      exact ee
/-- what NAMES stand for is alike -/
theorem evz_agree (hW : JW Y) (hT : TOP Y t14 od) (hY : TYP Y es) (hP : P ≤ 14) (hLC : LC t15 Y P NX a0 N0 i0 cp dp mk M) (h1 : AGR t15 Y mk 0 vn vn') : ∀ k, k < (Y 13).1 → M (od k) → evz Y od vn (od k) = evz Y od vn' (od k) := by
  intro k
  induction k using Nat.strongRecOn with
  | ind k ih =>
    intro hk hm
    have he := (hT.1.2.1 k hk).2
    obtain ⟨-, -, -, hi, hr⟩ := en_ok hW he
    obtain ⟨rs, e1, e2, e3⟩ := hY.1 (od k) he
    rw [evz_eq hW hT hk, evz_eq hW hT hk]
    refine congrFun (svz_congr (fun x hx ho => ?_)) 0
    have h3 : ¬ oc Y (enx Y (od k) 0 + x) = 3 := fun z => by
      rcases (e1 x hx).2.1 (plen_0 ho) with y | y | ⟨-, y, -⟩
      · omega
      · omega
      · exact absurd (y z).2 (by decide)
    refine lvl_agree hW hi hr hP hx (hLC.2.1 _ he hm).1 ho h1 (fun z => absurd z h3) (fun e2 he2 hm2 hn => ?_)
    obtain ⟨k', y1, y2⟩ := hT.2 k hk _ e2 ⟨Nat.le_add_right _ _, by unfold elx at hx; omega, he2, hn⟩
    rw [← y2] at hm2 ⊢
    exact ih k' y1 (by omega) hm2
theorem root_agree (hW : JW Y) (hT : TOP Y t14 od) (hY : TYP Y es) (hP : P ≤ 14) (hLC : LC t15 Y P NX a0 N0 i0 cp dp mk M) (hi : i0 < (Y 11).1) (hr : rg Y (im Y i0) kd a0 (a0 + N0)) (h1 : AGR t15 Y mk 0 vn vn') (h2 : AGR t15 Y mk 14 vx vx') : svz Y (lvl Y vn vx (evz Y od vn) i0) a0 N0 = svz Y (lvl Y vn' vx' (evz Y od vn') i0) a0 N0 ∧ kvz Y (lvl Y vn vx (evz Y od vn) i0) a0 N0 = kvz Y (lvl Y vn' vx' (evz Y od vn') i0) a0 N0 := by
  have hl : ∀ x, x < N0 → oc Y (a0 + x) ≤ 3 → lvl Y vn vx (evz Y od vn) i0 (a0 + x) = lvl Y vn' vx' (evz Y od vn') i0 (a0 + x) := fun x hx ho =>
    lvl_agree hW hi hr hP hx hLC.1.1 ho h1 (fun _ => h2) (fun e2 he2 hm2 hn => by
      obtain ⟨k, y1, y2⟩ := hT.1.2.2.2 e2 he2
      rw [← y2] at hm2 ⊢
      exact evz_agree hW hT hY hP hLC h1 k y1 hm2)
  exact ⟨svz_congr hl, kvz_congr hl⟩
/-- the lane of a STATE agrees with it -/
theorem agr_state (hP : P ≤ 14) (hf : ∀ k, k < P → 1 ≤ f k) (hpl : ∀ w, w < (Y 15).1 → (U.1 15).2 w 2 = -1 ∨ ∃ pl, pl < P ∧ (U.1 15).2 w 2 = nI pl) (hb : ∀ k, k < 28 → ¬ mb mk k = 0 → k < P) (hs : s < pd f 0 P) : AGR (U.1 15) Y mk 0 (vlz U f mk 0 (pj mk f P P s)) (vst U f P s) := by
  intro w hw
  refine ⟨fun e => ?_, fun pl h14 e hm => ?_⟩
  · unfold vlz vst; rw [if_pos e, if_pos e]
  · have nm : ¬ (U.1 15).2 w 2 = -1 := by rw [e]; exact nI_neg1 (by omega)
    have hpP := hb pl (by omega) hm
    unfold vlz vst
    rw [if_neg nm, if_neg nm, e, nI_clamp (by omega)]
    congr 2
    have hw2 : wqz mk f (pl + 0) = wn mk f P (P - 1 - pl) := by
      unfold wqz
      rw [if_neg hm, Nat.add_zero, ← tqz_wn (f := f) hb hP (P - 1 - pl) (by omega), show 28 - P + (P - 1 - pl) = 27 - pl by omega]
    have z := pj_digit (mk := mk) hf (n' := P - 1 - pl) (by rw [show P - 1 - (P - 1 - pl) = pl by omega]; exact hm) P (by omega) (Nat.le_refl _) s (by rw [Nat.sub_self]; exact hs)
    rw [show P - 1 - (P - 1 - pl) = pl by omega, show P - (P - 1 - pl) = pl + 1 by omega] at z
    rw [hw2, z]
/-- what the lane of a STATE says is what is true in it -/
theorem trz_state (hW : JW Y) (hT : TOP Y t14 od) (hY : TYP Y es) (hP : P ≤ 14) (hLC : LC (U.1 15) Y P NX a0 N0 i0 cp dp mk M) (hnx : ¬ NX) (hi : i0 < (Y 11).1) (hr : rg Y (im Y i0) kd a0 (a0 + N0)) (hf : ∀ k, k < P → 1 ≤ f k) (hpl : ∀ w, w < (Y 15).1 → (U.1 15).2 w 2 = -1 ∨ ∃ pl, pl < P ∧ (U.1 15).2 w 2 = nI pl) (hs : s < pd f 0 P) : trz Y U f mk od i0 a0 N0 (pj mk f P P s) = tru Y U f P od i0 a0 N0 s := by
  have hb : ∀ k, k < 28 → ¬ mb mk k = 0 → k < P := fun k hk hm => by
    have z := hLC.2.2 k (by omega) hm
    have : k < 14 := Nat.lt_of_not_le (fun y => hnx (z.2.2 y))
    have := z.2.1
    omega
  refine congrFun (root_agree hW hT hY hP hLC hi hr (agr_state hP hf hpl hb hs) (fun w hw => ⟨fun e => ?_, fun pl h14 e hm => ?_⟩)).1 0
  · unfold vlz vst; rw [if_pos e, if_pos e]
  · have := hb (pl + 14) (by omega) hm; omega
end States
