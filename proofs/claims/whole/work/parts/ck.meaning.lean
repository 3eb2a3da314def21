/-! WHAT AN E MEANS; what NAMES stand for -/
/-- what a leaf is, by what the VARIABLES are now and next, and what NAMES stand for -/
def lvl (Y : Ts) (vn vx ev : Nat → Int32) (i q : Nat) : Int32 :=
  if oc Y q < 2 then (Y 0).2 q 1 else if (Y 9).2 (oa Y q) 2 = 5 then rch Y (oa Y q) i
  else if (Y 9).2 (oa Y q) 2 = 3 then (if oc Y q = 3 then vx (rch Y (oa Y q) i).toNatClampNeg else vn (rch Y (oa Y q) i).toNatClampNeg)
  else ev (rch Y (oa Y q) i).toNatClampNeg
/-- what the first k of the order are -/
def evk (Y : Ts) (od : Nat → Nat) (vn : Nat → Int32) : Nat → Nat → Int32
  | 0, _ => 0
  | k + 1, e => if e = od k then svz Y (lvl Y vn vn (evk Y od vn k) (enx Y e 2)) (enx Y e 0) (elx Y e) 0 else evk Y od vn k e
def evz (Y : Ts) (od : Nat → Nat) (vn : Nat → Int32) : Nat → Int32 := evk Y od vn (Y 13).1
/-- numbers have 16 bits -/
def NUM (Y : Ts) : Prop := ∀ p, p < (Y 0).1 → oc Y p = 1 → okn ((Y 0).2 p 1)
/-- what VARIABLES are is of their SORTS -/
def VLS (Y : Ts) (vn : Nat → Int32) : Prop := ∀ w v, w < (Y 15).1 → (Y 15).2 w 0 = nI v → v < (Y 3).1 → cfm (vso Y v) (vn w)
section Meaning
variable {Y W : Ts} {vn vx ev ev' es : Nat → Int32} {od : Nat → Nat} {i q r a n k N : Nat} {al x : Int32} {rs lv lv' : Nat → Int32} {t14 : Tb}
/-- what a NAME reaches is there -/
theorem rch_ok (hW : JW W) (hi : i < (W 11).1) (hr1 : sp W (im W i) 6 ≤ r) (hr2 : r < sp W (im W i + 1) 6) : (W 9).2 r 2 = 5 ∨ ((W 9).2 r 2 = 3 ∧ ∃ w v, w < (W 15).1 ∧ rch W r i = nI w ∧ (W 15).2 w 0 = nI v ∧ v < (W 3).1) ∨ (((W 9).2 r 2 = 1 ∨ (W 9).2 r 2 = 2) ∧ ∃ e, e < (W 13).1 ∧ rch W r i = nI e) := by
  have b := hW.2.2.2.2.2.2
  have b9 := b 9 (by decide)
  have b10 := b 10 (by decide)
  have b11 := b 11 (by decide)
  obtain ⟨a, l, Q, ka1, ka2, kal, hQ, hwk, hkn⟩ := hW.2.2.2.2.1 i hi r hr1 hr2
  have hfw0 : fw W (W 10) (im W i) (a + 0) (l - 1 - 0) Q := wk_fw hwk 0 Q rfl
  have go : ∀ y, y ≤ l - 1 → rci W a i y < (W 11).1 ∧ fw W (W 10) (im W (rci W a i y)) (a + y) (l - 1 - y) Q := by
    intro y
    induction y with
    | zero => intro _; exact ⟨hi, hfw0⟩
    | succ y ih =>
      intro hy
      obtain ⟨hi1, hfw⟩ := ih (by omega)
      obtain ⟨ji1, ji2, ji3, ji4, ji5⟩ := hW.inst hi1
      obtain ⟨lv1, lv2, lv3⟩ := hW.le ji4 (c := 2) (j := 3) (by decide) (by decide) rfl
      rw [show l - 1 - y = (l - 1 - (y + 1)) + 1 by omega] at hfw
      obtain ⟨vv, q2, hq1, hv, hty, hst, hq4, hfw2⟩ := hfw
      obtain ⟨i2, hi2, ei2, em2⟩ := (hW.2.1 _ hi1 vv hv.1 hv.2).1 hty
      have hq2 := fw_lt hQ hfw2
      have e : rci W a i (y + 1) = i2 := by
        show ((W 12).2 (ia W (rci W a i y) + ((W 10).2 (a + y) 0).toNatClampNeg) 0).toNatClampNeg = i2
        rw [hst, nI_clamp (by omega), ei2]
        exact nI_clamp (by omega)
      rw [e, em2, hq4, nI_clamp (by omega)]
      exact ⟨hi2, hfw2⟩
  obtain ⟨hi1, hfw⟩ := go (l - 1) (Nat.le_refl _)
  rw [Nat.sub_self] at hfw
  have hQe : Q = im W (rci W a i (l - 1)) := hfw
  have hq0 : rq2 W r i = rci W a i (l - 1) := by unfold rq2; rw [ka1, ka2, nI_clamp (by omega), nI_clamp (by omega)]
  rw [hQe] at hkn
  obtain ⟨ji1, ji2, ji3, ji4, ji5⟩ := hW.inst hi1
  rcases hkn with z | ⟨z, tv, et, htv, hnt⟩ | ⟨z, tv, et, ht1, ht2⟩ | ⟨z, tv, et, ht1, ht2⟩
  · exact Or.inl z
  · obtain ⟨lv1, lv2, lv3⟩ := hW.le ji4 (c := 2) (j := 3) (by decide) (by decide) rfl
    obtain ⟨ww, hww, ew, ew2⟩ := (hW.2.1 _ hi1 tv htv.1 htv.2).2 hnt
    refine Or.inr (Or.inl ⟨z, ww, tv, hww, ?_, ew2, by have := htv.2; omega⟩)
    unfold rch
    rw [if_neg (by rw [z]; decide), if_pos z, hq0, et, nI_clamp (by have := htv.2; omega)]
    exact ew
  · have e3 : ndU W (im W (rci W a i (l - 1))) = sp W (im W (rci W a i (l - 1)) + 1) 3 - sp W (im W (rci W a i (l - 1))) 3 := rfl
    refine Or.inr (Or.inr ⟨Or.inr z, ie W (rci W a i (l - 1)) + (tv - sp W (im W (rci W a i (l - 1))) 3) + np W (im W (rci W a i (l - 1))), by omega, ?_⟩)
    unfold rch
    rw [if_neg (by rw [z]; decide), if_neg (by rw [z]; decide), if_neg (by rw [z]; decide), hq0, (hW.1 _ hi1).1.2.2.1, (hW.1 _ hi1).1.2.2.2, et, nI_add, nI_add]
  · have e1 : np W (im W (rci W a i (l - 1))) = sp W (im W (rci W a i (l - 1)) + 1) 1 - sp W (im W (rci W a i (l - 1))) 1 := rfl
    refine Or.inr (Or.inr ⟨Or.inl z, ie W (rci W a i (l - 1)) + (tv - sp W (im W (rci W a i (l - 1))) 1), by omega, ?_⟩)
    unfold rch
    rw [if_neg (by rw [z]; decide), if_neg (by rw [z]; decide), if_pos z, hq0, (hW.1 _ hi1).1.2.2.1, et, nI_add]
theorem svz_congr (h : ∀ x, x < n → oc Y (a + x) ≤ 3 → lv (a + x) = lv' (a + x)) : svz Y lv a n = svz Y lv' a n := by
  induction n with
  | zero => rfl
  | succ n ih =>
    have i := ih (fun x hx => h x (by omega))
    funext k
    show (if k = tpz Y a n - plen (oc Y (a + n)) (oa Y (a + n)) then (if oc Y (a + n) ≤ 3 then lv (a + n) else if oc Y (a + n) = 32 ∨ oc Y (a + n) = 33 then nI (snz Y a n) else ro (svz Y lv a n) (nI (oc Y (a + n))) (tpz Y a n - plen (oc Y (a + n)) (oa Y (a + n))) (tpz Y a n)) else svz Y lv a n k) = (if k = tpz Y a n - plen (oc Y (a + n)) (oa Y (a + n)) then (if oc Y (a + n) ≤ 3 then lv' (a + n) else if oc Y (a + n) = 32 ∨ oc Y (a + n) = 33 then nI (snz Y a n) else ro (svz Y lv' a n) (nI (oc Y (a + n))) (tpz Y a n - plen (oc Y (a + n)) (oa Y (a + n))) (tpz Y a n)) else svz Y lv' a n k)
    rw [i]
    by_cases h3 : oc Y (a + n) ≤ 3
    · rw [if_pos h3, if_pos h3, h n (by omega) h3]
    · rw [if_neg h3, if_neg h3]
theorem kvz_congr (h : ∀ x, x < n → oc Y (a + x) ≤ 3 → lv (a + x) = lv' (a + x)) : kvz Y lv a n = kvz Y lv' a n := by
  induction n with
  | zero => rfl
  | succ n ih =>
    have i := ih (fun x hx => h x (by omega))
    have j := svz_congr (Y := Y) (a := a) (n := n) (fun x hx => h x (by omega))
    funext x
    show (if (oc Y (a + n) = 32 ∨ oc Y (a + n) = 33) ∧ sfz Y a n ≤ x then svz Y lv a n (tpz Y a n - plen (oc Y (a + n)) (oa Y (a + n)) + (x - sfz Y a n)) else kvz Y lv a n x) = (if (oc Y (a + n) = 32 ∨ oc Y (a + n) = 33) ∧ sfz Y a n ≤ x then svz Y lv' a n (tpz Y a n - plen (oc Y (a + n)) (oa Y (a + n)) + (x - sfz Y a n)) else kvz Y lv' a n x)
    rw [i, j]
theorem evk_keep (hT : ORD t14 (Y 13).1 od) {q k k2 : Nat} (h1 : q < k) (h2 : k ≤ k2) (h3 : k2 ≤ (Y 13).1) : evk Y od vn k2 (od q) = evk Y od vn k (od q) := by
  induction k2 with
  | zero => rw [Nat.le_zero.mp h2]
  | succ k2 ih =>
    by_cases e : k = k2 + 1
    · rw [e]
    · rw [← ih (by omega) (by omega)]
      show (if od q = od k2 then _ else evk Y od vn k2 (od q)) = _
      rw [if_neg (hT.2.2.1 q k2 (by omega) (by omega))]
/-- a leaf's NAMES are ordered before -/
theorem lvl_ev (hW : JW Y) (hi : i < (Y 11).1) (hr : ∃ r, (Y 0).2 q 1 = nI r ∧ sp Y (im Y i) 6 ≤ r ∧ r < sp Y (im Y i + 1) 6) (h0 : (Y 0).2 q 0 = nI (oc Y q)) (h3 : oc Y q = 2 ∨ oc Y q = 3) (he : ∀ e2, e2 < (Y 13).1 → nmd Y i q = nI e2 → ev e2 = ev' e2) : lvl Y vn vx ev i q = lvl Y vn vx ev' i q := by
  obtain ⟨r, er, h1, h2⟩ := hr
  obtain ⟨-, -, -, hkM, b1⟩ := hW.inst hi
  obtain ⟨lr1, lr2, lr3⟩ := hW.le hkM (c := 6) (j := 9) (by decide) (by decide) rfl
  have eoa : oa Y q = r := by unfold oa; rw [er]; exact nI_clamp (by omega)
  have b13 := hW.2.2.2.2.2.2 13 (by decide)
  have n2 : ¬ oc Y q < 2 := by omega
  unfold lvl
  rw [if_neg n2, if_neg n2, eoa]
  rcases rch_ok hW hi h1 h2 with z | ⟨z, -⟩ | ⟨z, e2, he2, ee⟩
  · rw [if_pos z, if_pos z]
  · have n5 : ¬ (Y 9).2 r 2 = 5 := by rw [z]; decide
    rw [if_neg n5, if_pos z, if_neg n5, if_pos z]
  · have n5 : ¬ (Y 9).2 r 2 = 5 := by rcases z with z | z <;> (rw [z]; decide)
    have n3 : ¬ (Y 9).2 r 2 = 3 := by rcases z with z | z <;> (rw [z]; decide)
    rw [if_neg n5, if_neg n3, if_neg n5, if_neg n3, ee, nI_clamp (by omega)]
    refine he e2 he2 ?_
    unfold nmd
    rw [if_pos ⟨by rw [h0]; rcases h3 with y | y <;> rw [y]; exact Or.inl rfl; exact Or.inr rfl, by rw [eoa]; exact z⟩, eoa]
    exact ee
theorem rg_ref {kd : Bool} (hr : rg Y k kd a (a + N)) (hW : JW Y) (hn : n < N) (h : oc Y (a + n) = 2 ∨ oc Y (a + n) = 3) : ∃ r, (Y 0).2 (a + n) 1 = nI r ∧ sp Y k 6 ≤ r ∧ r < sp Y (k + 1) 6 :=
  hr.2.2.2 _ (Nat.le_add_right _ _) (by omega) (nm_of hW (by have := hr.2.1; omega) h)
/-- what an entry is, by what its parts are -/
theorem evz_eq (hW : JW Y) (hT : TOP Y t14 od) (hk : k < (Y 13).1) : evz Y od vn (od k) = svz Y (lvl Y vn vn (evz Y od vn) (enx Y (od k) 2)) (enx Y (od k) 0) (elx Y (od k)) 0 := by
  have he := (hT.1.2.1 k hk).2
  obtain ⟨-, -, -, hi, hr⟩ := en_ok hW he
  have e1 : evz Y od vn (od k) = evk Y od vn (k + 1) (od k) := evk_keep hT.1 (by omega) (by omega) (Nat.le_refl _)
  have e2 : evk Y od vn (k + 1) (od k) = svz Y (lvl Y vn vn (evk Y od vn k) (enx Y (od k) 2)) (enx Y (od k) 0) (elx Y (od k)) 0 := if_pos rfl
  rw [e1, e2]
  refine congrFun (svz_congr (fun x hx ho => ?_)) 0
  by_cases h2 : oc Y (enx Y (od k) 0 + x) < 2
  · unfold lvl; rw [if_pos h2, if_pos h2]
  · refine lvl_ev hW hi (rg_ref hr hW hx (by omega)) (oc_w hW (by have := hr.2.1; omega)) (by omega) (fun e2 he2 hn => ?_)
    obtain ⟨k', h1, h3⟩ := hT.2 k hk _ e2 ⟨Nat.le_add_right _ _, by unfold elx at hx; omega, he2, hn⟩
    rw [← h3]
    exact (evk_keep hT.1 h1 (by omega) (Nat.le_refl _)).symm
/-- a leaf is of its SORT -/
theorem lvl_cfm (hW : JW Y) (hN : NUM Y) (hq : q < (Y 0).1) (hl : lok Y es i al q x) (hvn : VLS Y vn) (hvx : VLS Y vx) (hev : ∀ e2, e2 < (Y 13).1 → nmd Y i q = nI e2 → cfm (es e2) (ev e2)) : cfm x (lvl Y vn vx ev i q) := by
  have b13 := hW.2.2.2.2.2.2 13 (by decide)
  have b15 := hW.2.2.2.2.2.2 15 (by decide)
  have h0 := oc_w hW hq
  unfold lvl
  rcases hl with ⟨z1, z2⟩ | ⟨z1, z2⟩ | ⟨z1, z2, z3⟩
  · rw [if_pos (by omega), z2]
    obtain ⟨k, hk, e, hk0, -⟩ := hW.2.2.2.2.2.1.2 q hq
    have : oc Y q = k := by unfold oc; rw [e]; exact nI_clamp (by omega)
    exact cfm_1 (hk0 (by omega))
  · rw [if_pos (by omega), z2]; exact cfm_2 (hN q hq z1)
  · rw [if_neg (by omega)]
    rcases z3 with ⟨y1, y2⟩ | ⟨y1, w, v, y2, y3, y4, y5, y6⟩ | ⟨y1, e2, y2, y3, y4⟩
    · rw [if_pos y1, y2]; exact cfm_3
    · rw [if_neg (by rw [y1]; decide), if_pos y1, y3, nI_clamp (by omega), y6]
      split
      · exact hvx w v y2 y4 y5
      · exact hvn w v y2 y4 y5
    · have n5 : ¬ (Y 9).2 (oa Y q) 2 = 5 := by rcases y1 with z | z <;> (rw [z]; decide)
      have n3 : ¬ (Y 9).2 (oa Y q) 2 = 3 := by rcases y1 with z | z <;> (rw [z]; decide)
      rw [if_neg n5, if_neg n3, y3, nI_clamp (by omega), y4]
      refine hev e2 y2 ?_
      unfold nmd
      rw [if_pos ⟨by rw [h0]; rcases z1 with z | z <;> rw [z]; exact Or.inl rfl; exact Or.inr rfl, y1⟩]
      exact y3
/-- entries are of their SORTS -/
theorem evz_cfm (hW : JW Y) (hT : TOP Y t14 od) (hY : TYP Y es) (hN : NUM Y) (hv : VLS Y vn) : ∀ k, k < (Y 13).1 → cfm (es (od k)) (evz Y od vn (od k)) := by
  intro k
  induction k using Nat.strongRecOn with
  | ind k ih =>
    intro hk
    have he := (hT.1.2.1 k hk).2
    obtain ⟨-, -, -, hi, hr⟩ := en_ok hW he
    obtain ⟨rs, h1, h2, h3⟩ := hY.1 (od k) he
    rw [evz_eq hW hT hk, h2]
    have h1p := rg_1 hr
    rw [Nat.add_sub_cancel_left] at h1p
    have hkd : kdz Y (enx Y (od k) 0) (elx Y (od k)) 0 = false := by
      have z := kst_kd hr.2.2.1 0 (by rw [Nat.add_sub_cancel_left]; omega)
      rw [Nat.add_sub_cancel_left, h1p] at z
      exact (Option.some.inj z).symm
    refine typ_n hW.2.2.2.2.2.1.2 hr h1 (by decide) (fun n hn ho => ?_) _ (Nat.le_refl _) 0 (by omega) hkd
    refine lvl_cfm hW hN (by have := hr.2.1; omega) ((h1 n hn).2.1 (plen_0 ho)) hv hv (fun e2 he2 hn2 => ?_)
    obtain ⟨k', y1, y2⟩ := hT.2 k hk _ e2 ⟨Nat.le_add_right _ _, by unfold elx at hn; omega, he2, hn2⟩
    rw [← y2]
    exact ih k' y1 (by omega)
theorem evz_all (hW : JW Y) (hT : TOP Y t14 od) (hY : TYP Y es) (hN : NUM Y) (hv : VLS Y vn) {e : Nat} (he : e < (Y 13).1) : cfm (es e) (evz Y od vn e) := by
  obtain ⟨k, h1, h2⟩ := hT.1.2.2.2 e he
  rw [← h2]
  exact evz_cfm hW hT hY hN hv k h1
end Meaning
