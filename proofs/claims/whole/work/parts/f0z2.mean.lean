/-! THE RELATION: what its rows leave of a step -/
def upv {α : Type} (g : Nat → α) (n : Nat) (v : α) : Nat → α := fun r => if r = n then v else g r
theorem upv_eq {α : Type} {g : Nat → α} {n : Nat} {v : α} : upv g n v n = v := if_pos rfl
theorem upv_ne {α : Type} {g : Nat → α} {n r : Nat} {v : α} (h : r < n) : upv g n v r = g r := if_neg (by omega)
section Index
variable {P s n k : Nat} {f dg : Nat → Nat} {mk : Int32}
theorem ixz_pj (hs : s < pd f 0 P) : ixz mk f (dgzU f P s) P = pj mk f P P s := by
  have key : ∀ n, n ≤ P → ixz mk f (dgzU f P s) P = ixz mk f (dgzU f P s) (P - n) * wn mk f P n + pj mk f P n (s % pd f (P - n) n) := by
    intro n
    induction n with
    | zero =>
      intro _
      show _ = ixz mk f (dgzU f P s) (P - 0) * 1 + 0
      rw [Nat.sub_zero, Nat.mul_one, Nat.add_zero]
    | succ n ih =>
      intro hn
      rw [ih (by omega)]
      obtain ⟨k, hk⟩ : ∃ k, k = P - (n + 1) := ⟨_, rfl⟩
      have e1 : P - n = k + 1 := by omega
      have e2 : P - 1 - n = k := by omega
      have hd : pd f k (n + 1) = f k * pd f (k + 1) n := pd_head n
      have e3 : dgzU f P s k = s / pd f (k + 1) n % f k := by
        unfold dgzU
        rw [show P - 1 - k = n by omega]
      show ixz mk f (dgzU f P s) (P - n) * wn mk f P n + pj mk f P n (s % pd f (P - n) n) = ixz mk f (dgzU f P s) (P - (n + 1)) * (wn mk f P n * (if mb mk (P - 1 - n) = 0 then 1 else f (P - 1 - n))) + (pj mk f P n (s % pd f (P - (n + 1)) (n + 1) % pd f (P - n) n) + (if mb mk (P - 1 - n) = 0 then 0 else s % pd f (P - (n + 1)) (n + 1) / pd f (P - n) n * wn mk f P n))
      rw [← hk, e1, e2, hd]
      have m1 : s % (f k * pd f (k + 1) n) % pd f (k + 1) n = s % pd f (k + 1) n := Nat.mod_mod_of_dvd s (Nat.dvd_mul_left _ _)
      have m2 : s % (f k * pd f (k + 1) n) / pd f (k + 1) n = s / pd f (k + 1) n % f k := by
        rw [Nat.mul_comm (f k), Nat.mod_mul_right_div_self]
      by_cases hb : mb mk k = 0
      · rw [if_pos hb, if_pos hb, show ixz mk f (dgzU f P s) (k + 1) = ixz mk f (dgzU f P s) k from if_pos hb, m1, Nat.mul_one]
        rfl
      · rw [if_neg hb, if_neg hb, show ixz mk f (dgzU f P s) (k + 1) = ixz mk f (dgzU f P s) k * f k + dgzU f P s k from if_neg hb, m1, m2, ← e3, Nat.add_mul, Nat.mul_assoc, Nat.mul_comm (f k)]
        omega
  have z := key P (Nat.le_refl P)
  rw [Nat.sub_self, Nat.mod_eq_of_lt hs] at z
  rw [z]
  show 0 * _ + _ = _
  rw [Nat.zero_mul, Nat.zero_add]
theorem ixz_one (hk : k < P) (hP : P ≤ 14) : ixz ((1 : Int32) <<< (nI k &&& 31)) f dg P = dg k := by
  have key : ∀ n, n ≤ P → ixz ((1 : Int32) <<< (nI k &&& 31)) f dg n = if k < n then dg k else 0 := by
    intro n
    induction n with
    | zero => intro _; exact (if_neg (Nat.not_lt_zero k)).symm
    | succ n ih =>
      intro hn
      have ih := ih (by omega)
      have hb := mb_one (k := k) (j := n) (by omega) (by omega)
      by_cases e : n = k
      · rw [show ixz ((1 : Int32) <<< (nI k &&& 31)) f dg (n + 1) = ixz ((1 : Int32) <<< (nI k &&& 31)) f dg n * f n + dg n from if_neg (hb.mpr e), ih, if_neg (by omega), if_pos (by omega), Nat.zero_mul, Nat.zero_add, e]
      · have hb0 : mb ((1 : Int32) <<< (nI k &&& 31)) n = 0 := Decidable.not_not.mp (fun y => e (hb.mp y))
        rw [show ixz ((1 : Int32) <<< (nI k &&& 31)) f dg (n + 1) = ixz ((1 : Int32) <<< (nI k &&& 31)) f dg n from if_pos hb0, ih]
        by_cases c : k < n
        · rw [if_pos c, if_pos (by omega)]
        · rw [if_neg c, if_neg (by omega)]
  rw [key P (Nat.le_refl P), if_pos hk]
end Index
/-- a row of factors leaves a step -/
def FLV (P : Nat) (f : Nat → Nat) (S : Nat → Nat → Bool) (nm tm : Nat → Int32) (oid : Nat → Nat → Nat) (r s t : Nat) : Prop := S (oid r (ixz (nm r) f (dgzU f P s) P)) (ixz (tm r) f (dgzU f P t) P) = true
/-- a wide row leaves a step -/
def WLV (Y : Ts) (V : Ud) (P : Nat) (f od wa wn wi : Nat → Nat) (wk : Nat → Bool) (r s t : Nat) : Prop := ((V.1 25).2 r 4 = 0 → ∀ pl, pl < P → (V.1 25).2 r 3 = nI pl → CHSw Y V f P od (wk r) (wa r) (wn r) (wi r) s ((V.2.2.1 99 8).2 (sm f 0 pl + dgzU f P t pl))) ∧ ((V.1 25).2 r 4 = 1 → ¬ wn r = 0 → trs Y V f P od (wi r) (wa r) (wn r) s t = 1)
section Mean
variable {U V : Ud} {m P N nf nw nb b s t i a k pl : Nat} {Y : Ts} {f od wa wn wi bs lv lc dg : Nat → Nat} {wk : Nat → Bool} {es : Nat → Int32} {nm tm : Nat → Int32} {bo oid : Nat → Nat → Nat} {S : Nat → Nat → Bool} {p : Nat → Bool}
theorem ixz_zero : ∀ n, n ≤ 14 → ixz 0 f dg n = 0
  | 0, _ => rfl
  | n + 1, h => by
    show (if mb 0 n = 0 then ixz 0 f dg n else ixz 0 f dg n * f n + dg n) = 0
    rw [if_pos (mb_0 n (by omega))]
    exact ixz_zero n (by omega)
theorem pm_zero : ∀ n, n ≤ 14 → pm 0 f n = 1
  | 0, _ => rfl
  | n + 1, h => by
    show pm 0 f n * (if mb 0 n = 0 then 1 else f n) = 1
    rw [if_pos (mb_0 n (by omega)), Nat.mul_one]
    exact pm_zero n (by omega)
theorem wq_one (hp : pl < 14) : wqz ((1 : Int32) <<< (nI (pl + 14) &&& 31)) f (pl + 14) = 1 := by
  unfold wqz
  rw [if_neg ((mb_one (by omega) (by omega)).mpr rfl), tqz_one (by omega) _ (by omega), if_neg (by omega)]
theorem vlz_one {w : Nat} (hp : pl < 14) (h : (U.1 15).2 w 2 = nI pl) (ht : k < f pl) : vlz U f ((1 : Int32) <<< (nI (pl + 14) &&& 31)) 14 k w = (U.2.2.1 99 8).2 (sm f 0 pl + k) := by
  have nm1 : ¬ (U.1 15).2 w 2 = -1 := by rw [h]; exact nI_neg1 (by omega)
  unfold vlz
  rw [if_neg nm1, h, nI_clamp (by omega), wq_one hp, Nat.div_one, Nat.mod_eq_of_lt ht]
theorem vlz_no {w : Nat} {mv : Int32} {sh c : Nat} (h : (U.1 15).2 w 2 = -1) : vlz U f mv sh c w = (U.1 15).2 w 3 := if_pos h
/-- a truth that names next of one VARIABLE alone -/
theorem trp_trs (hK : KNV m U Y P f od es) (hi : i < (Y 11).1) (hr : rg Y (im Y i) false a (a + N)) (hpl : pl < P) (hone : ∀ q, NXP Y (U.1 15) P a N i q → q = pl) : trp Y U f P od i a N s pl (dgzU f P t pl) = trs Y U f P od i a N s t := by
  have hP := hK.P14
  have hW := hK.2.2.2.1.1
  have hdl : dgzU f P t pl < f pl := Nat.mod_lt _ (hK.2.1 pl)
  unfold trp trs
  refine congrFun (svz_congr (fun x hx ho => ?_)) 0
  unfold lvl
  by_cases h0 : oc Y (a + x) < 2
  · rw [if_pos h0, if_pos h0]
  · rw [if_neg h0, if_neg h0]
    by_cases k5 : (Y 9).2 (oa Y (a + x)) 2 = 5
    · rw [if_pos k5, if_pos k5]
    · rw [if_neg k5, if_neg k5]
      by_cases k3 : (Y 9).2 (oa Y (a + x)) 2 = 3
      · rw [if_pos k3, if_pos k3]
        by_cases o3 : oc Y (a + x) = 3
        · rw [if_pos o3, if_pos o3]
          obtain ⟨r, er, hr1, hr2⟩ := rg_ref hr hW hx (Or.inr o3)
          obtain ⟨-, -, -, hkM, b1⟩ := hW.inst hi
          obtain ⟨lr1, lr2, lr3⟩ := hW.le hkM (c := 6) (j := 9) (by decide) (by decide) rfl
          have eoa : oa Y (a + x) = r := by unfold oa; rw [er]; exact nI_clamp (by omega)
          have hw : ∃ w, w < (Y 15).1 ∧ rch Y (oa Y (a + x)) i = nI w := by
            rw [eoa] at k3 k5 ⊢
            rcases rch_ok hW hi hr1 hr2 with y | ⟨-, w, v, y1, y2, -⟩ | ⟨y, -⟩
            · exact absurd y k5
            · exact ⟨w, y1, y2⟩
            · rcases y with y | y
              · exact absurd (k3.symm.trans y) (by decide)
              · exact absurd (k3.symm.trans y) (by decide)
          obtain ⟨w, hw1, hw2⟩ := hw
          have hY15 := hW.2.2.2.2.2.2 15 (by decide)
          rw [hw2, nI_clamp (by omega)]
          rcases hK.2.2.2.2.2.2 w hw1 with y | ⟨q, hq, y⟩
          · rw [vlz_no y, vst_m1 y]
          · have eq1 : q = pl := hone q ⟨x, hx, o3, k3, w, hw1, hq, hw2, y⟩
            rw [eq1] at y
            rw [vlz_one (by omega) y hdl, vst_pl y (by omega)]
        · rw [if_neg o3, if_neg o3]
      · rw [if_neg k3, if_neg k3]
/-- what one STATE can GO to by a branch: all rows that count leave it -/
theorem goe_rows (hK : KNV m U Y P f od es) (hF : FAC U P f nf nm tm bs lv oid N S p) (hlc : ∀ r, r < nf → lc r = lcz tm lv P r) (hWD : WIDw Y es P (U.1 15) (U.1 25) nw wa wn wi wk) (hb : BIN nb b) (hB0 : BOK nb bo 0 nf) (hB1 : BOK nb bo 1 nw) (hs : s < pd f 0 P) : GOEb Y U P f od S nf nm tm lv lc oid nw wa wn wi wk nb bo s b t ↔ bts (U.2.2.2.2.1 124) t = true ∧ (∀ r, fin nb bo b 0 nf r → FLV P f S nm tm oid r s t) ∧ ∀ r, fin nb bo b 1 nw r → WLV Y U P f od wa wn wi wk r s t := by
  have hP := hK.P14
  have hix : ∀ r, r < nf → ixz (nm r) f (dgzU f P s) P < pm (nm r) f P := fun r _ => by
    have hf' : ∀ k, k < P → 1 ≤ f k := fun k _ => hK.2.1 k
    have y := pj_lt (mk := nm r) (f := f) (P := P) (n := P) hf' (Nat.le_refl P) s (by rw [Nat.sub_self]; exact hs)
    rw [wn_pm] at y
    rw [ixz_pj hs]
    exact y
  constructor
  · rintro ⟨h1, ⟨h2, h3⟩, h4⟩
    refine ⟨h2, fun r hr => ?_, fun r hr => ?_⟩
    · obtain ⟨j, hj, ej⟩ := fin_fiz hb hB0 hr
      have hrn : r < nf := by have y := (fiz_lt hb hB0 hj).1; rw [ej] at y; exact y
      obtain ⟨-, hT, -, hcl⟩ := hF.2 r hrn
      unfold FLV
      by_cases h0 : tm r = 0
      · obtain ⟨y, hy⟩ := h1 j hj
        rw [ej] at hy
        have hyb := (hcl _ (hix r hrn)).2.2.2 y hy
        rw [h0, pm_zero P hP] at hyb
        have hy0 : y = 0 := by omega
        rw [h0, ixz_zero P hP, ← hy0]
        exact hy
      · by_cases h1o : one1 (tm r) = 0
        · have el : lc r = lv r := (hlc r hrn).trans (lcz_in h0 h1o)
          exact (h3 (lv r) (TMK_in hT h0).1).2 r hrn el hr
        · obtain ⟨e1, e2, -⟩ := hT.yes h1o
          have y := (h3 (lv r) e2).1.1 j hj (by rw [ej]) (by rw [ej]; exact e1)
          rw [ej] at y
          rw [e1, ixz_one e2 hP]
          exact y
    · obtain ⟨j, hj, ej⟩ := fin_fiz hb hB1 hr
      have hrn : r < nw := by have y := (fiz_lt hb hB1 hj).1; rw [ej] at y; exact y
      obtain ⟨⟨-, -, -, hwi, -⟩, hcase⟩ := hWD.2 r hrn
      refine ⟨fun y4 q hq y3 => ?_, fun y4 y0 => ?_⟩
      · have y := (h3 q hq).1.2 j hj (by rw [ej]; exact y3)
        rw [ej] at y
        exact y.1 y4
      · rcases hcase with ⟨w3, -, y | ⟨hrg, rs, hsr, hst⟩⟩ | ⟨q, -, -, w4, -⟩ | ⟨q, hq, w3, -, ⟨hrg, rs, hsr, hst⟩, hone⟩
        · exact absurd y y0
        · have y := h4 j hj (by rw [ej]; exact w3) (by rw [ej]; exact y0)
          rw [ej] at y
          exact (trs_01 (t := t) hK hrg hsr (by decide) hst).resolve_left y
        · exact absurd (y4.symm.trans w4) (by decide)
        · have y := ((h3 q hq).1.2 j hj (by rw [ej]; exact w3))
          rw [ej] at y
          rw [← trp_trs hK hwi hrg hq hone]
          exact y.2 y4
  · rintro ⟨h2, hA, hB⟩
    refine ⟨fun j hj => ?_, ⟨h2, fun k hk => ⟨⟨fun j hj el et => ?_, fun j hj y3 => ?_⟩, fun r hr el hfn => ?_⟩⟩, fun j hj y3 y0 => ?_⟩
    · exact ⟨_, hA _ (fiz_lt hb hB0 hj).2⟩
    · have y := hA _ (fiz_lt hb hB0 hj).2
      unfold FLV at y
      rw [et, ixz_one hk hP] at y
      exact y
    · have y := hB _ (fiz_lt hb hB1 hj).2
      have hrn := (fiz_lt hb hB1 hj).1
      obtain ⟨⟨-, -, -, hwi, -⟩, hcase⟩ := hWD.2 _ hrn
      refine ⟨fun y4 => y.1 y4 k hk y3, fun y4 => ?_⟩
      rcases hcase with ⟨w3, -⟩ | ⟨q, -, -, w4, -⟩ | ⟨q, hq, w3, -, ⟨hrg, rs, hsr, hst⟩, hone⟩
      · exact absurd (w3.symm.trans y3) (fun z => nI_neg1 (by omega) z.symm)
      · exact absurd (y4.symm.trans w4) (by decide)
      · have eq1 : q = k := nI_inj (by omega) (by omega) (w3.symm.trans y3)
        rw [eq1] at hone
        rw [trp_trs hK hwi hrg hk hone]
        refine y.2 y4 (fun z => ?_)
        have y5 := rg_1 hrg
        rw [Nat.add_sub_cancel_left, z] at y5
        have y6 : (0 : Nat) = 1 := y5
        omega
    · exact hA r hfn
    · have y := hB _ (fiz_lt hb hB1 hj).2
      have hrn := (fiz_lt hb hB1 hj).1
      obtain ⟨-, hcase⟩ := hWD.2 _ hrn
      rcases hcase with ⟨-, w4, -⟩ | ⟨q, hq, w3, -⟩ | ⟨q, hq, w3, -⟩
      · rw [y.2 w4 y0]
        decide
      · exact absurd (y3.symm.trans w3) (fun z => nI_neg1 (by omega) z.symm)
      · exact absurd (y3.symm.trans w3) (fun z => nI_neg1 (by omega) z.symm)
end Mean
