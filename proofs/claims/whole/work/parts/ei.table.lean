/-! RELATION: takeTable -/
theorem mw_fr {run : Nat → List ev_V → List ev_C → Option ev_R} {M : ev_M} {f f1 : mu_F} {Φ : mu_R → Prop} (e : f = f1) (h : mu_W run M f1 Φ) : mu_W run M f Φ := by rw [e]; exact h
theorem dm_last {n M : Nat} (hM : 0 < M) (h : n % M + 1 = M) : (n + 1) / M = n / M + 1 ∧ (n + 1) % M = 0 := by
  have e := Nat.div_add_mod n M
  have e1 : n + 1 = M * (n / M + 1) := by rw [Nat.mul_add, Nat.mul_one]; omega
  rw [e1]
  exact ⟨Nat.mul_div_cancel_left _ hM, Nat.mul_mod_right _ _⟩
theorem dm_more {n M : Nat} (hM : 0 < M) (h : ¬ n % M + 1 = M) : (n + 1) / M = n / M ∧ (n + 1) % M = n % M + 1 := by
  have e := Nat.div_add_mod n M
  have hl := Nat.mod_lt n hM
  have e1 : n + 1 = M * (n / M) + (n % M + 1) := by omega
  have h2 : n % M + 1 < M := by omega
  constructor
  · rw [e1, Nat.mul_add_div hM, Nat.div_eq_of_lt h2, Nat.add_zero]
  · rw [e1, Nat.mul_add_mod, Nat.mod_eq_of_lt h2]
/-- the list of what is true in a piece of a table -/
def LPT (V : Ud) (td q x0 M : Nat) (tr : Nat → Int32) : Prop := td ≤ x0 ∧ ∃ ls : Nat → Nat, (∀ i, i < td → (V.2.2.1 129 10).2 i = nI (ls i)) ∧ (∀ i j, i < j → j < td → ls i < ls j) ∧ ∀ x, lmz ls td x = true ↔ x < x0 ∧ ¬ tr (q * M + x) = 0
section Tables
variable {U V V1 : Ud} {m P td q x0 M s t a0 N0 i0 n k : Nat} {tr : Nat → Int32} {Y : Ts} {f od : Nat → Nat} {mk nmk tmk : Int32} {es : Nat → Int32} {kd : Bool}
theorem LPT.zero : LPT V 0 q 0 M tr := ⟨Nat.le_refl _, fun _ => 0, fun i h => absurd h (Nat.not_lt_zero i), fun i j _ h => absurd h (Nat.not_lt_zero j), fun x => ⟨fun h => by rw [lmz_iff] at h; obtain ⟨i, h1, -⟩ := h; exact absurd h1 (Nat.not_lt_zero i), fun h => absurd h.1 (Nat.not_lt_zero x)⟩⟩
theorem LPT.eq (h : LPT V td q x0 M tr) (e : V1.2.2.1 129 10 = V.2.2.1 129 10) : LPT V1 td q x0 M tr := by
  unfold LPT at *
  rw [e]
  exact h
theorem LPT.off (h : LPT V td q x0 M tr) (h0 : tr (q * M + x0) = 0) : LPT V td q (x0 + 1) M tr := by
  obtain ⟨h1, ls, h2, h3, h4⟩ := h
  refine ⟨by omega, ls, h2, h3, fun x => (h4 x).trans ⟨fun y => ⟨by omega, y.2⟩, fun y => ⟨?_, y.2⟩⟩⟩
  by_cases e : x = x0
  · rw [e] at y
    exact absurd h0 y.2
  · omega
theorem LPT.on (h : LPT V td q x0 M tr) (h0 : ¬ tr (q * M + x0) = 0) : LPT (upA V 129 10 td (nI x0)) (td + 1) q (x0 + 1) M tr := by
  obtain ⟨h1, ls, h2, h3, h4⟩ := h
  have hb : ∀ i, i < td → ls i < x0 := fun i hi => ((h4 (ls i)).mp ((lmz_iff td).mpr ⟨i, hi, rfl⟩)).1
  refine ⟨by omega, upv ls td x0, fun i hi => ?_, fun i j hij hj => ?_, fun x => ?_⟩
  · show (if i = td then nI x0 else (V.2.2.1 129 10).2 i) = nI (if i = td then x0 else ls i)
    by_cases e : i = td
    · rw [if_pos e, if_pos e]
    · rw [if_neg e, if_neg e]
      exact h2 i (by omega)
  · by_cases e : j = td
    · rw [e, upv_eq, upv_ne (by omega)]
      exact hb i (by omega)
    · rw [upv_ne (by omega), upv_ne (by omega)]
      exact h3 i j hij (by omega)
  · rw [lmz_iff]
    constructor
    · rintro ⟨i, hi, e⟩
      by_cases ei : i = td
      · rw [ei, upv_eq] at e
        rw [← e]
        exact ⟨by omega, h0⟩
      · rw [upv_ne (by omega)] at e
        have y := (h4 x).mp ((lmz_iff td).mpr ⟨i, by omega, e⟩)
        exact ⟨by omega, y.2⟩
    · rintro ⟨y1, y2⟩
      by_cases e : x = x0
      · exact ⟨td, by omega, by rw [upv_eq]; exact e.symm⟩
      · obtain ⟨i, hi, ei⟩ := (lmz_iff td).mp ((h4 x).mpr ⟨by omega, y2⟩)
        exact ⟨i, by omega, by rw [upv_ne hi]; exact ei⟩
theorem tqz_then (ht : ∀ k, k < 14 → mb tmk k = mb mk (k + 14)) (hb : ∀ k, k < 28 → ¬ mb mk k = 0 → k % 14 < P) (hP : P ≤ 14) : ∀ n, n ≤ P → tqz mk f (14 - P + n) = wn tmk f P n := by
  have h0 : ∀ n, n ≤ 14 - P → tqz mk f n = 1 := by
    intro n
    induction n with
    | zero => intro _; rfl
    | succ n ih =>
      intro hn
      have hz : mb mk (27 - n) = 0 := Decidable.not_not.mp (fun y => by have := hb (27 - n) (by omega) y; omega)
      show tqz mk f n * (if mb mk (27 - n) = 0 then 1 else f ((27 - n) % 14)) = 1
      rw [if_pos hz, ih (by omega)]
  intro n
  induction n with
  | zero => intro _; rw [Nat.add_zero]; exact h0 _ (Nat.le_refl _)
  | succ n ih =>
    intro hn
    show tqz mk f (14 - P + n) * (if mb mk (27 - (14 - P + n)) = 0 then 1 else f ((27 - (14 - P + n)) % 14)) = wn tmk f P n * (if mb tmk (P - 1 - n) = 0 then 1 else f (P - 1 - n))
    rw [ih (by omega), ht (P - 1 - n) (by omega), show 27 - (14 - P + n) = P - 1 - n + 14 by omega, show (P - 1 - n + 14) % 14 = P - 1 - n by omega]
theorem tqz_now (hn : ∀ k, k < 14 → mb nmk k = mb mk k) (ht : ∀ k, k < 14 → mb tmk k = mb mk (k + 14)) (hb : ∀ k, k < 28 → ¬ mb mk k = 0 → k % 14 < P) (hP : P ≤ 14) : ∀ n, n ≤ P → tqz mk f (28 - P + n) = pm tmk f P * wn nmk f P n := by
  have h14 : tqz mk f 14 = pm tmk f P := by
    have y := tqz_then (f := f) ht hb hP P (Nat.le_refl P)
    rw [show 14 - P + P = 14 by omega, wn_pm] at y
    exact y
  have h0 : ∀ n, 14 + n ≤ 28 - P → tqz mk f (14 + n) = pm tmk f P := by
    intro n
    induction n with
    | zero => intro _; exact h14
    | succ n ih =>
      intro hn
      have hz : mb mk (27 - (14 + n)) = 0 := Decidable.not_not.mp (fun y => by have := hb (27 - (14 + n)) (by omega) y; omega)
      show tqz mk f (14 + n) * (if mb mk (27 - (14 + n)) = 0 then 1 else f ((27 - (14 + n)) % 14)) = _
      rw [if_pos hz, Nat.mul_one]
      exact ih (by omega)
  intro n
  induction n with
  | zero =>
    intro _
    have y := h0 (14 - P) (by omega)
    rw [show 14 + (14 - P) = 28 - P by omega] at y
    show tqz mk f (28 - P) = pm tmk f P * 1
    rw [y, Nat.mul_one]
  | succ n ih =>
    intro hn'
    show tqz mk f (28 - P + n) * (if mb mk (27 - (28 - P + n)) = 0 then 1 else f ((27 - (28 - P + n)) % 14)) = pm tmk f P * (wn nmk f P n * (if mb nmk (P - 1 - n) = 0 then 1 else f (P - 1 - n)))
    rw [ih (by omega), hn (P - 1 - n) (by omega), show 27 - (28 - P + n) = P - 1 - n by omega, show (P - 1 - n) % 14 = P - 1 - n by omega, Nat.mul_assoc]
theorem tqz_two (hn : ∀ k, k < 14 → mb nmk k = mb mk k) (ht : ∀ k, k < 14 → mb tmk k = mb mk (k + 14)) (hb : ∀ k, k < 28 → ¬ mb mk k = 0 → k % 14 < P) (hP : P ≤ 14) : tqz mk f 28 = pm tmk f P * pm nmk f P := by
  have y := tqz_now (f := f) hn ht hb hP P (Nat.le_refl P)
  rw [show 28 - P + P = 28 by omega, wn_pm] at y
  exact y
/-- the valuation of two STATES agrees with them -/
theorem agr_two (hn : ∀ k, k < 14 → mb nmk k = mb mk k) (ht : ∀ k, k < 14 → mb tmk k = mb mk (k + 14)) (hb : ∀ k, k < 28 → ¬ mb mk k = 0 → k % 14 < P) (hP : P ≤ 14) (hf : ∀ k, 1 ≤ f k) (hs : s < pd f 0 P) (ht' : t < pd f 0 P) : AGR (U.1 15) Y mk 0 (vlz U f mk 0 (pj nmk f P P s * pm tmk f P + pj tmk f P P t)) (vst U f P s) ∧ AGR (U.1 15) Y mk 14 (vlz U f mk 14 (pj nmk f P P s * pm tmk f P + pj tmk f P P t)) (vst U f P t) := by
  have hf' : ∀ k, k < P → 1 ≤ f k := fun k _ => hf k
  have hpt : pj tmk f P P t < pm tmk f P := by
    have y := pj_lt (mk := tmk) (f := f) (P := P) (n := P) hf' (Nat.le_refl P) t (by rw [Nat.sub_self]; exact ht')
    rw [wn_pm] at y
    exact y
  have hM := (pm_le (mk := tmk) (f := f) (n := P) hf').1
  refine ⟨fun w hw => ⟨fun e => ?_, fun pl h14 e hm => ?_⟩, fun w hw => ⟨fun e => ?_, fun pl h14 e hm => ?_⟩⟩
  · unfold vlz vst; rw [if_pos e, if_pos e]
  · have nm : ¬ (U.1 15).2 w 2 = -1 := by rw [e]; exact nI_neg1 (by omega)
    rw [Nat.add_zero] at hm
    have hpP : pl < P := by have := hb pl (by omega) hm; omega
    unfold vlz vst
    rw [if_neg nm, if_neg nm, e, nI_clamp (by omega)]
    congr 2
    have hw2 : wqz mk f (pl + 0) = pm tmk f P * wn nmk f P (P - 1 - pl) := by
      unfold wqz
      rw [Nat.add_zero, if_neg hm, ← tqz_now (f := f) hn ht hb hP (P - 1 - pl) (by omega), show 28 - P + (P - 1 - pl) = 27 - pl by omega]
    have z := pj_digit (mk := nmk) hf' (n' := P - 1 - pl) (by rw [show P - 1 - (P - 1 - pl) = pl by omega, hn pl (by omega)]; exact hm) P (by omega) (Nat.le_refl _) s (by rw [Nat.sub_self]; exact hs)
    rw [show P - 1 - (P - 1 - pl) = pl by omega, show P - (P - 1 - pl) = pl + 1 by omega] at z
    rw [hw2, ← Nat.div_div_eq_div_mul, Nat.mul_comm (pj nmk f P P s), Nat.mul_add_div hM, Nat.div_eq_of_lt hpt, Nat.add_zero, z]
  · unfold vlz vst; rw [if_pos e, if_pos e]
  · have nm : ¬ (U.1 15).2 w 2 = -1 := by rw [e]; exact nI_neg1 (by omega)
    have hpP : pl < P := by have := hb (pl + 14) (by omega) hm; omega
    unfold vlz vst
    rw [if_neg nm, if_neg nm, e, nI_clamp (by omega)]
    congr 2
    have hw2 : wqz mk f (pl + 14) = wn tmk f P (P - 1 - pl) := by
      unfold wqz
      rw [if_neg hm, ← tqz_then (f := f) ht hb hP (P - 1 - pl) (by omega), show 14 - P + (P - 1 - pl) = 27 - (pl + 14) by omega]
    have hmt : ¬ mb tmk (P - 1 - (P - 1 - pl)) = 0 := by rw [show P - 1 - (P - 1 - pl) = pl by omega, ht pl (by omega)]; exact hm
    have z := pj_digit (mk := tmk) hf' (n' := P - 1 - pl) hmt P (by omega) (Nat.le_refl _) t (by rw [Nat.sub_self]; exact ht')
    obtain ⟨r, er⟩ := wn_dvd (f := f) (P := P) (mk := tmk) (n' := P - 1 - pl) hmt P (by omega)
    rw [wn_pm] at er
    have hw1 := (wn_le (mk := tmk) (f := f) (P := P) (n := P - 1 - pl) hf' (by omega)).1
    rw [show P - 1 - (P - 1 - pl) = pl by omega] at z er
    rw [show P - (P - 1 - pl) = pl + 1 by omega] at z
    rw [hw2, Nat.add_comm (pj nmk f P P s * pm tmk f P), er, dm_add hw1, z]
/-- what the valuation of two STATES says is what is true between them -/
theorem trz_two (hK : KNV m U Y P f od es) (hl : LDW U Y P f od a0 N0 i0) (hmk : U.2.1 100 4 = mk) (hn : ∀ k, k < 14 → mb nmk k = mb mk k) (ht : ∀ k, k < 14 → mb tmk k = mb mk (k + 14)) (hi : i0 < (Y 11).1) (hr : rg Y (im Y i0) kd a0 (a0 + N0)) (hs : s < pd f 0 P) (ht' : t < pd f 0 P) : trz Y U f mk od i0 a0 N0 (pj nmk f P P s * pm tmk f P + pj tmk f P P t) = trs Y U f P od i0 a0 N0 s t := by
  obtain ⟨S0, K, dp, W, mk', M', rk, l1, l2, l3, l4⟩ := hl
  have emk : mk' = mk := l2.1.2.2.2.symm.trans hmk
  subst emk
  have hP := hK.P14
  obtain ⟨g1, g2⟩ := agr_two (U := U) (Y := Y) hn ht (fun k hk hb => (l3.2.2 k (by omega) hb).2.1) hP hK.2.1 hs ht'
  exact congrFun (root_agree hK.2.2.2.1.1 hK.2.2.2.2.1 hK.2.2.2.1.2.1 hP l3 hi hr g1 g2).1 0
theorem LDW.sides (hl : LDW U Y P f od a0 N0 i0) (hmk : U.2.1 100 4 = mk) : ∀ k, k < 28 → ¬ mb mk k = 0 → k % 14 < P := by
  obtain ⟨S0, K, dp, W, mk', M', rk, l1, l2, l3, l4⟩ := hl
  have emk : mk' = mk := l2.1.2.2.2.symm.trans hmk
  subst emk
  exact fun k hk hb => (l3.2.2 k (by omega) hb).2.1
end Tables
section TakeTable
variable {H : mu_H} {U V V1 V2 : Ud} {m d P a0 N0 i0 ou us N nf kb T0 M l : Nat} {C : Nat → Nat} {Y : Ts} {f od z : Nat → Nat} {es rs : Nat → Int32} {al mk nmk tmk : Int32} {S : Nat → Nat → Bool} {p : Nat → Bool}
def F302 : Uf := ⟨[22, 24], [(129, 5), (100, 18), (100, 21), (100, 19), (100, 20), (100, 14), (100, 16), (113, 1), (113, 2)], [(129, 4), (100, 8), (100, 12), (100, 9), (100, 10), (100, 11), (100, 13), (100, 15), (113, 3), (113, 4), (129, 10), (99, 18), (129, 7), (129, 8), (129, 9)], [(129, 4), (113, 3)], [117], true⟩
def F302a : Uf := ⟨[22], [(100, 14), (100, 16), (100, 21), (100, 18), (100, 19), (113, 1), (113, 2)], [(100, 8), (100, 9), (100, 10), (100, 11), (100, 12), (100, 13), (100, 15), (113, 3), (113, 4), (129, 10), (129, 4)], [(113, 3)], [117], true⟩
def F302b : Uf := ⟨[], [(113, 1), (113, 2)], [(113, 3), (113, 4), (129, 10), (129, 4)], [(113, 3)], [117], true⟩
/-- PathProver$Relation.takeTable(III)V -/
abbrev mu_m302 : ev_M := (12, none, [], ev_b302)
theorem mu_g302 : mu_good mu_m302 := mu_goodk ev_k302
theorem rl_table (h : um m H) (e : ud m H = U) (hK : KNV m U Y P f od es) (hM : MCS U) (hl : LDW U Y P f od a0 N0 i0) (hi0 : i0 < (Y 11).1) (hr0 : rg Y (im Y i0) false a0 (a0 + N0)) (hs0 : SRT Y es i0 al a0 rs N0) (hal : ¬ al = 2) (hmk : U.2.1 100 4 = mk) (hnm : ∀ k, k < 14 → mb nmk k = mb mk k) (htm : ∀ k, k < 14 → mb tmk k = mb mk (k + 14)) (hMM : M = pm tmk f P) (hlv : (31 : Int32) - ji_lz tmk = nI l) (hSO : SOK U N us S z p) (hou : U.2.1 129 5 = nI ou) (hol : ou ≤ (U.2.2.1 129 4).1) (hOL : OLN (U.2.2.1 129 4).1) (hfit : ou + pm nmk f P ≤ 32768) (hN : N + pm nmk f P ≤ 500000) (hX : us + pm nmk f P * (((M + 63) / 64) + 1) ≤ 1400000) (hLl : pd f 0 P + 4 ≤ (U.2.2.1 129 10).1) (hLlb : (U.2.2.1 129 10).1 ≤ 16777216) (hnf : (U.1 24).1 = nf) (hC1 : 2 * ((nf + 1) * 6) + 6 ≤ C 24) (hC2 : C 24 ≤ 8388608) (h7 : pd f 0 P ≤ (U.2.2.1 129 7).1) (h7b : (U.2.2.1 129 7).1 ≤ 16777216) (h8 : 2 * pd f 0 P ≤ (U.2.2.1 129 8).1) (h8b : (U.2.2.1 129 8).1 ≤ 16777216) (h9 : (U.2.2.1 129 9).1 = 2 ^ kb) (hkb : kb ≤ 15) (hTb : pd f 0 P < 2 ^ kb) : mu_TV (mu_D (d + 7)) 302 [.inr (.inr (some 129)), .inl nmk, .inl tmk, .inl (nI M)] H (fun H1 => um m H1 ∧ ur m C H H1 ∧ uq F302 U (ud m H1) ∧ KNV m (ud m H1) Y P f od es ∧ MCS (ud m H1) ∧ LDW (ud m H1) Y P f od a0 N0 i0 ∧ TBL U (ud m H1) N us S z p ((M + 63) / 64) ou (pm nmk f P) (fun c x => x < M ∧ ¬ trz Y U f mk od i0 a0 N0 (c * M + x) = 0) ∧ ((ud m H1).2.1 129 5 = nI (ou + pm nmk f P) ∧ ou + pm nmk f P ≤ ((ud m H1).2.2.1 129 4).1 ∧ OLN ((ud m H1).2.2.1 129 4).1) ∧ (ud m H1).1 24 = ax 24 (ap 24 U.1 nmk tmk (nI ou) 0) (nI nf) 4 (nI l) 24 ∧ CLS U (ud m H1) (pd f 0 P) (fun t => ((ud m H1).2.2.1 129 4).2 (ou + pj nmk f P P t))) := by
  obtain ⟨⟨s4, s10, s11, s12⟩, hk5, ⟨g8, g8b, g18, g18b⟩, ⟨gP, gpd, gsm⟩, hsp, hmo'⟩ := id hK.1
  have hP : P ≤ 14 := gP
  have hpm := pm_le (mk := nmk) (f := f) (n := P) (fun k _ => hK.2.1 k)
  have hpt := pm_le (mk := tmk) (f := f) (n := P) (fun k _ => hK.2.1 k)
  rw [← hMM] at hpt
  have hM0 : 0 < M := by omega
  have tp1 : tpz Y a0 N0 = 1 := by have y := rg_1 hr0; rw [Nat.add_sub_cancel_left] at y; exact y
  obtain ⟨T0, hT0⟩ : ∃ T0, T0 = tqz mk f 28 := ⟨_, rfl⟩
  have hTw : T0 = M * pm nmk f P := by rw [hT0, hMM]; exact tqz_two hnm htm (LDW.sides hl hmk) hP
  have hTb2 : T0 ≤ 268435456 := by
    have y : M * pm nmk f P ≤ 16384 * 16384 := Nat.mul_le_mul (by omega) (by omega)
    omega
  refine mu_meth (M := mu_m302) rfl rfl ?_
  refine mw_ht (mu_fn_of (show [0, 1, 2, 3].Nodup by decide)) ?_
  refine mw_go mu_g302 (k := 3) (f1 := (5, [(0, .inr (.inr (some 129))), (1, .inl nmk), (2, .inl tmk), (3, .inl (nI M))], [.inr (.inr (mu_r H 129 0)), .inr (.inr (some 129))], H)) (C := [mu_is H (some 129) 9]) rfl (show mu_is H (some 129) 9 from (h.1.1.is rfl)) ?_
  rw [(h.1.1.r (p := 129) (j := 0) (q := 99) rfl)]
  refine mw_go mu_g302 (k := 1) (f1 := (6, [(0, .inr (.inr (some 129))), (1, .inl nmk), (2, .inl tmk), (3, .inl (nI M))], [.inl nmk, .inr (.inr (some 99)), .inr (.inr (some 129))], H)) (C := []) rfl trivial ?_
  refine mw_cIe (fun _ => rfl) (show mu_is H (some 99) 13 from (h.1.1.is rfl)) (sp_over (d := (d + 5)) (mk := nmk) h e hK.1) ?_
  refine mw_cI (fun _ => rfl) (show mu_is H (some 129) 9 from (h.1.1.is rfl)) (rl_reserve (d := (d + 3)) (C := C) (mn := pm nmk f P) h e hou hOL hol hfit) (fun x2 Q2 q2 => ?_)
  obtain ⟨rfl, u2, r2, z2, o5, oln, oOL, oold⟩ := q2
  have ht2 : ur m C H Q2 := (ur.refl m C H).trans r2
  obtain ⟨V2, d2⟩ : ∃ V, ud m Q2 = V := ⟨_, rfl⟩
  rw [d2] at z2 o5 oln oOL oold
  have qf2 : uq F302 U V2 := (uq.refl F302 U).tr z2 rfl
  have hOb : (V2.2.2.1 129 4).1 ≤ 32768 := by rcases oOL with y | y | y <;> omega
  refine mw_go mu_g302 (k := 3) (f1 := (18, [(4, .inl (nI ou)), (0, .inr (.inr (some 129))), (1, .inl nmk), (2, .inl tmk), (3, .inl (nI M))], [.inr (.inr (mu_r Q2 129 0))], Q2)) (C := [mu_is Q2 (some 129) 9]) rfl (show mu_is Q2 (some 129) 9 from (u2.1.1.is rfl)) ?_
  rw [(u2.1.1.r (p := 129) (j := 0) (q := 99) rfl)]
  refine mw_go mu_g302 (k := 1) (f1 := (21, [(4, .inl (nI ou)), (0, .inr (.inr (some 129))), (1, .inl nmk), (2, .inl tmk), (3, .inl (nI M))], [.inr (.inr (mu_r Q2 99 1))], Q2)) (C := [mu_is Q2 (some 99) 13]) rfl (show mu_is Q2 (some 99) 13 from (u2.1.1.is rfl)) ?_
  rw [(u2.1.1.r (p := 99) (j := 1) (q := 100) rfl)]
  refine mw_go mu_g302 (k := 2) (f1 := (25, [(4, .inl (nI ou)), (0, .inr (.inr (some 129))), (1, .inl nmk), (2, .inl tmk), (3, .inl (nI M))], [.inr (.inr (mu_r Q2 129 0)), .inr (.inr (some 100))], Q2)) (C := [mu_is Q2 (some 129) 9]) rfl (show mu_is Q2 (some 129) 9 from (u2.1.1.is rfl)) ?_
  rw [(u2.1.1.r (p := 129) (j := 0) (q := 99) rfl)]
  refine mw_go mu_g302 (k := 1) (f1 := (28, [(4, .inl (nI ou)), (0, .inr (.inr (some 129))), (1, .inl nmk), (2, .inl tmk), (3, .inl (nI M))], [.inr (.inr (mu_r Q2 99 1)), .inr (.inr (some 100))], Q2)) (C := [mu_is Q2 (some 99) 13]) rfl (show mu_is Q2 (some 99) 13 from (u2.1.1.is rfl)) ?_
  rw [(u2.1.1.r (p := 99) (j := 1) (q := 100) rfl)]
  refine mw_go mu_g302 (k := 1) (f1 := (31, [(4, .inl (nI ou)), (0, .inr (.inr (some 129))), (1, .inl nmk), (2, .inl tmk), (3, .inl (nI M))], [.inl (mu_i Q2 100 4), .inr (.inr (some 100))], Q2)) (C := [mu_is Q2 (some 100) 5]) rfl (show mu_is Q2 (some 100) 5 from (u2.1.1.is rfl)) ?_
  rw [(show mu_i Q2 100 4 = mk from (ud_i (U := V2) (m := m) (P := 100) (j := 4) d2 rfl).trans ((z2.i 100 4 rfl).trans hmk))]
  have hK1 : KNV m V2 Y P f od es := hK.q z2 rfl
  have hM1 := (show MCS V2 from ⟨by rw [(show (V2.1 22) = (U.1 22) from (z2.t 22 rfl))]; exact hM.1, by rw [(show (V2.2.2.1 100 3).1 = (U.2.2.1 100 3).1 from (z2.n 100 3 rfl))]; exact hM.2.1, by rw [(show (V2.2.2.1 100 8).1 = (U.2.2.1 100 8).1 from (z2.n 100 8 rfl))]; exact hM.2.2.1, by rw [(show (V2.2.2.1 100 12).1 = (U.2.2.1 100 12).1 from (z2.n 100 12 rfl))]; exact hM.2.2.2.1, by rw [(show (V2.2.2.1 100 13).1 = (U.2.2.1 100 13).1 from (z2.n 100 13 rfl))]; exact hM.2.2.2.2.1, by rw [(show (V2.2.2.1 100 15).1 = (U.2.2.1 100 15).1 from (z2.n 100 15 rfl))]; exact hM.2.2.2.2.2⟩)
  have hl1 : LDW V2 Y P f od a0 N0 i0 := hl.keep (show (V2.1 21) = (U.1 21) from (z2.t 21 rfl)) (show (V2.1 22) = (U.1 22) from (z2.t 22 rfl)) (show (V2.1 15) = (U.1 15) from (z2.t 15 rfl)) (show (V2.2.2.1 100 3) = (U.2.2.1 100 3) from (z2.a 100 3 rfl)) (show (V2.2.1 100 5) = (U.2.1 100 5) from (z2.i 100 5 rfl)) (show (V2.2.1 100 7) = (U.2.1 100 7) from (z2.i 100 7 rfl)) (show (V2.2.1 100 17) = (U.2.1 100 17) from (z2.i 100 17 rfl)) (show (V2.2.1 100 4) = (U.2.1 100 4) from (z2.i 100 4 rfl)) (show (V2.2.2.1 100 8) = (U.2.2.1 100 8) from (z2.a 100 8 rfl)) (show (V2.2.2.1 100 12).1 = (U.2.2.1 100 12).1 from (z2.n 100 12 rfl)) (show (V2.2.2.1 100 13).1 = (U.2.2.1 100 13).1 from (z2.n 100 13 rfl)) (show (V2.2.2.1 100 15).1 = (U.2.2.1 100 15).1 from (z2.n 100 15 rfl)) (show (V2.2.2.1 99 8) = (U.2.2.1 99 8) from (z2.a 99 8 rfl))
  refine mw_cI (fun _ => rfl) (show mu_is Q2 (some 100) 5 from (u2.1.1.is rfl)) (mc_rewindT (d := (d + 1)) (C := C) (T0 := T0) u2 d2 hK1 hM1 hl1 (show (V2.2.1 100 4) = mk from ((z2.i 100 4 rfl).trans hmk)) hT0 (by omega)) (fun x3 Q3 q3 => ?_)
  obtain ⟨W, ⟨w1, w2⟩, rfl, u3, r3, z3, hKr, hMr, hTR0⟩ := q3
  have ht3 : ur m C H Q3 := ht2.trans r3
  obtain ⟨V3, d3⟩ : ∃ V, ud m Q3 = V := ⟨_, rfl⟩
  rw [d3] at z3 hKr hMr hTR0
  have qf3 : uq F302 U V3 := qf2.tr z3 rfl
  obtain ⟨TN, hTN⟩ : ∃ TN, TN = (T0 + W - 1) / W := ⟨_, rfl⟩
  rw [← hTN]
  have hTNb : TN ≤ 268436480 := by rw [hTN]; exact Nat.le_trans (Nat.div_le_self _ _) (by omega)
  refine mw_go mu_g302 (k := 9) (f1 := (49, [(9, .inl (0 : Int32)), (8, .inl (0 : Int32)), (7, .inl (0 : Int32)), (6, .inl (nI ou)), (5, .inl (nI TN)), (4, .inl (nI ou)), (0, .inr (.inr (some 129))), (1, .inl nmk), (2, .inl tmk), (3, .inl (nI M))], [], Q3)) (C := []) rfl trivial ?_
  have hz0 : min (0 * W) T0 = 0 := by rw [Nat.zero_mul, Nat.zero_min]
  refine mw_fr (show ((49, [(9, .inl (0 : Int32)), (8, .inl (0 : Int32)), (7, .inl (0 : Int32)), (6, .inl (nI ou)), (5, .inl (nI TN)), (4, .inl (nI ou)), (0, .inr (.inr (some 129))), (1, .inl nmk), (2, .inl tmk), (3, .inl (nI M))], [], Q3) : mu_F) = (49, [(9, .inl (0 : Int32)), (8, .inl (nI (min (0 * W) T0 % M))), (7, .inl (0 : Int32)), (6, .inl (nI (ou + min (0 * W) T0 / M))), (5, .inl (nI TN)), (4, .inl (nI ou)), (0, .inr (.inr (some 129))), (1, .inl nmk), (2, .inl tmk), (3, .inl (nI M))], [], Q3) by rw [hz0, Nat.zero_div, Nat.zero_mod, Nat.add_zero]; try rfl) ?_
  show mu_W _ _ (49, [(9, .inl (nI 0)), (8, .inl (nI (min (0 * W) T0 % M))), (7, .inl (nI 0)), (6, .inl (nI (ou + min (0 * W) T0 / M))), (5, .inl (nI TN)), (4, .inl (nI ou)), (0, .inr (.inr (some 129))), (1, .inl nmk), (2, .inl tmk), (3, .inl (nI M))], [], Q3) _
  refine mw_sub (L' := [(9, .inl (nI 0)), (7, .inl (nI 0)), (6, .inl (nI (ou + min (0 * W) T0 / M))), (8, .inl (nI (min (0 * W) T0 % M))), (0, .inr (.inr (some 129))), (1, .inl nmk), (2, .inl tmk), (3, .inl (nI M)), (4, .inl (nI ou)), (5, .inl (nI TN))]) (by simp) ?_
  refine mw_down (α := Nat × Nat × mu_H) (fun zs => (49, [(9, .inl (nI zs.1)), (7, .inl (nI zs.2.1)), (6, .inl (nI (ou + min (zs.1 * W) T0 / M))), (8, .inl (nI (min (zs.1 * W) T0 % M))), (0, .inr (.inr (some 129))), (1, .inl nmk), (2, .inl tmk), (3, .inl (nI M)), (4, .inl (nI ou)), (5, .inl (nI TN))], [], zs.2.2)) (fun zs => TN - zs.1) (fun zs => um m zs.2.2 ∧ ur m C H zs.2.2 ∧ (uq F302a V3 (ud m zs.2.2)) ∧ (zs.1 ≤ TN) ∧ (KNV m (ud m zs.2.2) Y P f od es) ∧ (MCS (ud m zs.2.2)) ∧ (TRN (ud m zs.2.2) Y P f od a0 N0 i0 mk T0 W zs.1) ∧ (TBL U (ud m zs.2.2) N us S z p ((M + 63) / 64) ou (min (zs.1 * W) T0 / M) (fun c x => x < M ∧ ¬ trz Y U f mk od i0 a0 N0 (c * M + x) = 0)) ∧ (LPT (ud m zs.2.2) zs.2.1 (min (zs.1 * W) T0 / M) (min (zs.1 * W) T0 % M) M (trz Y U f mk od i0 a0 N0))) (fun zs hza iha => ?_) (0, 0, Q3) ⟨u3, ht3, (show uq F302a V3 (ud m Q3) from by rw [d3]; exact uq.refl _ _), (show 0 ≤ TN from (by omega)), (show KNV m (ud m Q3) Y P f od es from by rw [d3]; exact hKr), (show MCS (ud m Q3) from by rw [d3]; exact hMr), (show TRN (ud m Q3) Y P f od a0 N0 i0 mk T0 W 0 from by rw [d3]; exact hTR0), (show TBL U (ud m Q3) N us S z p ((M + 63) / 64) ou (min (0 * W) T0 / M) (fun c x => x < M ∧ ¬ trz Y U f mk od i0 a0 N0 (c * M + x) = 0) from by rw [d3]; exact (by rw [Nat.zero_mul, Nat.zero_min, Nat.zero_div]; exact TBL.init (hSO.eq (show (V3.2.1 113 1) = (U.2.1 113 1) from ((z3.i 113 1 rfl).trans (z2.i 113 1 rfl))) (show (V3.2.1 113 2) = (U.2.1 113 2) from ((z3.i 113 2 rfl).trans (z2.i 113 2 rfl))) (show (V3.2.1 113 5) = (U.2.1 113 5) from ((z3.i 113 5 rfl).trans (z2.i 113 5 rfl))) (show (V3.2.2.1 113 3) = (U.2.2.1 113 3) from ((z3.a 113 3 rfl).trans (z2.a 113 3 rfl))) (show (V3.2.2.1 113 4) = (U.2.2.1 113 4) from ((z3.a 113 4 rfl).trans (z2.a 113 4 rfl))) (congrFun ((z3.2.2.2.2.2 rfl).trans (z2.2.2.2.2.2 rfl)) 114)) (fun a c _ => congrFun (congrFun ((z3.2.2.2.2.2 rfl).trans (z2.2.2.2.2.2 rfl)) a) c) (fun j hj => (congrFun (congrArg Prod.snd (show (V3.2.2.1 129 4) = (V2.2.2.1 129 4) from (z3.a 129 4 rfl))) j).trans (oold j hj)))), (show LPT (ud m Q3) 0 (min (0 * W) T0 / M) (min (0 * W) T0 % M) M (trz Y U f mk od i0 a0 N0) from by rw [d3]; exact (by rw [Nat.zero_mul, Nat.zero_min, Nat.zero_div, Nat.zero_mod]; exact LPT.zero))⟩
  obtain ⟨i, td, Hsa⟩ := zs
  obtain ⟨ua, hta, da, hi, hKa, hMa, hTRa, hTBa, hLPa⟩ := hza
  have ua : um m Hsa := ua
  have hta : ur m C H Hsa := hta
  have zza : uq F302a V3 (ud m Hsa) := da
  have hi : i ≤ TN := hi
  have hKa : KNV m (ud m Hsa) Y P f od es := hKa
  have hMa : MCS (ud m Hsa) := hMa
  have hTRa : TRN (ud m Hsa) Y P f od a0 N0 i0 mk T0 W i := hTRa
  have hTBa : TBL U (ud m Hsa) N us S z p ((M + 63) / 64) ou (min (i * W) T0 / M) (fun c x => x < M ∧ ¬ trz Y U f mk od i0 a0 N0 (c * M + x) = 0) := hTBa
  have hLPa : LPT (ud m Hsa) td (min (i * W) T0 / M) (min (i * W) T0 % M) M (trz Y U f mk od i0 a0 N0) := hLPa
  obtain ⟨Va, da⟩ : ∃ V, ud m Hsa = V := ⟨_, rfl⟩
  rw [da] at zza hKa hMa hTRa hTBa hLPa
  have qfa : uq F302 U Va := qf3.tr zza rfl
  show mu_W _ _ (49, [(9, .inl (nI i)), (7, .inl (nI td)), (6, .inl (nI (ou + min (i * W) T0 / M))), (8, .inl (nI (min (i * W) T0 % M))), (0, .inr (.inr (some 129))), (1, .inl nmk), (2, .inl tmk), (3, .inl (nI M)), (4, .inl (nI ou)), (5, .inl (nI TN))], [], Hsa) _
  refine mw_go mu_g302 (k := 2) (f1 := (53, [(9, .inl (nI i)), (7, .inl (nI td)), (6, .inl (nI (ou + min (i * W) T0 / M))), (8, .inl (nI (min (i * W) T0 % M))), (0, .inr (.inr (some 129))), (1, .inl nmk), (2, .inl tmk), (3, .inl (nI M)), (4, .inl (nI ou)), (5, .inl (nI TN))], [.inl (nI TN), .inl (nI i)], Hsa)) (C := []) rfl trivial ?_
  refine mw_if (P := (nI i) < (nI TN)) (a := 56) (b := 179) (fun _ => rfl) trivial (fun h4 => ?_) (fun h4 => ?_)
  · -- 56: (nI i) < (nI TN)
    have nh4 : i < TN := (nI_ltI (by omega) (by omega)).mp (show nI i < nI TN from h4)
    have hiW := turns_lt w1 (by rw [← hTN]; exact nh4)
    have hA15 : Va.1 15 = U.1 15 := ((zza.t 15 rfl).trans ((z3.t 15 rfl).trans (z2.t 15 rfl)))
    have hA98 : Va.2.2.1 99 8 = U.2.2.1 99 8 := ((zza.a 99 8 rfl).trans ((z3.a 99 8 rfl).trans (z2.a 99 8 rfl)))
    refine mw_go mu_g302 (k := 2) (f1 := (60, [(9, .inl (nI i)), (7, .inl (nI td)), (6, .inl (nI (ou + min (i * W) T0 / M))), (8, .inl (nI (min (i * W) T0 % M))), (0, .inr (.inr (some 129))), (1, .inl nmk), (2, .inl tmk), (3, .inl (nI M)), (4, .inl (nI ou)), (5, .inl (nI TN))], [.inr (.inr (mu_r Hsa 129 0))], Hsa)) (C := [mu_is Hsa (some 129) 9]) rfl (show mu_is Hsa (some 129) 9 from (ua.1.1.is rfl)) ?_
    rw [(ua.1.1.r (p := 129) (j := 0) (q := 99) rfl)]
    refine mw_go mu_g302 (k := 1) (f1 := (63, [(9, .inl (nI i)), (7, .inl (nI td)), (6, .inl (nI (ou + min (i * W) T0 / M))), (8, .inl (nI (min (i * W) T0 % M))), (0, .inr (.inr (some 129))), (1, .inl nmk), (2, .inl tmk), (3, .inl (nI M)), (4, .inl (nI ou)), (5, .inl (nI TN))], [.inr (.inr (mu_r Hsa 99 1))], Hsa)) (C := [mu_is Hsa (some 99) 13]) rfl (show mu_is Hsa (some 99) 13 from (ua.1.1.is rfl)) ?_
    rw [(ua.1.1.r (p := 99) (j := 1) (q := 100) rfl)]
    refine mw_cV (fun _ => rfl) (show mu_is Hsa (some 100) 5 from (ua.1.1.is rfl)) (mc_runT (d := d) (C := C) (Lk := [false]) ua da hKa hMa hTRa hiW hi0 hr0 (by decide) hs0 hal) (fun Q5 q5 => ?_)
    obtain ⟨u5, r5, z5, hKu, hMu, hTD, hRS⟩ := q5
    have ht5 : ur m C H Q5 := hta.trans r5
    obtain ⟨V5, d5⟩ : ∃ V, ud m Q5 = V := ⟨_, rfl⟩
    rw [d5] at z5 hKu hMu hTD hRS
    have qf5 : uq F302 U V5 := qfa.tr z5 rfl
    obtain ⟨ln, hln⟩ : ∃ ln, ln = min W (T0 - i * W) := ⟨_, rfl⟩
    have l18 : V5.2.1 100 18 = nI ln := by rw [hln]; exact hTD.i18
    rw [← hln] at hRS
    have hlb : 1 ≤ ln ∧ ln ≤ 1024 ∧ i * W + ln ≤ T0 := by omega
    refine mw_go mu_g302 (k := 2) (f1 := (70, [(9, .inl (nI i)), (7, .inl (nI td)), (6, .inl (nI (ou + min (i * W) T0 / M))), (8, .inl (nI (min (i * W) T0 % M))), (0, .inr (.inr (some 129))), (1, .inl nmk), (2, .inl tmk), (3, .inl (nI M)), (4, .inl (nI ou)), (5, .inl (nI TN))], [.inr (.inr (mu_r Q5 129 0))], Q5)) (C := [mu_is Q5 (some 129) 9]) rfl (show mu_is Q5 (some 129) 9 from (u5.1.1.is rfl)) ?_
    rw [(u5.1.1.r (p := 129) (j := 0) (q := 99) rfl)]
    refine mw_go mu_g302 (k := 1) (f1 := (73, [(9, .inl (nI i)), (7, .inl (nI td)), (6, .inl (nI (ou + min (i * W) T0 / M))), (8, .inl (nI (min (i * W) T0 % M))), (0, .inr (.inr (some 129))), (1, .inl nmk), (2, .inl tmk), (3, .inl (nI M)), (4, .inl (nI ou)), (5, .inl (nI TN))], [.inr (.inr (mu_r Q5 99 1))], Q5)) (C := [mu_is Q5 (some 99) 13]) rfl (show mu_is Q5 (some 99) 13 from (u5.1.1.is rfl)) ?_
    rw [(u5.1.1.r (p := 99) (j := 1) (q := 100) rfl)]
    refine mw_cA (fun _ => rfl) (show mu_is Q5 (some 100) 5 from (u5.1.1.is rfl)) (mc_results2 (d := (d + 2)) (C := C) u5 d5 hRS tp1) (fun x6 Q6 q6 => ?_)
    obtain ⟨rfl, u6, r6, z6, hres⟩ := q6
    have ht6 : ur m C H Q6 := ht5.trans r6
    obtain ⟨V6, d6⟩ : ∃ V, ud m Q6 = V := ⟨_, rfl⟩
    rw [d6] at z6 hres
    have qf6 : uq F302 U V6 := qf5.tr z6 rfl
    have hres2 : ∀ k, k < ln → (V6.2.2.1 100 9).2 k = trz Y U f mk od i0 a0 N0 (i * W + k) := fun k hk => by rw [hres k hk, vlz_same (U := U) (V := Va) hA15 hA98, vlz_same (U := U) (V := Va) hA15 hA98]; rfl
    refine mw_go mu_g302 (k := 3) (f1 := (81, [(11, .inl (0 : Int32)), (10, .inr (.inr (some 107))), (9, .inl (nI i)), (7, .inl (nI td)), (6, .inl (nI (ou + min (i * W) T0 / M))), (8, .inl (nI (min (i * W) T0 % M))), (0, .inr (.inr (some 129))), (1, .inl nmk), (2, .inl tmk), (3, .inl (nI M)), (4, .inl (nI ou)), (5, .inl (nI TN))], [], Q6)) (C := []) rfl trivial ?_
    rw [show min (i * W) T0 = i * W + 0 by omega]
    show mu_W _ _ (81, [(11, .inl (nI 0)), (10, .inr (.inr (some 107))), (9, .inl (nI i)), (7, .inl (nI td)), (6, .inl (nI (ou + (i * W + 0) / M))), (8, .inl (nI ((i * W + 0) % M))), (0, .inr (.inr (some 129))), (1, .inl nmk), (2, .inl tmk), (3, .inl (nI M)), (4, .inl (nI ou)), (5, .inl (nI TN))], [], Q6) _
    refine mw_sub (L' := [(11, .inl (nI 0)), (7, .inl (nI td)), (6, .inl (nI (ou + (i * W + 0) / M))), (8, .inl (nI ((i * W + 0) % M))), (0, .inr (.inr (some 129))), (1, .inl nmk), (2, .inl tmk), (3, .inl (nI M)), (4, .inl (nI ou)), (5, .inl (nI TN)), (9, .inl (nI i)), (10, .inr (.inr (some 107)))]) (by simp) ?_
    refine mw_down (α := Nat × Nat × mu_H) (fun zs => (81, [(11, .inl (nI zs.1)), (7, .inl (nI zs.2.1)), (6, .inl (nI (ou + (i * W + zs.1) / M))), (8, .inl (nI ((i * W + zs.1) % M))), (0, .inr (.inr (some 129))), (1, .inl nmk), (2, .inl tmk), (3, .inl (nI M)), (4, .inl (nI ou)), (5, .inl (nI TN)), (9, .inl (nI i)), (10, .inr (.inr (some 107)))], [], zs.2.2)) (fun zs => ln - zs.1) (fun zs => um m zs.2.2 ∧ ur m C H zs.2.2 ∧ (uq F302b V6 (ud m zs.2.2)) ∧ (zs.1 ≤ ln) ∧ (TBL U (ud m zs.2.2) N us S z p ((M + 63) / 64) ou ((i * W + zs.1) / M) (fun c x => x < M ∧ ¬ trz Y U f mk od i0 a0 N0 (c * M + x) = 0)) ∧ (LPT (ud m zs.2.2) zs.2.1 ((i * W + zs.1) / M) ((i * W + zs.1) % M) M (trz Y U f mk od i0 a0 N0))) (fun zs hzb ihb => ?_) (0, td, Q6) ⟨u6, ht6, (show uq F302b V6 (ud m Q6) from by rw [d6]; exact uq.refl _ _), (show 0 ≤ ln from (by omega)), (show TBL U (ud m Q6) N us S z p ((M + 63) / 64) ou ((i * W + 0) / M) (fun c x => x < M ∧ ¬ trz Y U f mk od i0 a0 N0 (c * M + x) = 0) from by rw [d6]; exact (by rw [show i * W + 0 = min (i * W) T0 by omega]; exact hTBa.eq (show (V6.2.1 113 1) = (Va.2.1 113 1) from ((z6.i 113 1 rfl).trans (z5.i 113 1 rfl))) (show (V6.2.1 113 2) = (Va.2.1 113 2) from ((z6.i 113 2 rfl).trans (z5.i 113 2 rfl))) (show (V6.2.1 113 5) = (Va.2.1 113 5) from ((z6.i 113 5 rfl).trans (z5.i 113 5 rfl))) (show (V6.2.2.1 113 3) = (Va.2.2.1 113 3) from ((z6.a 113 3 rfl).trans (z5.a 113 3 rfl))) (show (V6.2.2.1 113 4) = (Va.2.2.1 113 4) from ((z6.a 113 4 rfl).trans (z5.a 113 4 rfl))) (show (V6.2.2.1 129 4) = (Va.2.2.1 129 4) from ((z6.a 129 4 rfl).trans (z5.a 129 4 rfl))) ((z6.2.2.2.2.2 rfl).trans (z5.2.2.2.2.2 rfl)))), (show LPT (ud m Q6) td ((i * W + 0) / M) ((i * W + 0) % M) M (trz Y U f mk od i0 a0 N0) from by rw [d6]; exact (by rw [show i * W + 0 = min (i * W) T0 by omega]; exact hLPa.eq (show (V6.2.2.1 129 10) = (Va.2.2.1 129 10) from ((z6.a 129 10 rfl).trans (z5.a 129 10 rfl)))))⟩
    obtain ⟨lane, tq, Hsb⟩ := zs
    obtain ⟨ub, htb, db, hlane, hTBb, hLPb⟩ := hzb
    have ub : um m Hsb := ub
    have htb : ur m C H Hsb := htb
    have zzb : uq F302b V6 (ud m Hsb) := db
    have hlane : lane ≤ ln := hlane
    have hTBb : TBL U (ud m Hsb) N us S z p ((M + 63) / 64) ou ((i * W + lane) / M) (fun c x => x < M ∧ ¬ trz Y U f mk od i0 a0 N0 (c * M + x) = 0) := hTBb
    have hLPb : LPT (ud m Hsb) tq ((i * W + lane) / M) ((i * W + lane) % M) M (trz Y U f mk od i0 a0 N0) := hLPb
    obtain ⟨Vb, db⟩ : ∃ V, ud m Hsb = V := ⟨_, rfl⟩
    rw [db] at zzb hTBb hLPb
    have qfb : uq F302 U Vb := qf6.tr zzb rfl
    show mu_W _ _ (81, [(11, .inl (nI lane)), (7, .inl (nI tq)), (6, .inl (nI (ou + (i * W + lane) / M))), (8, .inl (nI ((i * W + lane) % M))), (0, .inr (.inr (some 129))), (1, .inl nmk), (2, .inl tmk), (3, .inl (nI M)), (4, .inl (nI ou)), (5, .inl (nI TN)), (9, .inl (nI i)), (10, .inr (.inr (some 107)))], [], Hsb) _
    refine mw_go mu_g302 (k := 3) (f1 := (87, [(11, .inl (nI lane)), (7, .inl (nI tq)), (6, .inl (nI (ou + (i * W + lane) / M))), (8, .inl (nI ((i * W + lane) % M))), (0, .inr (.inr (some 129))), (1, .inl nmk), (2, .inl tmk), (3, .inl (nI M)), (4, .inl (nI ou)), (5, .inl (nI TN)), (9, .inl (nI i)), (10, .inr (.inr (some 107)))], [.inr (.inr (mu_r Hsb 129 0)), .inl (nI lane)], Hsb)) (C := [mu_is Hsb (some 129) 9]) rfl (show mu_is Hsb (some 129) 9 from (ub.1.1.is rfl)) ?_
    rw [(ub.1.1.r (p := 129) (j := 0) (q := 99) rfl)]
    refine mw_go mu_g302 (k := 1) (f1 := (90, [(11, .inl (nI lane)), (7, .inl (nI tq)), (6, .inl (nI (ou + (i * W + lane) / M))), (8, .inl (nI ((i * W + lane) % M))), (0, .inr (.inr (some 129))), (1, .inl nmk), (2, .inl tmk), (3, .inl (nI M)), (4, .inl (nI ou)), (5, .inl (nI TN)), (9, .inl (nI i)), (10, .inr (.inr (some 107)))], [.inr (.inr (mu_r Hsb 99 1)), .inl (nI lane)], Hsb)) (C := [mu_is Hsb (some 99) 13]) rfl (show mu_is Hsb (some 99) 13 from (ub.1.1.is rfl)) ?_
    rw [(ub.1.1.r (p := 99) (j := 1) (q := 100) rfl)]
    refine mw_go mu_g302 (k := 1) (f1 := (93, [(11, .inl (nI lane)), (7, .inl (nI tq)), (6, .inl (nI (ou + (i * W + lane) / M))), (8, .inl (nI ((i * W + lane) % M))), (0, .inr (.inr (some 129))), (1, .inl nmk), (2, .inl tmk), (3, .inl (nI M)), (4, .inl (nI ou)), (5, .inl (nI TN)), (9, .inl (nI i)), (10, .inr (.inr (some 107)))], [.inl (mu_i Hsb 100 18), .inl (nI lane)], Hsb)) (C := [mu_is Hsb (some 100) 5]) rfl (show mu_is Hsb (some 100) 5 from (ub.1.1.is rfl)) ?_
    rw [(show mu_i Hsb 100 18 = (nI ln) from (ud_i (U := Vb) (m := m) (P := 100) (j := 18) db rfl).trans ((zzb.i 100 18 rfl).trans ((z6.i 100 18 rfl).trans l18)))]
    refine mw_if (P := (nI lane) < (nI ln)) (a := 96) (b := 163) (fun _ => rfl) trivial (fun h7 => ?_) (fun h7 => ?_)
    · -- 96: (nI lane) < (nI ln)
      have nh7 : lane < ln := (nI_ltI (by omega) (by omega)).mp (show nI lane < nI ln from h7)
      have hnT : i * W + lane < T0 := by omega
      have hxM := Nat.mod_lt (i * W + lane) hM0
      have htq := hLPb.1
      have hnq : (i * W + lane) / M * M + (i * W + lane) % M = i * W + lane := by rw [Nat.mul_comm]; exact Nat.div_add_mod _ _
      refine mw_go mu_g302 (k := 3) (f1 := (101, [(11, .inl (nI lane)), (7, .inl (nI tq)), (6, .inl (nI (ou + (i * W + lane) / M))), (8, .inl (nI ((i * W + lane) % M))), (0, .inr (.inr (some 129))), (1, .inl nmk), (2, .inl tmk), (3, .inl (nI M)), (4, .inl (nI ou)), (5, .inl (nI TN)), (9, .inl (nI i)), (10, .inr (.inr (some 107)))], [.inl (mu_i Hsb 107 (nI lane).toNatClampNeg)], Hsb)) (C := [mu_isr Hsb (some 107) 100, vp_in (nI lane) (mu_n Hsb 107)]) rfl (show (mu_isr Hsb (some 107) 100) ∧ (vp_in (nI lane) (mu_n Hsb 107)) from ⟨((ub.iA db rfl rfl ((ud_q (m := m) (P := 100) (j := 9) db rfl).symm.trans (ub.1.1.r (p := 100) (j := 9) (q := 107) rfl)))).r, (by rw [show mu_n Hsb 107 = 1024 from (ub.1.1.a (p := 107) (x := (100, 1024)) rfl).2]; exact vp_in_nI (n := lane) (by omega) (by decide))⟩) ?_
      rw [(show (mu_i Hsb 107 (nI lane).toNatClampNeg) = (trz Y U f mk od i0 a0 N0 (i * W + lane)) from ((congrArg (mu_i Hsb 107) (show (nI lane).toNatClampNeg = lane from nI_clamp (by omega))).trans (ub.gA db rfl rfl ((ud_q (m := m) (P := 100) (j := 9) db rfl).symm.trans (ub.1.1.r (p := 100) (j := 9) (q := 107) rfl)))).trans ((congrArg (fun z => z.2 lane) (show Vb.2.2.1 100 9 = (V6.2.2.1 100 9) from (zzb.a 100 9 rfl))).trans (hres2 lane (by omega))))]
      refine mw_if (P := (trz Y U f mk od i0 a0 N0 (i * W + lane)) = 0) (a := 116) (b := 104) (fun _ => rfl) trivial (fun h8 => ?_) (fun h8 => ?_)
      · -- 116: (trz Y U f mk od i0 a0 N0 (i * W + lane)) = 0
        have hLP1 : LPT Vb tq ((i * W + lane) / M) ((i * W + lane) % M + 1) M (trz Y U f mk od i0 a0 N0) := hLPb.off (by rw [hnq]; exact h8)
        refine mw_go mu_g302 (k := 1) (f1 := (119, [(8, .inl ((nI ((i * W + lane) % M)) + 1)), (11, .inl (nI lane)), (7, .inl (nI tq)), (6, .inl (nI (ou + (i * W + lane) / M))), (0, .inr (.inr (some 129))), (1, .inl nmk), (2, .inl tmk), (3, .inl (nI M)), (4, .inl (nI ou)), (5, .inl (nI TN)), (9, .inl (nI i)), (10, .inr (.inr (some 107)))], [], Hsb)) (C := []) rfl trivial ?_
        rw [(show ((nI ((i * W + lane) % M)) + 1) = (nI (((i * W + lane) % M) + 1)) from (nI_add ((i * W + lane) % M) 1))]
        refine mw_go mu_g302 (k := 2) (f1 := (122, [(8, .inl (nI (((i * W + lane) % M) + 1))), (11, .inl (nI lane)), (7, .inl (nI tq)), (6, .inl (nI (ou + (i * W + lane) / M))), (0, .inr (.inr (some 129))), (1, .inl nmk), (2, .inl tmk), (3, .inl (nI M)), (4, .inl (nI ou)), (5, .inl (nI TN)), (9, .inl (nI i)), (10, .inr (.inr (some 107)))], [.inl (nI M), .inl (nI (((i * W + lane) % M) + 1))], Hsb)) (C := []) rfl trivial ?_
        refine mw_if (P := (nI (((i * W + lane) % M) + 1)) = (nI M)) (a := 125) (b := 157) (fun _ => rfl) trivial (fun h9 => ?_) (fun h9 => ?_)
        · -- 125: (nI (((i * W + lane) % M) + 1)) = (nI M)
          have nh9 : (((i * W + lane) % M) + 1) = M := (nI_eq (by omega) (by omega)).mp (show nI (((i * W + lane) % M) + 1) = nI M from h9)
          have nhM : (i * W + lane) % M + 1 = M := nh9
          obtain ⟨hq1, hq2⟩ := dm_last hM0 nhM
          rw [Nat.add_assoc] at hq1 hq2
          refine mw_go mu_g302 (k := 2) (f1 := (129, [(8, .inl (nI (((i * W + lane) % M) + 1))), (11, .inl (nI lane)), (7, .inl (nI tq)), (6, .inl (nI (ou + (i * W + lane) / M))), (0, .inr (.inr (some 129))), (1, .inl nmk), (2, .inl tmk), (3, .inl (nI M)), (4, .inl (nI ou)), (5, .inl (nI TN)), (9, .inl (nI i)), (10, .inr (.inr (some 107)))], [.inr (.inr (mu_r Hsb 129 4))], Hsb)) (C := [mu_is Hsb (some 129) 9]) rfl (show mu_is Hsb (some 129) 9 from (ub.1.1.is rfl)) ?_
          rw [(show mu_r Hsb 129 4 = (V2.2.2.2.1 129 4) from (ud_q (U := Vb) (m := m) (P := 129) (j := 4) db rfl).trans ((zzb.r 129 4 rfl).trans ((z6.r 129 4 rfl).trans ((z5.r 129 4 rfl).trans ((zza.r 129 4 rfl).trans (z3.r 129 4 rfl))))))]
          refine mw_go mu_g302 (k := 3) (f1 := (135, [(8, .inl (nI (((i * W + lane) % M) + 1))), (11, .inl (nI lane)), (7, .inl (nI tq)), (6, .inl (nI (ou + (i * W + lane) / M))), (0, .inr (.inr (some 129))), (1, .inl nmk), (2, .inl tmk), (3, .inl (nI M)), (4, .inl (nI ou)), (5, .inl (nI TN)), (9, .inl (nI i)), (10, .inr (.inr (some 107)))], [.inr (.inr (mu_r Hsb 129 0)), .inl (nI (ou + (i * W + lane) / M)), .inr (.inr (V2.2.2.2.1 129 4))], Hsb)) (C := [mu_is Hsb (some 129) 9]) rfl (show mu_is Hsb (some 129) 9 from (ub.1.1.is rfl)) ?_
          rw [(ub.1.1.r (p := 129) (j := 0) (q := 99) rfl)]
          refine mw_go mu_g302 (k := 1) (f1 := (138, [(8, .inl (nI (((i * W + lane) % M) + 1))), (11, .inl (nI lane)), (7, .inl (nI tq)), (6, .inl (nI (ou + (i * W + lane) / M))), (0, .inr (.inr (some 129))), (1, .inl nmk), (2, .inl tmk), (3, .inl (nI M)), (4, .inl (nI ou)), (5, .inl (nI TN)), (9, .inl (nI i)), (10, .inr (.inr (some 107)))], [.inr (.inr (mu_r Hsb 99 2)), .inl (nI (ou + (i * W + lane) / M)), .inr (.inr (V2.2.2.2.1 129 4))], Hsb)) (C := [mu_is Hsb (some 99) 13]) rfl (show mu_is Hsb (some 99) 13 from (ub.1.1.is rfl)) ?_
          rw [(ub.1.1.r (p := 99) (j := 2) (q := 113) rfl)]
          refine mw_go mu_g302 (k := 2) (f1 := (142, [(8, .inl (nI (((i * W + lane) % M) + 1))), (11, .inl (nI lane)), (7, .inl (nI tq)), (6, .inl (nI (ou + (i * W + lane) / M))), (0, .inr (.inr (some 129))), (1, .inl nmk), (2, .inl tmk), (3, .inl (nI M)), (4, .inl (nI ou)), (5, .inl (nI TN)), (9, .inl (nI i)), (10, .inr (.inr (some 107)))], [.inr (.inr (mu_r Hsb 129 10)), .inr (.inr (some 113)), .inl (nI (ou + (i * W + lane) / M)), .inr (.inr (V2.2.2.2.1 129 4))], Hsb)) (C := [mu_is Hsb (some 129) 9]) rfl (show mu_is Hsb (some 129) 9 from (ub.1.1.is rfl)) ?_
          rw [(show mu_r Hsb 129 10 = (U.2.2.2.1 129 10) from (ud_q (U := Vb) (m := m) (P := 129) (j := 10) db rfl).trans ((zzb.r 129 10 rfl).trans ((z6.r 129 10 rfl).trans ((z5.r 129 10 rfl).trans ((zza.r 129 10 rfl).trans ((z3.r 129 10 rfl).trans (z2.r 129 10 rfl)))))))]
          refine mw_go mu_g302 (k := 1) (f1 := (144, [(8, .inl (nI (((i * W + lane) % M) + 1))), (11, .inl (nI lane)), (7, .inl (nI tq)), (6, .inl (nI (ou + (i * W + lane) / M))), (0, .inr (.inr (some 129))), (1, .inl nmk), (2, .inl tmk), (3, .inl (nI M)), (4, .inl (nI ou)), (5, .inl (nI TN)), (9, .inl (nI i)), (10, .inr (.inr (some 107)))], [.inl (nI tq), .inr (.inr (U.2.2.2.1 129 10)), .inr (.inr (some 113)), .inl (nI (ou + (i * W + lane) / M)), .inr (.inr (V2.2.2.2.1 129 4))], Hsb)) (C := []) rfl trivial ?_
          obtain ⟨hTp, hTo, N1, us1, S1, z1, p1, oid, hSk, hNb, hNS, hUb, hcl⟩ := hTBb
          have hSv : SOK Vb N1 us1 S1 z1 p1 := hSk.eq (show (Vb.2.1 113 1) = (Vb.2.1 113 1) from rfl) (show (Vb.2.1 113 2) = (Vb.2.1 113 2) from rfl) (show (Vb.2.1 113 5) = (Vb.2.1 113 5) from rfl) (show (Vb.2.2.1 113 3) = (Vb.2.2.1 113 3) from rfl) (show (Vb.2.2.1 113 4) = (Vb.2.2.1 113 4) from rfl) (congrFun rfl 114)
          have hn10 : (Vb.2.2.1 129 10).1 = (U.2.2.1 129 10).1 := ((zzb.n 129 10 rfl).trans ((z6.n 129 10 rfl).trans ((z5.n 129 10 rfl).trans ((zza.n 129 10 rfl).trans ((z3.n 129 10 rfl).trans (z2.n 129 10 rfl))))))
          have hqn : (i * W + lane) / M < pm nmk f P := by rw [Nat.div_lt_iff_lt_mul (by omega), Nat.mul_comm (pm nmk f P) M, ← hTw]; exact hnT
          have hcost : (i * W + lane) / M * (((M + 63) / 64) + 1) ≤ pm nmk f P * (((M + 63) / 64) + 1) := Nat.mul_le_mul_right _ (by omega)
          have hub1 := hSk.1.2.1
          obtain ⟨htd, ls, hls, hlr, hlm⟩ := hLP1
          have hlt : ∀ i, i < tq → ls i < M := fun i hi => by have y := ((hlm (ls i)).mp (lmz_in hi)).1; omega
          have hlb2 : ∀ i, i < tq → ls i < 16384 := fun i hi => by have y := hlt i hi; omega
          refine mw_cI (fun _ => rfl) (show mu_is Hsb (some 113) 11 from (ub.1.1.is rfl)) (by have y := st_add_129 (d := (d + 2)) (C := C) (n := tq) (ls := ls) ub db hls (by rw [hn10]; omega) (by rw [hn10]; omega) hlb2 hlr hSv (by omega); rw [show Vb.2.2.2.1 129 10 = U.2.2.2.1 129 10 from ((zzb.r 129 10 rfl).trans ((z6.r 129 10 rfl).trans ((z5.r 129 10 rfl).trans ((zza.r 129 10 rfl).trans ((z3.r 129 10 rfl).trans (z2.r 129 10 rfl))))))] at y; exact y) (fun x10 Q10 q10 => ?_)
          obtain ⟨id, rfl, u10, r10, z10, hAo, hAr⟩ := q10
          have ht10 : ur m C H Q10 := htb.trans r10
          obtain ⟨V10, d10⟩ : ∃ V, ud m Q10 = V := ⟨_, rfl⟩
          rw [d10] at z10 hAo hAr
          have qf10 : uq F302 U V10 := qfb.tr z10 rfl
          have hAD : ADD Vb V10 N1 us1 S1 z1 p1 ls tq id := ⟨z10, hAo, hAr⟩
          have hlf : ∀ x, lmz ls tq x = true ↔ x < M ∧ ¬ trz Y U f mk od i0 a0 N0 ((i * W + lane) / M * M + x) = 0 := fun x => by rw [hlm x, nhM]
          refine mw_go mu_g302 (k := 1) (f1 := (148, [(8, .inl (nI (((i * W + lane) % M) + 1))), (11, .inl (nI lane)), (7, .inl (nI tq)), (6, .inl (nI (ou + (i * W + lane) / M))), (0, .inr (.inr (some 129))), (1, .inl nmk), (2, .inl tmk), (3, .inl (nI M)), (4, .inl (nI ou)), (5, .inl (nI TN)), (9, .inl (nI i)), (10, .inr (.inr (some 107)))], [], (mu_si Q10 (mu_p (V2.2.2.2.1 129 4)) (nI (ou + (i * W + lane) / M)).toNatClampNeg (nI id)))) (C := [mu_is Q10 (V2.2.2.2.1 129 4) 100, vp_in (nI (ou + (i * W + lane) / M)) (mu_n Q10 (mu_p (V2.2.2.2.1 129 4)))]) rfl (show (mu_is Q10 (V2.2.2.2.1 129 4) 100) ∧ (vp_in (nI (ou + (i * W + lane) / M)) (mu_n Q10 (mu_p (V2.2.2.2.1 129 4)))) from ⟨(u10.iA d10 rfl rfl (show V10.2.2.2.1 129 4 = (V2.2.2.2.1 129 4) from ((z10.r 129 4 rfl).trans ((zzb.r 129 4 rfl).trans ((z6.r 129 4 rfl).trans ((z5.r 129 4 rfl).trans ((zza.r 129 4 rfl).trans (z3.r 129 4 rfl)))))))), (u10.vA (i := ou + (i * W + lane) / M) d10 rfl rfl (show V10.2.2.2.1 129 4 = (V2.2.2.2.1 129 4) from ((z10.r 129 4 rfl).trans ((zzb.r 129 4 rfl).trans ((z6.r 129 4 rfl).trans ((z5.r 129 4 rfl).trans ((zza.r 129 4 rfl).trans (z3.r 129 4 rfl))))))) (show (V10.2.2.1 129 4).1 = (V2.2.2.1 129 4).1 from ((z10.n 129 4 rfl).trans ((zzb.n 129 4 rfl).trans ((z6.n 129 4 rfl).trans ((z5.n 129 4 rfl).trans ((zza.n 129 4 rfl).trans (z3.n 129 4 rfl))))))) (by omega) (by omega))⟩) ?_
          rw [(show (nI (ou + (i * W + lane) / M)).toNatClampNeg = ou + (i * W + lane) / M from nI_clamp (by omega))]
          obtain ⟨u11, r11, d11⟩ : um m (mu_si Q10 (mu_p (V2.2.2.2.1 129 4)) (ou + (i * W + lane) / M) (nI id)) ∧ ur m C Q10 (mu_si Q10 (mu_p (V2.2.2.2.1 129 4)) (ou + (i * W + lane) / M) (nI id)) ∧ ud m (mu_si Q10 (mu_p (V2.2.2.2.1 129 4)) (ou + (i * W + lane) / M) (nI id)) = (upA V10 129 4 (ou + (i * W + lane) / M) (nI id)) := u10.sA (C := C) d10 rfl rfl (show V10.2.2.2.1 129 4 = (V2.2.2.2.1 129 4) from ((z10.r 129 4 rfl).trans ((zzb.r 129 4 rfl).trans ((z6.r 129 4 rfl).trans ((z5.r 129 4 rfl).trans ((zza.r 129 4 rfl).trans (z3.r 129 4 rfl)))))))
          generalize (mu_si Q10 (mu_p (V2.2.2.2.1 129 4)) (ou + (i * W + lane) / M) (nI id)) = Q11 at u11 r11 d11 ⊢
          have qf11 : uq F302 U (upA V10 129 4 (ou + (i * W + lane) / M) (nI id)) := qf10.A rfl
          have ht11 : ur m C H Q11 := ht10.trans r11
          refine mw_go mu_g302 (k := 1) (f1 := (151, [(6, .inl ((nI (ou + (i * W + lane) / M)) + 1)), (8, .inl (nI (((i * W + lane) % M) + 1))), (11, .inl (nI lane)), (7, .inl (nI tq)), (0, .inr (.inr (some 129))), (1, .inl nmk), (2, .inl tmk), (3, .inl (nI M)), (4, .inl (nI ou)), (5, .inl (nI TN)), (9, .inl (nI i)), (10, .inr (.inr (some 107)))], [], Q11)) (C := []) rfl trivial ?_
          rw [(show ((nI (ou + (i * W + lane) / M)) + 1) = (nI ((ou + (i * W + lane) / M) + 1)) from (nI_add (ou + (i * W + lane) / M) 1))]
          refine mw_go mu_g302 (k := 4) (f1 := (157, [(8, .inl (0 : Int32)), (7, .inl (0 : Int32)), (6, .inl (nI ((ou + (i * W + lane) / M) + 1))), (11, .inl (nI lane)), (0, .inr (.inr (some 129))), (1, .inl nmk), (2, .inl tmk), (3, .inl (nI M)), (4, .inl (nI ou)), (5, .inl (nI TN)), (9, .inl (nI i)), (10, .inr (.inr (some 107)))], [], Q11)) (C := []) rfl trivial ?_
          refine mw_go mu_g302 (k := 1) (f1 := (160, [(11, .inl ((nI lane) + 1)), (8, .inl (0 : Int32)), (7, .inl (0 : Int32)), (6, .inl (nI ((ou + (i * W + lane) / M) + 1))), (0, .inr (.inr (some 129))), (1, .inl nmk), (2, .inl tmk), (3, .inl (nI M)), (4, .inl (nI ou)), (5, .inl (nI TN)), (9, .inl (nI i)), (10, .inr (.inr (some 107)))], [], Q11)) (C := []) rfl trivial ?_
          rw [(show ((nI lane) + 1) = (nI (lane + 1)) from (nI_add lane 1))]
          refine mw_go mu_g302 (k := 1) (f1 := (81, [(11, .inl (nI (lane + 1))), (8, .inl (0 : Int32)), (7, .inl (0 : Int32)), (6, .inl (nI ((ou + (i * W + lane) / M) + 1))), (0, .inr (.inr (some 129))), (1, .inl nmk), (2, .inl tmk), (3, .inl (nI M)), (4, .inl (nI ou)), (5, .inl (nI TN)), (9, .inl (nI i)), (10, .inr (.inr (some 107)))], [], Q11)) (C := []) rfl trivial ?_
          refine mw_fr (show ((81, [(11, .inl (nI (lane + 1))), (8, .inl (0 : Int32)), (7, .inl (0 : Int32)), (6, .inl (nI ((ou + (i * W + lane) / M) + 1))), (0, .inr (.inr (some 129))), (1, .inl nmk), (2, .inl tmk), (3, .inl (nI M)), (4, .inl (nI ou)), (5, .inl (nI TN)), (9, .inl (nI i)), (10, .inr (.inr (some 107)))], [], Q11) : mu_F) = (81, [(11, .inl (nI (lane + 1))), (8, .inl (nI ((i * W + (lane + 1)) % M))), (7, .inl (nI 0)), (6, .inl (nI (ou + (i * W + (lane + 1)) / M))), (0, .inr (.inr (some 129))), (1, .inl nmk), (2, .inl tmk), (3, .inl (nI M)), (4, .inl (nI ou)), (5, .inl (nI TN)), (9, .inl (nI i)), (10, .inr (.inr (some 107)))], [], Q11) by rw [hq1, hq2]; try rfl) ?_
          exact mw_sub (by simp) (ihb (lane + 1, 0, Q11) ⟨u11, ht11, (show uq F302b V6 (ud m Q11) from by rw [d11]; exact ((zzb.tr z10 rfl).A rfl)), (show (lane + 1) ≤ ln from (by omega)), (show TBL U (ud m Q11) N us S z p ((M + 63) / 64) ou ((i * W + (lane + 1)) / M) (fun c x => x < M ∧ ¬ trz Y U f mk od i0 a0 N0 (c * M + x) = 0) from by rw [d11]; exact (by rw [hq1]; exact TBL.step (V1 := Vb) (ls := ls) (id := id) hTp hTo hNb hNS hUb hcl rfl (show (Vb.2.2.1 129 4) = (Vb.2.2.1 129 4) from rfl) hAD (fun lz y1 y2 => by by_cases h0 : tq = 0; (rw [h0] at y1; omega); (have y3 := y2 (by omega); have y4 := hlt (tq - 1) (by omega); omega)) (by omega) hlf)), (show LPT (ud m Q11) 0 ((i * W + (lane + 1)) / M) ((i * W + (lane + 1)) % M) M (trz Y U f mk od i0 a0 N0) from by rw [d11]; exact (by rw [hq2]; exact LPT.zero))⟩ (by show ln - (lane + 1) < ln - lane; omega))
        · -- 157: not (nI (((i * W + lane) % M) + 1)) = (nI M)
          have nh9 : ¬ (((i * W + lane) % M) + 1) = M := fun z => h9 (show nI (((i * W + lane) % M) + 1) = nI M from (nI_eq (by omega) (by omega)).mpr z)
          obtain ⟨hq1, hq2⟩ := dm_more hM0 nh9
          rw [Nat.add_assoc] at hq1 hq2
          refine mw_go mu_g302 (k := 1) (f1 := (160, [(11, .inl ((nI lane) + 1)), (8, .inl (nI (((i * W + lane) % M) + 1))), (7, .inl (nI tq)), (6, .inl (nI (ou + (i * W + lane) / M))), (0, .inr (.inr (some 129))), (1, .inl nmk), (2, .inl tmk), (3, .inl (nI M)), (4, .inl (nI ou)), (5, .inl (nI TN)), (9, .inl (nI i)), (10, .inr (.inr (some 107)))], [], Hsb)) (C := []) rfl trivial ?_
          rw [(show ((nI lane) + 1) = (nI (lane + 1)) from (nI_add lane 1))]
          refine mw_go mu_g302 (k := 1) (f1 := (81, [(11, .inl (nI (lane + 1))), (8, .inl (nI (((i * W + lane) % M) + 1))), (7, .inl (nI tq)), (6, .inl (nI (ou + (i * W + lane) / M))), (0, .inr (.inr (some 129))), (1, .inl nmk), (2, .inl tmk), (3, .inl (nI M)), (4, .inl (nI ou)), (5, .inl (nI TN)), (9, .inl (nI i)), (10, .inr (.inr (some 107)))], [], Hsb)) (C := []) rfl trivial ?_
          refine mw_fr (show ((81, [(11, .inl (nI (lane + 1))), (8, .inl (nI (((i * W + lane) % M) + 1))), (7, .inl (nI tq)), (6, .inl (nI (ou + (i * W + lane) / M))), (0, .inr (.inr (some 129))), (1, .inl nmk), (2, .inl tmk), (3, .inl (nI M)), (4, .inl (nI ou)), (5, .inl (nI TN)), (9, .inl (nI i)), (10, .inr (.inr (some 107)))], [], Hsb) : mu_F) = (81, [(11, .inl (nI (lane + 1))), (8, .inl (nI ((i * W + (lane + 1)) % M))), (7, .inl (nI tq)), (6, .inl (nI (ou + (i * W + (lane + 1)) / M))), (0, .inr (.inr (some 129))), (1, .inl nmk), (2, .inl tmk), (3, .inl (nI M)), (4, .inl (nI ou)), (5, .inl (nI TN)), (9, .inl (nI i)), (10, .inr (.inr (some 107)))], [], Hsb) by rw [hq1, hq2]; try rfl) ?_
          exact mw_sub (by simp) (ihb (lane + 1, tq, Hsb) ⟨ub, htb, (show uq F302b V6 (ud m Hsb) from by rw [db]; exact zzb), (show (lane + 1) ≤ ln from (by omega)), (show TBL U (ud m Hsb) N us S z p ((M + 63) / 64) ou ((i * W + (lane + 1)) / M) (fun c x => x < M ∧ ¬ trz Y U f mk od i0 a0 N0 (c * M + x) = 0) from by rw [db]; exact (by rw [hq1]; exact hTBb.eq (show (Vb.2.1 113 1) = (Vb.2.1 113 1) from rfl) (show (Vb.2.1 113 2) = (Vb.2.1 113 2) from rfl) (show (Vb.2.1 113 5) = (Vb.2.1 113 5) from rfl) (show (Vb.2.2.1 113 3) = (Vb.2.2.1 113 3) from rfl) (show (Vb.2.2.1 113 4) = (Vb.2.2.1 113 4) from rfl) (show (Vb.2.2.1 129 4) = (Vb.2.2.1 129 4) from rfl) rfl)), (show LPT (ud m Hsb) tq ((i * W + (lane + 1)) / M) ((i * W + (lane + 1)) % M) M (trz Y U f mk od i0 a0 N0) from by rw [db]; exact (by rw [hq1, hq2]; exact hLP1))⟩ (by show ln - (lane + 1) < ln - lane; omega))
      · -- 104: not (trz Y U f mk od i0 a0 N0 (i * W + lane)) = 0
        refine mw_go mu_g302 (k := 2) (f1 := (108, [(11, .inl (nI lane)), (7, .inl (nI tq)), (6, .inl (nI (ou + (i * W + lane) / M))), (8, .inl (nI ((i * W + lane) % M))), (0, .inr (.inr (some 129))), (1, .inl nmk), (2, .inl tmk), (3, .inl (nI M)), (4, .inl (nI ou)), (5, .inl (nI TN)), (9, .inl (nI i)), (10, .inr (.inr (some 107)))], [.inr (.inr (mu_r Hsb 129 10))], Hsb)) (C := [mu_is Hsb (some 129) 9]) rfl (show mu_is Hsb (some 129) 9 from (ub.1.1.is rfl)) ?_
        rw [(show mu_r Hsb 129 10 = (U.2.2.2.1 129 10) from (ud_q (U := Vb) (m := m) (P := 129) (j := 10) db rfl).trans ((zzb.r 129 10 rfl).trans ((z6.r 129 10 rfl).trans ((z5.r 129 10 rfl).trans ((zza.r 129 10 rfl).trans ((z3.r 129 10 rfl).trans (z2.r 129 10 rfl)))))))]
        refine mw_go mu_g302 (k := 3) (f1 := (113, [(11, .inl (nI lane)), (7, .inl (nI tq)), (6, .inl (nI (ou + (i * W + lane) / M))), (8, .inl (nI ((i * W + lane) % M))), (0, .inr (.inr (some 129))), (1, .inl nmk), (2, .inl tmk), (3, .inl (nI M)), (4, .inl (nI ou)), (5, .inl (nI TN)), (9, .inl (nI i)), (10, .inr (.inr (some 107)))], [], (mu_si Hsb (mu_p (U.2.2.2.1 129 10)) (nI tq).toNatClampNeg (nI ((i * W + lane) % M))))) (C := [mu_is Hsb (U.2.2.2.1 129 10) 100, vp_in (nI tq) (mu_n Hsb (mu_p (U.2.2.2.1 129 10)))]) rfl (show (mu_is Hsb (U.2.2.2.1 129 10) 100) ∧ (vp_in (nI tq) (mu_n Hsb (mu_p (U.2.2.2.1 129 10)))) from ⟨(ub.iA db rfl rfl (show Vb.2.2.2.1 129 10 = (U.2.2.2.1 129 10) from ((zzb.r 129 10 rfl).trans ((z6.r 129 10 rfl).trans ((z5.r 129 10 rfl).trans ((zza.r 129 10 rfl).trans ((z3.r 129 10 rfl).trans (z2.r 129 10 rfl)))))))), (ub.vA (i := tq) db rfl rfl (show Vb.2.2.2.1 129 10 = (U.2.2.2.1 129 10) from ((zzb.r 129 10 rfl).trans ((z6.r 129 10 rfl).trans ((z5.r 129 10 rfl).trans ((zza.r 129 10 rfl).trans ((z3.r 129 10 rfl).trans (z2.r 129 10 rfl))))))) (show (Vb.2.2.1 129 10).1 = (U.2.2.1 129 10).1 from ((zzb.n 129 10 rfl).trans ((z6.n 129 10 rfl).trans ((z5.n 129 10 rfl).trans ((zza.n 129 10 rfl).trans ((z3.n 129 10 rfl).trans (z2.n 129 10 rfl))))))) (by omega) (by omega))⟩) ?_
        rw [(show (nI tq).toNatClampNeg = tq from nI_clamp (by omega))]
        obtain ⟨u12, r12, d12⟩ : um m (mu_si Hsb (mu_p (U.2.2.2.1 129 10)) tq (nI ((i * W + lane) % M))) ∧ ur m C Hsb (mu_si Hsb (mu_p (U.2.2.2.1 129 10)) tq (nI ((i * W + lane) % M))) ∧ ud m (mu_si Hsb (mu_p (U.2.2.2.1 129 10)) tq (nI ((i * W + lane) % M))) = (upA Vb 129 10 tq (nI ((i * W + lane) % M))) := ub.sA (C := C) db rfl rfl (show Vb.2.2.2.1 129 10 = (U.2.2.2.1 129 10) from ((zzb.r 129 10 rfl).trans ((z6.r 129 10 rfl).trans ((z5.r 129 10 rfl).trans ((zza.r 129 10 rfl).trans ((z3.r 129 10 rfl).trans (z2.r 129 10 rfl)))))))
        generalize (mu_si Hsb (mu_p (U.2.2.2.1 129 10)) tq (nI ((i * W + lane) % M))) = Q12 at u12 r12 d12 ⊢
        have qf12 : uq F302 U (upA Vb 129 10 tq (nI ((i * W + lane) % M))) := qfb.A rfl
        have ht12 : ur m C H Q12 := htb.trans r12
        refine mw_go mu_g302 (k := 1) (f1 := (116, [(7, .inl ((nI tq) + 1)), (11, .inl (nI lane)), (6, .inl (nI (ou + (i * W + lane) / M))), (8, .inl (nI ((i * W + lane) % M))), (0, .inr (.inr (some 129))), (1, .inl nmk), (2, .inl tmk), (3, .inl (nI M)), (4, .inl (nI ou)), (5, .inl (nI TN)), (9, .inl (nI i)), (10, .inr (.inr (some 107)))], [], Q12)) (C := []) rfl trivial ?_
        rw [(show ((nI tq) + 1) = (nI (tq + 1)) from (nI_add tq 1))]
        have hLP1 : LPT (upA Vb 129 10 tq (nI ((i * W + lane) % M))) (tq + 1) ((i * W + lane) / M) ((i * W + lane) % M + 1) M (trz Y U f mk od i0 a0 N0) := hLPb.on (by rw [hnq]; exact h8)
        refine mw_go mu_g302 (k := 1) (f1 := (119, [(8, .inl ((nI ((i * W + lane) % M)) + 1)), (7, .inl (nI (tq + 1))), (11, .inl (nI lane)), (6, .inl (nI (ou + (i * W + lane) / M))), (0, .inr (.inr (some 129))), (1, .inl nmk), (2, .inl tmk), (3, .inl (nI M)), (4, .inl (nI ou)), (5, .inl (nI TN)), (9, .inl (nI i)), (10, .inr (.inr (some 107)))], [], Q12)) (C := []) rfl trivial ?_
        rw [(show ((nI ((i * W + lane) % M)) + 1) = (nI (((i * W + lane) % M) + 1)) from (nI_add ((i * W + lane) % M) 1))]
        refine mw_go mu_g302 (k := 2) (f1 := (122, [(8, .inl (nI (((i * W + lane) % M) + 1))), (7, .inl (nI (tq + 1))), (11, .inl (nI lane)), (6, .inl (nI (ou + (i * W + lane) / M))), (0, .inr (.inr (some 129))), (1, .inl nmk), (2, .inl tmk), (3, .inl (nI M)), (4, .inl (nI ou)), (5, .inl (nI TN)), (9, .inl (nI i)), (10, .inr (.inr (some 107)))], [.inl (nI M), .inl (nI (((i * W + lane) % M) + 1))], Q12)) (C := []) rfl trivial ?_
        refine mw_if (P := (nI (((i * W + lane) % M) + 1)) = (nI M)) (a := 125) (b := 157) (fun _ => rfl) trivial (fun h13 => ?_) (fun h13 => ?_)
        · -- 125: (nI (((i * W + lane) % M) + 1)) = (nI M)
          have nh13 : (((i * W + lane) % M) + 1) = M := (nI_eq (by omega) (by omega)).mp (show nI (((i * W + lane) % M) + 1) = nI M from h13)
          have nhM : (i * W + lane) % M + 1 = M := nh13
          obtain ⟨hq1, hq2⟩ := dm_last hM0 nhM
          rw [Nat.add_assoc] at hq1 hq2
          refine mw_go mu_g302 (k := 2) (f1 := (129, [(8, .inl (nI (((i * W + lane) % M) + 1))), (7, .inl (nI (tq + 1))), (11, .inl (nI lane)), (6, .inl (nI (ou + (i * W + lane) / M))), (0, .inr (.inr (some 129))), (1, .inl nmk), (2, .inl tmk), (3, .inl (nI M)), (4, .inl (nI ou)), (5, .inl (nI TN)), (9, .inl (nI i)), (10, .inr (.inr (some 107)))], [.inr (.inr (mu_r Q12 129 4))], Q12)) (C := [mu_is Q12 (some 129) 9]) rfl (show mu_is Q12 (some 129) 9 from (u12.1.1.is rfl)) ?_
          rw [(show mu_r Q12 129 4 = (V2.2.2.2.1 129 4) from (ud_q (U := (upA Vb 129 10 tq (nI ((i * W + lane) % M)))) (m := m) (P := 129) (j := 4) d12 rfl).trans ((zzb.r 129 4 rfl).trans ((z6.r 129 4 rfl).trans ((z5.r 129 4 rfl).trans ((zza.r 129 4 rfl).trans (z3.r 129 4 rfl))))))]
          refine mw_go mu_g302 (k := 3) (f1 := (135, [(8, .inl (nI (((i * W + lane) % M) + 1))), (7, .inl (nI (tq + 1))), (11, .inl (nI lane)), (6, .inl (nI (ou + (i * W + lane) / M))), (0, .inr (.inr (some 129))), (1, .inl nmk), (2, .inl tmk), (3, .inl (nI M)), (4, .inl (nI ou)), (5, .inl (nI TN)), (9, .inl (nI i)), (10, .inr (.inr (some 107)))], [.inr (.inr (mu_r Q12 129 0)), .inl (nI (ou + (i * W + lane) / M)), .inr (.inr (V2.2.2.2.1 129 4))], Q12)) (C := [mu_is Q12 (some 129) 9]) rfl (show mu_is Q12 (some 129) 9 from (u12.1.1.is rfl)) ?_
          rw [(u12.1.1.r (p := 129) (j := 0) (q := 99) rfl)]
          refine mw_go mu_g302 (k := 1) (f1 := (138, [(8, .inl (nI (((i * W + lane) % M) + 1))), (7, .inl (nI (tq + 1))), (11, .inl (nI lane)), (6, .inl (nI (ou + (i * W + lane) / M))), (0, .inr (.inr (some 129))), (1, .inl nmk), (2, .inl tmk), (3, .inl (nI M)), (4, .inl (nI ou)), (5, .inl (nI TN)), (9, .inl (nI i)), (10, .inr (.inr (some 107)))], [.inr (.inr (mu_r Q12 99 2)), .inl (nI (ou + (i * W + lane) / M)), .inr (.inr (V2.2.2.2.1 129 4))], Q12)) (C := [mu_is Q12 (some 99) 13]) rfl (show mu_is Q12 (some 99) 13 from (u12.1.1.is rfl)) ?_
          rw [(u12.1.1.r (p := 99) (j := 2) (q := 113) rfl)]
          refine mw_go mu_g302 (k := 2) (f1 := (142, [(8, .inl (nI (((i * W + lane) % M) + 1))), (7, .inl (nI (tq + 1))), (11, .inl (nI lane)), (6, .inl (nI (ou + (i * W + lane) / M))), (0, .inr (.inr (some 129))), (1, .inl nmk), (2, .inl tmk), (3, .inl (nI M)), (4, .inl (nI ou)), (5, .inl (nI TN)), (9, .inl (nI i)), (10, .inr (.inr (some 107)))], [.inr (.inr (mu_r Q12 129 10)), .inr (.inr (some 113)), .inl (nI (ou + (i * W + lane) / M)), .inr (.inr (V2.2.2.2.1 129 4))], Q12)) (C := [mu_is Q12 (some 129) 9]) rfl (show mu_is Q12 (some 129) 9 from (u12.1.1.is rfl)) ?_
          rw [(show mu_r Q12 129 10 = (U.2.2.2.1 129 10) from (ud_q (U := (upA Vb 129 10 tq (nI ((i * W + lane) % M)))) (m := m) (P := 129) (j := 10) d12 rfl).trans ((zzb.r 129 10 rfl).trans ((z6.r 129 10 rfl).trans ((z5.r 129 10 rfl).trans ((zza.r 129 10 rfl).trans ((z3.r 129 10 rfl).trans (z2.r 129 10 rfl)))))))]
          refine mw_go mu_g302 (k := 1) (f1 := (144, [(8, .inl (nI (((i * W + lane) % M) + 1))), (7, .inl (nI (tq + 1))), (11, .inl (nI lane)), (6, .inl (nI (ou + (i * W + lane) / M))), (0, .inr (.inr (some 129))), (1, .inl nmk), (2, .inl tmk), (3, .inl (nI M)), (4, .inl (nI ou)), (5, .inl (nI TN)), (9, .inl (nI i)), (10, .inr (.inr (some 107)))], [.inl (nI (tq + 1)), .inr (.inr (U.2.2.2.1 129 10)), .inr (.inr (some 113)), .inl (nI (ou + (i * W + lane) / M)), .inr (.inr (V2.2.2.2.1 129 4))], Q12)) (C := []) rfl trivial ?_
          obtain ⟨hTp, hTo, N1, us1, S1, z1, p1, oid, hSk, hNb, hNS, hUb, hcl⟩ := hTBb
          have hSv : SOK (upA Vb 129 10 tq (nI ((i * W + lane) % M))) N1 us1 S1 z1 p1 := hSk.eq (show ((upA Vb 129 10 tq (nI ((i * W + lane) % M))).2.1 113 1) = (Vb.2.1 113 1) from rfl) (show ((upA Vb 129 10 tq (nI ((i * W + lane) % M))).2.1 113 2) = (Vb.2.1 113 2) from rfl) (show ((upA Vb 129 10 tq (nI ((i * W + lane) % M))).2.1 113 5) = (Vb.2.1 113 5) from rfl) (show ((upA Vb 129 10 tq (nI ((i * W + lane) % M))).2.2.1 113 3) = (Vb.2.2.1 113 3) from rfl) (show ((upA Vb 129 10 tq (nI ((i * W + lane) % M))).2.2.1 113 4) = (Vb.2.2.1 113 4) from rfl) (congrFun rfl 114)
          have hn10 : ((upA Vb 129 10 tq (nI ((i * W + lane) % M))).2.2.1 129 10).1 = (U.2.2.1 129 10).1 := ((zzb.n 129 10 rfl).trans ((z6.n 129 10 rfl).trans ((z5.n 129 10 rfl).trans ((zza.n 129 10 rfl).trans ((z3.n 129 10 rfl).trans (z2.n 129 10 rfl))))))
          have hqn : (i * W + lane) / M < pm nmk f P := by rw [Nat.div_lt_iff_lt_mul (by omega), Nat.mul_comm (pm nmk f P) M, ← hTw]; exact hnT
          have hcost : (i * W + lane) / M * (((M + 63) / 64) + 1) ≤ pm nmk f P * (((M + 63) / 64) + 1) := Nat.mul_le_mul_right _ (by omega)
          have hub1 := hSk.1.2.1
          obtain ⟨htd, ls, hls, hlr, hlm⟩ := hLP1
          have hlt : ∀ i, i < (tq + 1) → ls i < M := fun i hi => by have y := ((hlm (ls i)).mp (lmz_in hi)).1; omega
          have hlb2 : ∀ i, i < (tq + 1) → ls i < 16384 := fun i hi => by have y := hlt i hi; omega
          refine mw_cI (fun _ => rfl) (show mu_is Q12 (some 113) 11 from (u12.1.1.is rfl)) (by have y := st_add_129 (d := (d + 2)) (C := C) (n := (tq + 1)) (ls := ls) u12 d12 hls (by rw [hn10]; omega) (by rw [hn10]; omega) hlb2 hlr hSv (by omega); rw [show (upA Vb 129 10 tq (nI ((i * W + lane) % M))).2.2.2.1 129 10 = U.2.2.2.1 129 10 from ((zzb.r 129 10 rfl).trans ((z6.r 129 10 rfl).trans ((z5.r 129 10 rfl).trans ((zza.r 129 10 rfl).trans ((z3.r 129 10 rfl).trans (z2.r 129 10 rfl))))))] at y; exact y) (fun x14 Q14 q14 => ?_)
          obtain ⟨id, rfl, u14, r14, z14, hAo, hAr⟩ := q14
          have ht14 : ur m C H Q14 := ht12.trans r14
          obtain ⟨V14, d14⟩ : ∃ V, ud m Q14 = V := ⟨_, rfl⟩
          rw [d14] at z14 hAo hAr
          have qf14 : uq F302 U V14 := qf12.tr z14 rfl
          have hAD : ADD (upA Vb 129 10 tq (nI ((i * W + lane) % M))) V14 N1 us1 S1 z1 p1 ls (tq + 1) id := ⟨z14, hAo, hAr⟩
          have hlf : ∀ x, lmz ls (tq + 1) x = true ↔ x < M ∧ ¬ trz Y U f mk od i0 a0 N0 ((i * W + lane) / M * M + x) = 0 := fun x => by rw [hlm x, nhM]
          refine mw_go mu_g302 (k := 1) (f1 := (148, [(8, .inl (nI (((i * W + lane) % M) + 1))), (7, .inl (nI (tq + 1))), (11, .inl (nI lane)), (6, .inl (nI (ou + (i * W + lane) / M))), (0, .inr (.inr (some 129))), (1, .inl nmk), (2, .inl tmk), (3, .inl (nI M)), (4, .inl (nI ou)), (5, .inl (nI TN)), (9, .inl (nI i)), (10, .inr (.inr (some 107)))], [], (mu_si Q14 (mu_p (V2.2.2.2.1 129 4)) (nI (ou + (i * W + lane) / M)).toNatClampNeg (nI id)))) (C := [mu_is Q14 (V2.2.2.2.1 129 4) 100, vp_in (nI (ou + (i * W + lane) / M)) (mu_n Q14 (mu_p (V2.2.2.2.1 129 4)))]) rfl (show (mu_is Q14 (V2.2.2.2.1 129 4) 100) ∧ (vp_in (nI (ou + (i * W + lane) / M)) (mu_n Q14 (mu_p (V2.2.2.2.1 129 4)))) from ⟨(u14.iA d14 rfl rfl (show V14.2.2.2.1 129 4 = (V2.2.2.2.1 129 4) from ((z14.r 129 4 rfl).trans ((zzb.r 129 4 rfl).trans ((z6.r 129 4 rfl).trans ((z5.r 129 4 rfl).trans ((zza.r 129 4 rfl).trans (z3.r 129 4 rfl)))))))), (u14.vA (i := ou + (i * W + lane) / M) d14 rfl rfl (show V14.2.2.2.1 129 4 = (V2.2.2.2.1 129 4) from ((z14.r 129 4 rfl).trans ((zzb.r 129 4 rfl).trans ((z6.r 129 4 rfl).trans ((z5.r 129 4 rfl).trans ((zza.r 129 4 rfl).trans (z3.r 129 4 rfl))))))) (show (V14.2.2.1 129 4).1 = (V2.2.2.1 129 4).1 from ((z14.n 129 4 rfl).trans ((zzb.n 129 4 rfl).trans ((z6.n 129 4 rfl).trans ((z5.n 129 4 rfl).trans ((zza.n 129 4 rfl).trans (z3.n 129 4 rfl))))))) (by omega) (by omega))⟩) ?_
          rw [(show (nI (ou + (i * W + lane) / M)).toNatClampNeg = ou + (i * W + lane) / M from nI_clamp (by omega))]
          obtain ⟨u15, r15, d15⟩ : um m (mu_si Q14 (mu_p (V2.2.2.2.1 129 4)) (ou + (i * W + lane) / M) (nI id)) ∧ ur m C Q14 (mu_si Q14 (mu_p (V2.2.2.2.1 129 4)) (ou + (i * W + lane) / M) (nI id)) ∧ ud m (mu_si Q14 (mu_p (V2.2.2.2.1 129 4)) (ou + (i * W + lane) / M) (nI id)) = (upA V14 129 4 (ou + (i * W + lane) / M) (nI id)) := u14.sA (C := C) d14 rfl rfl (show V14.2.2.2.1 129 4 = (V2.2.2.2.1 129 4) from ((z14.r 129 4 rfl).trans ((zzb.r 129 4 rfl).trans ((z6.r 129 4 rfl).trans ((z5.r 129 4 rfl).trans ((zza.r 129 4 rfl).trans (z3.r 129 4 rfl)))))))
          generalize (mu_si Q14 (mu_p (V2.2.2.2.1 129 4)) (ou + (i * W + lane) / M) (nI id)) = Q15 at u15 r15 d15 ⊢
          have qf15 : uq F302 U (upA V14 129 4 (ou + (i * W + lane) / M) (nI id)) := qf14.A rfl
          have ht15 : ur m C H Q15 := ht14.trans r15
          refine mw_go mu_g302 (k := 1) (f1 := (151, [(6, .inl ((nI (ou + (i * W + lane) / M)) + 1)), (8, .inl (nI (((i * W + lane) % M) + 1))), (7, .inl (nI (tq + 1))), (11, .inl (nI lane)), (0, .inr (.inr (some 129))), (1, .inl nmk), (2, .inl tmk), (3, .inl (nI M)), (4, .inl (nI ou)), (5, .inl (nI TN)), (9, .inl (nI i)), (10, .inr (.inr (some 107)))], [], Q15)) (C := []) rfl trivial ?_
          rw [(show ((nI (ou + (i * W + lane) / M)) + 1) = (nI ((ou + (i * W + lane) / M) + 1)) from (nI_add (ou + (i * W + lane) / M) 1))]
          refine mw_go mu_g302 (k := 4) (f1 := (157, [(8, .inl (0 : Int32)), (7, .inl (0 : Int32)), (6, .inl (nI ((ou + (i * W + lane) / M) + 1))), (11, .inl (nI lane)), (0, .inr (.inr (some 129))), (1, .inl nmk), (2, .inl tmk), (3, .inl (nI M)), (4, .inl (nI ou)), (5, .inl (nI TN)), (9, .inl (nI i)), (10, .inr (.inr (some 107)))], [], Q15)) (C := []) rfl trivial ?_
          refine mw_go mu_g302 (k := 1) (f1 := (160, [(11, .inl ((nI lane) + 1)), (8, .inl (0 : Int32)), (7, .inl (0 : Int32)), (6, .inl (nI ((ou + (i * W + lane) / M) + 1))), (0, .inr (.inr (some 129))), (1, .inl nmk), (2, .inl tmk), (3, .inl (nI M)), (4, .inl (nI ou)), (5, .inl (nI TN)), (9, .inl (nI i)), (10, .inr (.inr (some 107)))], [], Q15)) (C := []) rfl trivial ?_
          rw [(show ((nI lane) + 1) = (nI (lane + 1)) from (nI_add lane 1))]
          refine mw_go mu_g302 (k := 1) (f1 := (81, [(11, .inl (nI (lane + 1))), (8, .inl (0 : Int32)), (7, .inl (0 : Int32)), (6, .inl (nI ((ou + (i * W + lane) / M) + 1))), (0, .inr (.inr (some 129))), (1, .inl nmk), (2, .inl tmk), (3, .inl (nI M)), (4, .inl (nI ou)), (5, .inl (nI TN)), (9, .inl (nI i)), (10, .inr (.inr (some 107)))], [], Q15)) (C := []) rfl trivial ?_
          refine mw_fr (show ((81, [(11, .inl (nI (lane + 1))), (8, .inl (0 : Int32)), (7, .inl (0 : Int32)), (6, .inl (nI ((ou + (i * W + lane) / M) + 1))), (0, .inr (.inr (some 129))), (1, .inl nmk), (2, .inl tmk), (3, .inl (nI M)), (4, .inl (nI ou)), (5, .inl (nI TN)), (9, .inl (nI i)), (10, .inr (.inr (some 107)))], [], Q15) : mu_F) = (81, [(11, .inl (nI (lane + 1))), (8, .inl (nI ((i * W + (lane + 1)) % M))), (7, .inl (nI 0)), (6, .inl (nI (ou + (i * W + (lane + 1)) / M))), (0, .inr (.inr (some 129))), (1, .inl nmk), (2, .inl tmk), (3, .inl (nI M)), (4, .inl (nI ou)), (5, .inl (nI TN)), (9, .inl (nI i)), (10, .inr (.inr (some 107)))], [], Q15) by rw [hq1, hq2]; try rfl) ?_
          exact mw_sub (by simp) (ihb (lane + 1, 0, Q15) ⟨u15, ht15, (show uq F302b V6 (ud m Q15) from by rw [d15]; exact (((zzb.A rfl).tr z14 rfl).A rfl)), (show (lane + 1) ≤ ln from (by omega)), (show TBL U (ud m Q15) N us S z p ((M + 63) / 64) ou ((i * W + (lane + 1)) / M) (fun c x => x < M ∧ ¬ trz Y U f mk od i0 a0 N0 (c * M + x) = 0) from by rw [d15]; exact (by rw [hq1]; exact TBL.step (V1 := (upA Vb 129 10 tq (nI ((i * W + lane) % M)))) (ls := ls) (id := id) hTp hTo hNb hNS hUb hcl rfl (show ((upA Vb 129 10 tq (nI ((i * W + lane) % M))).2.2.1 129 4) = (Vb.2.2.1 129 4) from rfl) hAD (fun lz y1 y2 => by by_cases h0 : (tq + 1) = 0; (rw [h0] at y1; omega); (have y3 := y2 (by omega); have y4 := hlt ((tq + 1) - 1) (by omega); omega)) (by omega) hlf)), (show LPT (ud m Q15) 0 ((i * W + (lane + 1)) / M) ((i * W + (lane + 1)) % M) M (trz Y U f mk od i0 a0 N0) from by rw [d15]; exact (by rw [hq2]; exact LPT.zero))⟩ (by show ln - (lane + 1) < ln - lane; omega))
        · -- 157: not (nI (((i * W + lane) % M) + 1)) = (nI M)
          have nh13 : ¬ (((i * W + lane) % M) + 1) = M := fun z => h13 (show nI (((i * W + lane) % M) + 1) = nI M from (nI_eq (by omega) (by omega)).mpr z)
          obtain ⟨hq1, hq2⟩ := dm_more hM0 nh13
          rw [Nat.add_assoc] at hq1 hq2
          refine mw_go mu_g302 (k := 1) (f1 := (160, [(11, .inl ((nI lane) + 1)), (8, .inl (nI (((i * W + lane) % M) + 1))), (7, .inl (nI (tq + 1))), (6, .inl (nI (ou + (i * W + lane) / M))), (0, .inr (.inr (some 129))), (1, .inl nmk), (2, .inl tmk), (3, .inl (nI M)), (4, .inl (nI ou)), (5, .inl (nI TN)), (9, .inl (nI i)), (10, .inr (.inr (some 107)))], [], Q12)) (C := []) rfl trivial ?_
          rw [(show ((nI lane) + 1) = (nI (lane + 1)) from (nI_add lane 1))]
          refine mw_go mu_g302 (k := 1) (f1 := (81, [(11, .inl (nI (lane + 1))), (8, .inl (nI (((i * W + lane) % M) + 1))), (7, .inl (nI (tq + 1))), (6, .inl (nI (ou + (i * W + lane) / M))), (0, .inr (.inr (some 129))), (1, .inl nmk), (2, .inl tmk), (3, .inl (nI M)), (4, .inl (nI ou)), (5, .inl (nI TN)), (9, .inl (nI i)), (10, .inr (.inr (some 107)))], [], Q12)) (C := []) rfl trivial ?_
          refine mw_fr (show ((81, [(11, .inl (nI (lane + 1))), (8, .inl (nI (((i * W + lane) % M) + 1))), (7, .inl (nI (tq + 1))), (6, .inl (nI (ou + (i * W + lane) / M))), (0, .inr (.inr (some 129))), (1, .inl nmk), (2, .inl tmk), (3, .inl (nI M)), (4, .inl (nI ou)), (5, .inl (nI TN)), (9, .inl (nI i)), (10, .inr (.inr (some 107)))], [], Q12) : mu_F) = (81, [(11, .inl (nI (lane + 1))), (8, .inl (nI ((i * W + (lane + 1)) % M))), (7, .inl (nI (tq + 1))), (6, .inl (nI (ou + (i * W + (lane + 1)) / M))), (0, .inr (.inr (some 129))), (1, .inl nmk), (2, .inl tmk), (3, .inl (nI M)), (4, .inl (nI ou)), (5, .inl (nI TN)), (9, .inl (nI i)), (10, .inr (.inr (some 107)))], [], Q12) by rw [hq1, hq2]; try rfl) ?_
          exact mw_sub (by simp) (ihb (lane + 1, tq + 1, Q12) ⟨u12, ht12, (show uq F302b V6 (ud m Q12) from by rw [d12]; exact (zzb.A rfl)), (show (lane + 1) ≤ ln from (by omega)), (show TBL U (ud m Q12) N us S z p ((M + 63) / 64) ou ((i * W + (lane + 1)) / M) (fun c x => x < M ∧ ¬ trz Y U f mk od i0 a0 N0 (c * M + x) = 0) from by rw [d12]; exact (by rw [hq1]; exact hTBb.eq (show ((upA Vb 129 10 tq (nI ((i * W + lane) % M))).2.1 113 1) = (Vb.2.1 113 1) from rfl) (show ((upA Vb 129 10 tq (nI ((i * W + lane) % M))).2.1 113 2) = (Vb.2.1 113 2) from rfl) (show ((upA Vb 129 10 tq (nI ((i * W + lane) % M))).2.1 113 5) = (Vb.2.1 113 5) from rfl) (show ((upA Vb 129 10 tq (nI ((i * W + lane) % M))).2.2.1 113 3) = (Vb.2.2.1 113 3) from rfl) (show ((upA Vb 129 10 tq (nI ((i * W + lane) % M))).2.2.1 113 4) = (Vb.2.2.1 113 4) from rfl) (show ((upA Vb 129 10 tq (nI ((i * W + lane) % M))).2.2.1 129 4) = (Vb.2.2.1 129 4) from rfl) rfl)), (show LPT (ud m Q12) (tq + 1) ((i * W + (lane + 1)) / M) ((i * W + (lane + 1)) % M) M (trz Y U f mk od i0 a0 N0) from by rw [d12]; exact (by rw [hq1, hq2]; exact hLP1))⟩ (by show ln - (lane + 1) < ln - lane; omega))
    · -- 163: not (nI lane) < (nI ln)
      have nh7 : ¬ lane < ln := fun z => h7 (show nI lane < nI ln from (nI_ltI (by omega) (by omega)).mpr z)
      have hsm : (i + 1) * W = i * W + W := Nat.succ_mul i W
      rw [show i * W + lane = min ((i + 1) * W) T0 by omega]
      refine mw_go mu_g302 (k := 2) (f1 := (167, [(11, .inl (nI lane)), (7, .inl (nI tq)), (6, .inl (nI (ou + min ((i + 1) * W) T0 / M))), (8, .inl (nI (min ((i + 1) * W) T0 % M))), (0, .inr (.inr (some 129))), (1, .inl nmk), (2, .inl tmk), (3, .inl (nI M)), (4, .inl (nI ou)), (5, .inl (nI TN)), (9, .inl (nI i)), (10, .inr (.inr (some 107)))], [.inr (.inr (mu_r Hsb 129 0))], Hsb)) (C := [mu_is Hsb (some 129) 9]) rfl (show mu_is Hsb (some 129) 9 from (ub.1.1.is rfl)) ?_
      rw [(ub.1.1.r (p := 129) (j := 0) (q := 99) rfl)]
      refine mw_go mu_g302 (k := 1) (f1 := (170, [(11, .inl (nI lane)), (7, .inl (nI tq)), (6, .inl (nI (ou + min ((i + 1) * W) T0 / M))), (8, .inl (nI (min ((i + 1) * W) T0 % M))), (0, .inr (.inr (some 129))), (1, .inl nmk), (2, .inl tmk), (3, .inl (nI M)), (4, .inl (nI ou)), (5, .inl (nI TN)), (9, .inl (nI i)), (10, .inr (.inr (some 107)))], [.inr (.inr (mu_r Hsb 99 1))], Hsb)) (C := [mu_is Hsb (some 99) 13]) rfl (show mu_is Hsb (some 99) 13 from (ub.1.1.is rfl)) ?_
      rw [(ub.1.1.r (p := 99) (j := 1) (q := 100) rfl)]
      have hTDt : TRD Vb Y P f od a0 N0 i0 mk T0 W i := hTD.keep (show (Vb.1 21) = (V5.1 21) from ((zzb.t 21 rfl).trans (z6.t 21 rfl))) (show (Vb.1 22) = (V5.1 22) from ((zzb.t 22 rfl).trans (z6.t 22 rfl))) (show (Vb.1 15) = (V5.1 15) from ((zzb.t 15 rfl).trans (z6.t 15 rfl))) (show (Vb.2.2.1 100 3) = (V5.2.2.1 100 3) from ((zzb.a 100 3 rfl).trans (z6.a 100 3 rfl))) (show (Vb.2.1 100 5) = (V5.2.1 100 5) from ((zzb.i 100 5 rfl).trans (z6.i 100 5 rfl))) (show (Vb.2.1 100 7) = (V5.2.1 100 7) from ((zzb.i 100 7 rfl).trans (z6.i 100 7 rfl))) (show (Vb.2.1 100 17) = (V5.2.1 100 17) from ((zzb.i 100 17 rfl).trans (z6.i 100 17 rfl))) (show (Vb.2.1 100 4) = (V5.2.1 100 4) from ((zzb.i 100 4 rfl).trans (z6.i 100 4 rfl))) (show (Vb.2.1 100 18) = (V5.2.1 100 18) from ((zzb.i 100 18 rfl).trans (z6.i 100 18 rfl))) (show (Vb.2.1 100 19) = (V5.2.1 100 19) from ((zzb.i 100 19 rfl).trans (z6.i 100 19 rfl))) (show (Vb.2.1 100 20) = (V5.2.1 100 20) from ((zzb.i 100 20 rfl).trans (z6.i 100 20 rfl))) (show (Vb.2.2.1 100 8) = (V5.2.2.1 100 8) from ((zzb.a 100 8 rfl).trans (z6.a 100 8 rfl))) (show (Vb.2.2.1 100 12).1 = (V5.2.2.1 100 12).1 from ((zzb.n 100 12 rfl).trans (z6.n 100 12 rfl))) (show (Vb.2.2.1 100 13).1 = (V5.2.2.1 100 13).1 from ((zzb.n 100 13 rfl).trans (z6.n 100 13 rfl))) (show (Vb.2.2.1 100 15).1 = (V5.2.2.1 100 15).1 from ((zzb.n 100 15 rfl).trans (z6.n 100 15 rfl))) (show (Vb.2.2.1 99 8) = (V5.2.2.1 99 8) from ((zzb.a 99 8 rfl).trans (z6.a 99 8 rfl)))
      have hMt := (show MCS Vb from ⟨by rw [(show (Vb.1 22) = (V5.1 22) from ((zzb.t 22 rfl).trans (z6.t 22 rfl)))]; exact hMu.1, by rw [(show (Vb.2.2.1 100 3).1 = (V5.2.2.1 100 3).1 from ((zzb.n 100 3 rfl).trans (z6.n 100 3 rfl)))]; exact hMu.2.1, by rw [(show (Vb.2.2.1 100 8).1 = (V5.2.2.1 100 8).1 from ((zzb.n 100 8 rfl).trans (z6.n 100 8 rfl)))]; exact hMu.2.2.1, by rw [(show (Vb.2.2.1 100 12).1 = (V5.2.2.1 100 12).1 from ((zzb.n 100 12 rfl).trans (z6.n 100 12 rfl)))]; exact hMu.2.2.2.1, by rw [(show (Vb.2.2.1 100 13).1 = (V5.2.2.1 100 13).1 from ((zzb.n 100 13 rfl).trans (z6.n 100 13 rfl)))]; exact hMu.2.2.2.2.1, by rw [(show (Vb.2.2.1 100 15).1 = (V5.2.2.1 100 15).1 from ((zzb.n 100 15 rfl).trans (z6.n 100 15 rfl)))]; exact hMu.2.2.2.2.2⟩)
      have hKt : KNV m Vb Y P f od es := (hKu.q z6 rfl).q zzb rfl
      refine mw_cV (fun _ => rfl) (show mu_is Hsb (some 100) 5 from (ub.1.1.is rfl)) (mc_turnT (d := (d + 1)) (C := C) ub db hKt hMt hTDt hiW (by omega)) (fun Q16 q16 => ?_)
      obtain ⟨u16, r16, z16, hKn, hMn, hTRn⟩ := q16
      have ht16 : ur m C H Q16 := htb.trans r16
      obtain ⟨V16, d16⟩ : ∃ V, ud m Q16 = V := ⟨_, rfl⟩
      rw [d16] at z16 hKn hMn hTRn
      have qf16 : uq F302 U V16 := qfb.tr z16 rfl
      refine mw_go mu_g302 (k := 1) (f1 := (176, [(9, .inl ((nI i) + 1)), (11, .inl (nI lane)), (7, .inl (nI tq)), (6, .inl (nI (ou + min ((i + 1) * W) T0 / M))), (8, .inl (nI (min ((i + 1) * W) T0 % M))), (0, .inr (.inr (some 129))), (1, .inl nmk), (2, .inl tmk), (3, .inl (nI M)), (4, .inl (nI ou)), (5, .inl (nI TN)), (10, .inr (.inr (some 107)))], [], Q16)) (C := []) rfl trivial ?_
      rw [(show ((nI i) + 1) = (nI (i + 1)) from (nI_add i 1))]
      refine mw_go mu_g302 (k := 1) (f1 := (49, [(9, .inl (nI (i + 1))), (11, .inl (nI lane)), (7, .inl (nI tq)), (6, .inl (nI (ou + min ((i + 1) * W) T0 / M))), (8, .inl (nI (min ((i + 1) * W) T0 % M))), (0, .inr (.inr (some 129))), (1, .inl nmk), (2, .inl tmk), (3, .inl (nI M)), (4, .inl (nI ou)), (5, .inl (nI TN)), (10, .inr (.inr (some 107)))], [], Q16)) (C := []) rfl trivial ?_
      exact mw_sub (by simp) (iha (i + 1, tq, Q16) ⟨u16, ht16, (show uq F302a V3 (ud m Q16) from by rw [d16]; exact ((((zza.tr z5 rfl).tr z6 rfl).tr zzb rfl).tr z16 rfl)), (show (i + 1) ≤ TN from (by omega)), (show KNV m (ud m Q16) Y P f od es from by rw [d16]; exact hKn), (show MCS (ud m Q16) from by rw [d16]; exact hMn), (show TRN (ud m Q16) Y P f od a0 N0 i0 mk T0 W (i + 1) from by rw [d16]; exact hTRn), (show TBL U (ud m Q16) N us S z p ((M + 63) / 64) ou (min ((i + 1) * W) T0 / M) (fun c x => x < M ∧ ¬ trz Y U f mk od i0 a0 N0 (c * M + x) = 0) from by rw [d16]; exact (by rw [show min ((i + 1) * W) T0 = i * W + lane by omega]; exact hTBb.eq (show (V16.2.1 113 1) = (Vb.2.1 113 1) from (z16.i 113 1 rfl)) (show (V16.2.1 113 2) = (Vb.2.1 113 2) from (z16.i 113 2 rfl)) (show (V16.2.1 113 5) = (Vb.2.1 113 5) from (z16.i 113 5 rfl)) (show (V16.2.2.1 113 3) = (Vb.2.2.1 113 3) from (z16.a 113 3 rfl)) (show (V16.2.2.1 113 4) = (Vb.2.2.1 113 4) from (z16.a 113 4 rfl)) (show (V16.2.2.1 129 4) = (Vb.2.2.1 129 4) from (z16.a 129 4 rfl)) (z16.2.2.2.2.2 rfl))), (show LPT (ud m Q16) tq (min ((i + 1) * W) T0 / M) (min ((i + 1) * W) T0 % M) M (trz Y U f mk od i0 a0 N0) from by rw [d16]; exact (by rw [show min ((i + 1) * W) T0 = i * W + lane by omega]; exact hLPb.eq (show (V16.2.2.1 129 10) = (Vb.2.2.1 129 10) from (z16.a 129 10 rfl))))⟩ (by show TN - (i + 1) < TN - i; omega))
  · -- 179: not (nI i) < (nI TN)
    have nh4 : ¬ i < TN := fun z => h4 (show nI i < nI TN from (nI_ltI (by omega) (by omega)).mpr z)
    have hge : T0 ≤ i * W := turns_ge w1 (by rw [← hTN]; exact nh4)
    refine mw_go mu_g302 (k := 4) (f1 := (184, [(9, .inl (nI i)), (7, .inl (nI td)), (6, .inl (nI (ou + min (i * W) T0 / M))), (8, .inl (nI (min (i * W) T0 % M))), (0, .inr (.inr (some 129))), (1, .inl nmk), (2, .inl tmk), (3, .inl (nI M)), (4, .inl (nI ou)), (5, .inl (nI TN))], [.inl (nI ou), .inl tmk, .inl nmk, .inr (.inr (some 129))], Hsa)) (C := []) rfl trivial ?_
    have hln4 : (Va.2.2.1 129 4).1 = (V2.2.2.1 129 4).1 := ((zza.n 129 4 rfl).trans (z3.n 129 4 rfl))
    refine mw_cV (fun _ => rfl) (show mu_is Hsa (some 129) 9 from (ua.1.1.is rfl)) (rl_factor (d := (d + 2)) (C := C) (kb := kb) (bs := ou) (mk := nmk) (tm := tmk) (nf := nf) (l := l) ua da (spx_keep hK.1 (show (Va.2.1 99 4) = (U.2.1 99 4) from ((zza.i 99 4 rfl).trans ((z3.i 99 4 rfl).trans (z2.i 99 4 rfl)))) (show (Va.2.1 99 10) = (U.2.1 99 10) from ((zza.i 99 10 rfl).trans ((z3.i 99 10 rfl).trans (z2.i 99 10 rfl)))) (show (Va.2.1 99 11) = (U.2.1 99 11) from ((zza.i 99 11 rfl).trans ((z3.i 99 11 rfl).trans (z2.i 99 11 rfl)))) (show (Va.2.1 99 12) = (U.2.1 99 12) from ((zza.i 99 12 rfl).trans ((z3.i 99 12 rfl).trans (z2.i 99 12 rfl)))) (show (Va.2.2.1 99 5) = (U.2.2.1 99 5) from ((zza.a 99 5 rfl).trans ((z3.a 99 5 rfl).trans (z2.a 99 5 rfl)))) (show (Va.2.2.1 99 7) = (U.2.2.1 99 7) from ((zza.a 99 7 rfl).trans ((z3.a 99 7 rfl).trans (z2.a 99 7 rfl)))) (show (Va.2.2.1 99 6) = (U.2.2.1 99 6) from ((zza.a 99 6 rfl).trans ((z3.a 99 6 rfl).trans (z2.a 99 6 rfl)))) (show (Va.2.2.1 99 8).1 = (U.2.2.1 99 8).1 from ((zza.n 99 8 rfl).trans ((z3.n 99 8 rfl).trans (z2.n 99 8 rfl)))) (show (Va.2.2.1 99 18).1 = (U.2.2.1 99 18).1 from ((zza.n 99 18 rfl).trans ((z3.n 99 18 rfl).trans (z2.n 99 18 rfl)))) (show (Va.2.2.2.1 100 0) = (U.2.2.2.1 100 0) from ((zza.r 100 0 rfl).trans ((z3.r 100 0 rfl).trans (z2.r 100 0 rfl)))) (show (Va.2.2.2.1 99 0) = (U.2.2.2.1 99 0) from ((zza.r 99 0 rfl).trans ((z3.r 99 0 rfl).trans (z2.r 99 0 rfl))))) hlv (by rw [(show (Va.1 24) = (U.1 24) from ((zza.t 24 rfl).trans ((z3.t 24 rfl).trans (z2.t 24 rfl))))]; exact hnf) hC1 hC2 (by rw [(show (Va.2.2.1 129 7).1 = (U.2.2.1 129 7).1 from ((zza.n 129 7 rfl).trans ((z3.n 129 7 rfl).trans (z2.n 129 7 rfl))))]; exact h7) (by rw [(show (Va.2.2.1 129 7).1 = (U.2.2.1 129 7).1 from ((zza.n 129 7 rfl).trans ((z3.n 129 7 rfl).trans (z2.n 129 7 rfl))))]; exact h7b) (by rw [(show (Va.2.2.1 129 8).1 = (U.2.2.1 129 8).1 from ((zza.n 129 8 rfl).trans ((z3.n 129 8 rfl).trans (z2.n 129 8 rfl))))]; exact h8) (by rw [(show (Va.2.2.1 129 8).1 = (U.2.2.1 129 8).1 from ((zza.n 129 8 rfl).trans ((z3.n 129 8 rfl).trans (z2.n 129 8 rfl))))]; exact h8b) (by rw [(show (Va.2.2.1 129 9).1 = (U.2.2.1 129 9).1 from ((zza.n 129 9 rfl).trans ((z3.n 129 9 rfl).trans (z2.n 129 9 rfl))))]; exact h9) hkb hTb (by rw [hln4]; exact oln) (by rw [hln4]; rcases oOL with y | y | y <;> omega)) (fun Q17 q17 => ?_)
    obtain ⟨u17, r17, z17, hf24, hCL⟩ := q17
    have ht17 : ur m C H Q17 := hta.trans r17
    obtain ⟨V17, d17⟩ : ∃ V, ud m Q17 = V := ⟨_, rfl⟩
    rw [d17] at z17 hf24 hCL
    have qf17 : uq F302 U V17 := qfa.tr z17 rfl
    have hKe : KNV m V17 Y P f od es := hK.q qf17 rfl
    have hMe := (show MCS V17 from ⟨by rw [(show (V17.1 22) = (Va.1 22) from (z17.t 22 rfl))]; exact hMa.1, by rw [(show (V17.2.2.1 100 3).1 = (Va.2.2.1 100 3).1 from (z17.n 100 3 rfl))]; exact hMa.2.1, by rw [(show (V17.2.2.1 100 8).1 = (Va.2.2.1 100 8).1 from (z17.n 100 8 rfl))]; exact hMa.2.2.1, by rw [(show (V17.2.2.1 100 12).1 = (Va.2.2.1 100 12).1 from (z17.n 100 12 rfl))]; exact hMa.2.2.2.1, by rw [(show (V17.2.2.1 100 13).1 = (Va.2.2.1 100 13).1 from (z17.n 100 13 rfl))]; exact hMa.2.2.2.2.1, by rw [(show (V17.2.2.1 100 15).1 = (Va.2.2.1 100 15).1 from (z17.n 100 15 rfl))]; exact hMa.2.2.2.2.2⟩)
    have hle : LDW V17 Y P f od a0 N0 i0 := (hTRa.ldw hK.2.1).keep (show (V17.1 21) = (Va.1 21) from (z17.t 21 rfl)) (show (V17.1 22) = (Va.1 22) from (z17.t 22 rfl)) (show (V17.1 15) = (Va.1 15) from (z17.t 15 rfl)) (show (V17.2.2.1 100 3) = (Va.2.2.1 100 3) from (z17.a 100 3 rfl)) (show (V17.2.1 100 5) = (Va.2.1 100 5) from (z17.i 100 5 rfl)) (show (V17.2.1 100 7) = (Va.2.1 100 7) from (z17.i 100 7 rfl)) (show (V17.2.1 100 17) = (Va.2.1 100 17) from (z17.i 100 17 rfl)) (show (V17.2.1 100 4) = (Va.2.1 100 4) from (z17.i 100 4 rfl)) (show (V17.2.2.1 100 8) = (Va.2.2.1 100 8) from (z17.a 100 8 rfl)) (show (V17.2.2.1 100 12).1 = (Va.2.2.1 100 12).1 from (z17.n 100 12 rfl)) (show (V17.2.2.1 100 13).1 = (Va.2.2.1 100 13).1 from (z17.n 100 13 rfl)) (show (V17.2.2.1 100 15).1 = (Va.2.2.1 100 15).1 from (z17.n 100 15 rfl)) (show (V17.2.2.1 99 8) = (Va.2.2.1 99 8) from (z17.a 99 8 rfl))
    rw [show min (i * W) T0 = T0 by omega, hTw, Nat.mul_div_cancel_left _ hM0] at hTBa
    have hTe := hTBa.eq (V1 := V17) (show (V17.2.1 113 1) = (Va.2.1 113 1) from (z17.i 113 1 rfl)) (show (V17.2.1 113 2) = (Va.2.1 113 2) from (z17.i 113 2 rfl)) (show (V17.2.1 113 5) = (Va.2.1 113 5) from (z17.i 113 5 rfl)) (show (V17.2.2.1 113 3) = (Va.2.2.1 113 3) from (z17.a 113 3 rfl)) (show (V17.2.2.1 113 4) = (Va.2.2.1 113 4) from (z17.a 113 4 rfl)) (show (V17.2.2.1 129 4) = (Va.2.2.1 129 4) from (z17.a 129 4 rfl)) (z17.2.2.2.2.2 rfl)
    refine mw_of (fun _ => mu_ret rfl trivial ⟨Q17, rfl, u17, ht17, (by rw [d17]; exact qf17), ?_⟩)
    rw [d17]
    refine ⟨hKe, hMe, hle, hTe, ⟨(show (V17.2.1 129 5) = nI (ou + pm nmk f P) from ((z17.i 129 5 rfl).trans ((zza.i 129 5 rfl).trans ((z3.i 129 5 rfl).trans o5)))), by rw [show (V17.2.2.1 129 4).1 = (V2.2.2.1 129 4).1 from ((z17.n 129 4 rfl).trans ((zza.n 129 4 rfl).trans (z3.n 129 4 rfl)))]; exact oln, by rw [show (V17.2.2.1 129 4).1 = (V2.2.2.1 129 4).1 from ((z17.n 129 4 rfl).trans ((zza.n 129 4 rfl).trans (z3.n 129 4 rfl)))]; exact oOL⟩, ?_, ?_⟩
    · rw [hf24]; exact tab24 (show (Va.1 24) = (U.1 24) from ((zza.t 24 rfl).trans ((z3.t 24 rfl).trans (z2.t 24 rfl))))
    · exact CLS_base hCL (show (Va.2.2.1 129 7) = (U.2.2.1 129 7) from ((zza.a 129 7 rfl).trans ((z3.a 129 7 rfl).trans (z2.a 129 7 rfl)))) (fun t _ => by rw [(show (V17.2.2.1 129 4) = (Va.2.2.1 129 4) from (z17.a 129 4 rfl)), (show (Va.2.2.1 129 4) = (Va.2.2.1 129 4) from rfl)])
end TakeTable
