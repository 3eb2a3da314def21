/-! RELATION: takeTable (with tables that are there already) -/
theorem dm_last {n M : Nat} (hM : 0 < M) (h : n % M + 1 = M) : (n + 1) / M = n / M + 1 ∧ (n + 1) % M = 0 := by
  have e := Nat.div_add_mod n M
  have e1 : n + 1 = M * (n / M + 1) := by rw [Nat.mul_add, Nat.mul_one]; omega
  rw [e1]
  exact ⟨Nat.mul_div_cancel_left _ hM, Nat.mul_mod_right _ _⟩
theorem dm_more {n M : Nat} (hM : 0 < M) (h : ¬ n % M + 1 = M) : (n + 1) / M = n / M ∧ (n + 1) % M = n % M + 1 := by
  have e := Nat.div_add_mod n M
  have hl := Nat.mod_lt n hM
  have e1 : n + 1 = M * (n / M) + (n % M + 1) := by omega
  have h2 : n % M + 1 < M := by omega
  constructor
  · rw [e1, Nat.mul_add_div hM, Nat.div_eq_of_lt h2, Nat.add_zero]
  · rw [e1, Nat.mul_add_mod, Nat.mod_eq_of_lt h2]
section Tables
variable {U V V1 : Ud} {m P td q x0 M s t a0 N0 i0 n k c : Nat} {tr : Nat → Int32} {Y : Ts} {f od : Nat → Nat} {mk nmk tmk al v : Int32} {es rs : Nat → Int32} {kd : Bool} {Q : Nat → Prop}
theorem TRN.i11 {T0 W i : Nat} (h : TRN U Y P f od a0 N0 i0 mk T0 W i) : TRN (upI U 129 11 v) Y P f od a0 N0 i0 mk T0 W i := by
  obtain ⟨S0, K, dp, M, rk, l1, l2, l3, l4, l5, l6⟩ := h
  exact ⟨S0, K, dp, M, rk, LR_keep l1 rfl rfl, LZx_keep l2 rfl rfl rfl rfl rfl rfl rfl rfl, l3, sds_same l4 rfl rfl rfl, l5, fun hi => ⟨(l6 hi).1, (l6 hi).2.1, (l6 hi).2.2.1, (l6 hi).2.2.2⟩⟩
theorem LSO.nil : LSO V 0 0 Q := ⟨fun _ => 0, fun i h => absurd h (Nat.not_lt_zero i), fun i j _ h => absurd h (Nat.not_lt_zero j), fun x => ⟨fun h => by rw [lmz_iff] at h; obtain ⟨i, h1, -⟩ := h; exact absurd h1 (Nat.not_lt_zero i), fun h => absurd h.1 (Nat.not_lt_zero x)⟩⟩
theorem trz_01 (hK : KNV m U Y P f od es) (hr0 : rg Y k false a0 (a0 + N0)) (hs0 : SRT Y es i0 al a0 rs N0) (hal : ¬ al = 2) (hst : stk Y rs a0 N0 0 = 1) : trz Y U f mk od i0 a0 N0 c = 0 ∨ trz Y U f mk od i0 a0 N0 c = 1 := by
  have hP := hK.P14
  have hW := hK.2.2.2.1.1
  have hv : ∀ sh, VLS Y (vlz U f mk sh c) := fun sh => VLS_vlz hK.2.2.2.2.2.1 hP hK.2.1
  have h1p := rg_1 hr0
  rw [Nat.add_sub_cancel_left] at h1p
  have hkd : kdz Y a0 N0 0 = false := by
    have z := kst_kd hr0.2.2.1 0 (by rw [Nat.add_sub_cancel_left]; omega)
    rw [Nat.add_sub_cancel_left, h1p] at z
    exact (Option.some.inj z).symm
  have q := typ_n (lv := lvl Y (vlz U f mk 0 c) (vlz U f mk 14 c) (evz Y od (vlz U f mk 0 c)) i0) hW.2.2.2.2.2.1.2 hr0 hs0 hal (fun n hn ho => lvl_cfm hW hK.2.2.2.1.2.2.1 (by have := hr0.2.1; omega) ((hs0 n hn).2.1 (plen_0 ho)) (hv 0) (hv 14) (fun e2 he2 _ => evz_all hW hK.2.2.2.2.1 hK.2.2.2.1.2.1 hK.2.2.2.1.2.2.1 (hv 0) he2)) N0 (Nat.le_refl _) 0 (by omega) hkd
  exact q.1 hst
/-- what is true in a piece of a table -/
def TQ (Y : Ts) (U : Ud) (f : Nat → Nat) (mk : Int32) (od : Nat → Nat) (i0 a0 N0 M c x : Nat) : Bool := decide (trz Y U f mk od i0 a0 N0 (c * M + x) = 1)
theorem TQ_val (h : v = 0 ∨ v = 1) (e : v = trz Y U f mk od i0 a0 N0 c) : v = nI (if TQ Y U f mk od i0 a0 N0 M (c / M) (c % M) = true then 1 else 0) := by
  unfold TQ
  rw [Nat.div_add_mod' c M, ← e]
  exact trp_nI h
theorem tqz_then (ht : ∀ k, k < 14 → mb tmk k = mb mk (k + 14)) (hb : ∀ k, k < 28 → ¬ mb mk k = 0 → k % 14 < P) (hP : P ≤ 14) : ∀ n, n ≤ P → tqz mk f (14 - P + n) = wn tmk f P n := by
  have h0 : ∀ n, n ≤ 14 - P → tqz mk f n = 1 := by
    intro n
    induction n with
    | zero => intro _; rfl
    | succ n ih =>
      intro hn
      have hz : mb mk (27 - n) = 0 := Decidable.not_not.mp (fun y => by have := hb (27 - n) (by omega) y; omega)
      show tqz mk f n * (if mb mk (27 - n) = 0 then 1 else f ((27 - n) % 14)) = 1
      rw [if_pos hz, ih (by omega)]
  intro n
  induction n with
  | zero => intro _; rw [Nat.add_zero]; exact h0 _ (Nat.le_refl _)
  | succ n ih =>
    intro hn
    show tqz mk f (14 - P + n) * (if mb mk (27 - (14 - P + n)) = 0 then 1 else f ((27 - (14 - P + n)) % 14)) = wn tmk f P n * (if mb tmk (P - 1 - n) = 0 then 1 else f (P - 1 - n))
    rw [ih (by omega), ht (P - 1 - n) (by omega), show 27 - (14 - P + n) = P - 1 - n + 14 by omega, show (P - 1 - n + 14) % 14 = P - 1 - n by omega]
theorem tqz_now (hn : ∀ k, k < 14 → mb nmk k = mb mk k) (ht : ∀ k, k < 14 → mb tmk k = mb mk (k + 14)) (hb : ∀ k, k < 28 → ¬ mb mk k = 0 → k % 14 < P) (hP : P ≤ 14) : ∀ n, n ≤ P → tqz mk f (28 - P + n) = pm tmk f P * wn nmk f P n := by
  have h14 : tqz mk f 14 = pm tmk f P := by
    have y := tqz_then (f := f) ht hb hP P (Nat.le_refl P)
    rw [show 14 - P + P = 14 by omega, wn_pm] at y
    exact y
  have h0 : ∀ n, 14 + n ≤ 28 - P → tqz mk f (14 + n) = pm tmk f P := by
    intro n
    induction n with
    | zero => intro _; exact h14
    | succ n ih =>
      intro hn
      have hz : mb mk (27 - (14 + n)) = 0 := Decidable.not_not.mp (fun y => by have := hb (27 - (14 + n)) (by omega) y; omega)
      show tqz mk f (14 + n) * (if mb mk (27 - (14 + n)) = 0 then 1 else f ((27 - (14 + n)) % 14)) = _
      rw [if_pos hz, Nat.mul_one]
      exact ih (by omega)
  intro n
  induction n with
  | zero =>
    intro _
    have y := h0 (14 - P) (by omega)
    rw [show 14 + (14 - P) = 28 - P by omega] at y
    show tqz mk f (28 - P) = pm tmk f P * 1
    rw [y, Nat.mul_one]
  | succ n ih =>
    intro hn'
    show tqz mk f (28 - P + n) * (if mb mk (27 - (28 - P + n)) = 0 then 1 else f ((27 - (28 - P + n)) % 14)) = pm tmk f P * (wn nmk f P n * (if mb nmk (P - 1 - n) = 0 then 1 else f (P - 1 - n)))
    rw [ih (by omega), hn (P - 1 - n) (by omega), show 27 - (28 - P + n) = P - 1 - n by omega, show (P - 1 - n) % 14 = P - 1 - n by omega, Nat.mul_assoc]
theorem tqz_two (hn : ∀ k, k < 14 → mb nmk k = mb mk k) (ht : ∀ k, k < 14 → mb tmk k = mb mk (k + 14)) (hb : ∀ k, k < 28 → ¬ mb mk k = 0 → k % 14 < P) (hP : P ≤ 14) : tqz mk f 28 = pm tmk f P * pm nmk f P := by
  have y := tqz_now (f := f) hn ht hb hP P (Nat.le_refl P)
  rw [show 28 - P + P = 28 by omega, wn_pm] at y
  exact y
/-- the valuation of two STATES agrees with them -/
theorem agr_two (hn : ∀ k, k < 14 → mb nmk k = mb mk k) (ht : ∀ k, k < 14 → mb tmk k = mb mk (k + 14)) (hb : ∀ k, k < 28 → ¬ mb mk k = 0 → k % 14 < P) (hP : P ≤ 14) (hf : ∀ k, 1 ≤ f k) (hs : s < pd f 0 P) (ht' : t < pd f 0 P) : AGR (U.1 15) Y mk 0 (vlz U f mk 0 (pj nmk f P P s * pm tmk f P + pj tmk f P P t)) (vst U f P s) ∧ AGR (U.1 15) Y mk 14 (vlz U f mk 14 (pj nmk f P P s * pm tmk f P + pj tmk f P P t)) (vst U f P t) := by
  have hf' : ∀ k, k < P → 1 ≤ f k := fun k _ => hf k
  have hpt : pj tmk f P P t < pm tmk f P := by
    have y := pj_lt (mk := tmk) (f := f) (P := P) (n := P) hf' (Nat.le_refl P) t (by rw [Nat.sub_self]; exact ht')
    rw [wn_pm] at y
    exact y
  have hM := (pm_le (mk := tmk) (f := f) (n := P) hf').1
  refine ⟨fun w hw => ⟨fun e => ?_, fun pl h14 e hm => ?_⟩, fun w hw => ⟨fun e => ?_, fun pl h14 e hm => ?_⟩⟩
  · unfold vlz vst; rw [if_pos e, if_pos e]
  · have nm : ¬ (U.1 15).2 w 2 = -1 := by rw [e]; exact nI_neg1 (by omega)
    rw [Nat.add_zero] at hm
    have hpP : pl < P := by have := hb pl (by omega) hm; omega
    unfold vlz vst
    rw [if_neg nm, if_neg nm, e, nI_clamp (by omega)]
    congr 2
    have hw2 : wqz mk f (pl + 0) = pm tmk f P * wn nmk f P (P - 1 - pl) := by
      unfold wqz
      rw [Nat.add_zero, if_neg hm, ← tqz_now (f := f) hn ht hb hP (P - 1 - pl) (by omega), show 28 - P + (P - 1 - pl) = 27 - pl by omega]
    have z := pj_digit (mk := nmk) hf' (n' := P - 1 - pl) (by rw [show P - 1 - (P - 1 - pl) = pl by omega, hn pl (by omega)]; exact hm) P (by omega) (Nat.le_refl _) s (by rw [Nat.sub_self]; exact hs)
    rw [show P - 1 - (P - 1 - pl) = pl by omega, show P - (P - 1 - pl) = pl + 1 by omega] at z
    rw [hw2, ← Nat.div_div_eq_div_mul, Nat.mul_comm (pj nmk f P P s), Nat.mul_add_div hM, Nat.div_eq_of_lt hpt, Nat.add_zero, z]
  · unfold vlz vst; rw [if_pos e, if_pos e]
  · have nm : ¬ (U.1 15).2 w 2 = -1 := by rw [e]; exact nI_neg1 (by omega)
    have hpP : pl < P := by have := hb (pl + 14) (by omega) hm; omega
    unfold vlz vst
    rw [if_neg nm, if_neg nm, e, nI_clamp (by omega)]
    congr 2
    have hw2 : wqz mk f (pl + 14) = wn tmk f P (P - 1 - pl) := by
      unfold wqz
      rw [if_neg hm, ← tqz_then (f := f) ht hb hP (P - 1 - pl) (by omega), show 14 - P + (P - 1 - pl) = 27 - (pl + 14) by omega]
    have hmt : ¬ mb tmk (P - 1 - (P - 1 - pl)) = 0 := by rw [show P - 1 - (P - 1 - pl) = pl by omega, ht pl (by omega)]; exact hm
    have z := pj_digit (mk := tmk) hf' (n' := P - 1 - pl) hmt P (by omega) (Nat.le_refl _) t (by rw [Nat.sub_self]; exact ht')
    obtain ⟨r, er⟩ := wn_dvd (f := f) (P := P) (mk := tmk) (n' := P - 1 - pl) hmt P (by omega)
    rw [wn_pm] at er
    have hw1 := (wn_le (mk := tmk) (f := f) (P := P) (n := P - 1 - pl) hf' (by omega)).1
    rw [show P - 1 - (P - 1 - pl) = pl by omega] at z er
    rw [show P - (P - 1 - pl) = pl + 1 by omega] at z
    rw [hw2, Nat.add_comm (pj nmk f P P s * pm tmk f P), er, dm_add hw1, z]
/-- what the valuation of two STATES says is what is true between them -/
theorem trz_two (hK : KNV m U Y P f od es) (hl : LDW U Y P f od a0 N0 i0) (hmk : U.2.1 100 4 = mk) (hn : ∀ k, k < 14 → mb nmk k = mb mk k) (ht : ∀ k, k < 14 → mb tmk k = mb mk (k + 14)) (hi : i0 < (Y 11).1) (hr : rg Y (im Y i0) kd a0 (a0 + N0)) (hs : s < pd f 0 P) (ht' : t < pd f 0 P) : trz Y U f mk od i0 a0 N0 (pj nmk f P P s * pm tmk f P + pj tmk f P P t) = trs Y U f P od i0 a0 N0 s t := by
  obtain ⟨S0, K, dp, W, mk', M', rk, l1, l2, l3, l4⟩ := hl
  have emk : mk' = mk := l2.1.2.2.2.symm.trans hmk
  subst emk
  have hP := hK.P14
  obtain ⟨g1, g2⟩ := agr_two (U := U) (Y := Y) hn ht (fun k hk hb => (l3.2.2 k (by omega) hb).2.1) hP hK.2.1 hs ht'
  exact congrFun (root_agree hK.2.2.2.1.1 hK.2.2.2.2.1 hK.2.2.2.1.2.1 hP l3 hi hr g1 g2).1 0
theorem LDW.sides (hl : LDW U Y P f od a0 N0 i0) (hmk : U.2.1 100 4 = mk) : ∀ k, k < 28 → ¬ mb mk k = 0 → k % 14 < P := by
  obtain ⟨S0, K, dp, W, mk', M', rk, l1, l2, l3, l4⟩ := hl
  have emk : mk' = mk := l2.1.2.2.2.symm.trans hmk
  subst emk
  exact fun k hk hb => (l3.2.2 k (by omega) hb).2.1
end Tables
section TakeTable
variable {H : mu_H} {U V V1 V2 : Ud} {m d P a0 N0 i0 ou us N nf nb T0 M l : Nat} {C : Nat → Nat} {bo : Nat → Nat → Nat} {nm tm : Nat → Int32} {Y : Ts} {f od z bs : Nat → Nat} {es rs : Nat → Int32} {al mk nmk tmk : Int32} {S : Nat → Nat → Bool} {p : Nat → Bool}
def F302 : Uf := ⟨[22, 24], [(100, 18), (100, 21), (100, 19), (100, 20), (100, 14), (100, 16), (113, 1), (113, 2), (129, 11), (129, 5)], [(100, 8), (100, 12), (100, 9), (100, 10), (100, 11), (100, 13), (100, 15), (113, 3), (113, 4), (129, 10), (129, 4), (129, 14)], [(113, 3), (129, 4)], [117], true⟩
def F302a : Uf := ⟨[22], [(100, 14), (100, 16), (100, 21), (100, 18), (100, 19), (113, 1), (113, 2), (129, 11)], [(100, 8), (100, 9), (100, 10), (100, 11), (100, 12), (100, 13), (100, 15), (113, 3), (113, 4), (129, 10), (129, 4)], [(113, 3)], [117], true⟩
def F302b : Uf := ⟨[], [(113, 1), (113, 2), (129, 11)], [(113, 3), (113, 4), (129, 10), (129, 4)], [(113, 3)], [117], true⟩
/-- PathProver$Relation.takeTable(III)V -/
abbrev mu_m302 : ev_M := (12, none, [], ev_b302)
theorem mu_g302 : mu_good mu_m302 := mu_goodk ev_k302
theorem rl_table0 (h : um m H) (e : ud m H = U) (hK : KNV m U Y P f od es) (hM : MCS U) (hl : LDW U Y P f od a0 N0 i0) (hi0 : i0 < (Y 11).1) (hr0 : rg Y (im Y i0) false a0 (a0 + N0)) (hs0 : SRT Y es i0 al a0 rs N0) (hal : ¬ al = 2) (hst : stk Y rs a0 N0 0 = 1) (hmk : U.2.1 100 4 = mk) (hnm : ∀ k, k < 14 → mb nmk k = mb mk k) (htm : ∀ k, k < 14 → mb tmk k = mb mk (k + 14)) (hMM : M = pm tmk f P) {lx : Int32} (hlvx : (31 : Int32) - ji_lz tmk = lx) (hlo : ¬ one1 tmk = 0 → lx = nI l ∧ l < 28) (hSO : SOK U N us S z p) (hF : FMS U nf nm tm nb bo) (hbs : ∀ q, q < nf → (U.1 24).2 q 2 = nI (bs q)) (hou : U.2.1 129 5 = nI ou) (hol : ou ≤ (U.2.2.1 129 4).1) (hOL : OLN (U.2.2.1 129 4).1) (hN : N + pm nmk f P ≤ 500000) (hX : us + pm nmk f P * (((M + 63) / 64) + 1) ≤ 1400000) (hLl : pd f 0 P + 4 ≤ (U.2.2.1 129 10).1) (hLlb : (U.2.2.1 129 10).1 ≤ 16777216) (hC1 : 2 * ((nf + 1) * 6) + 6 ≤ C 24) (hC2 : C 24 ≤ 8388608) (hnk : ∀ q, ¬ KNF nf nm tm (bo (nb - 1) 0) nmk tmk q) (hfit : ou + pm nmk f P ≤ 32768) : mu_TV (mu_D (d + 8)) 302 [.inr (.inr (some 129)), .inl nmk, .inl tmk, .inl (nI M)] H (fun H1 => um m H1 ∧ ur m C H H1 ∧ uq F302 U (ud m H1) ∧ KNV m (ud m H1) Y P f od es ∧ MCS (ud m H1) ∧ LDW (ud m H1) Y P f od a0 N0 i0 ∧ (∃ V0 : Ud, (∀ a c, V0.2.2.2.2.2 a c = U.2.2.2.2.2 a c) ∧ (∀ j, j < ou → (V0.2.2.1 129 4).2 j = (U.2.2.1 129 4).2 j) ∧ TBX V0 (ud m H1) N us S z p ((M + 63) / 64) ou (pm nmk f P) (fun c x => x < M ∧ trz Y U f mk od i0 a0 N0 (c * M + x) = 1)) ∧ ((ud m H1).2.1 129 5 = nI (ou + pm nmk f P) ∧ ou + pm nmk f P ≤ ((ud m H1).2.2.1 129 4).1 ∧ OLN ((ud m H1).2.2.1 129 4).1) ∧ (ud m H1).1 24 = tset 6 (tput 6 (U.1 24) nmk tmk (nI ou) 0) (nI nf) 4 lx) := by
  obtain ⟨⟨s4, s10, s11, s12⟩, hk5, ⟨g8, g8b, g18, g18b⟩, ⟨gP, gpd, gsm⟩, hsp, hmo'⟩ := id hK.1
  have hP : P ≤ 14 := gP
  have hpm := pm_le (mk := nmk) (f := f) (n := P) (fun k _ => hK.2.1 k)
  have hpt := pm_le (mk := tmk) (f := f) (n := P) (fun k _ => hK.2.1 k)
  rw [← hMM] at hpt
  have hM0 : 0 < M := by omega
  have tp1 : tpz Y a0 N0 = 1 := by have y := rg_1 hr0; rw [Nat.add_sub_cancel_left] at y; exact y
  obtain ⟨T0, hT0⟩ : ∃ T0, T0 = tqz mk f 28 := ⟨_, rfl⟩
  have hTw : T0 = M * pm nmk f P := by rw [hT0, hMM]; exact tqz_two hnm htm (LDW.sides hl hmk) hP
  have hTb2 : T0 ≤ 268435456 := by
    have y : M * pm nmk f P ≤ 16384 * 16384 := Nat.mul_le_mul (by omega) (by omega)
    omega
  refine mu_meth (M := mu_m302) rfl rfl ?_
  refine mw_ht (mu_fn_of (show [0, 1, 2, 3].Nodup by decide)) ?_
  refine mw_go mu_g302 (k := 3) (f1 := (3, [(0, .inr (.inr (some 129))), (1, .inl nmk), (2, .inl tmk), (3, .inl (nI M))], [.inl tmk, .inl nmk, .inr (.inr (some 129))], H)) (C := []) rfl trivial ?_
  refine mw_cIe (fun _ => rfl) (show mu_is H (some 129) 9 from (h.1.1.is rfl)) (rl_facN (d := (d + 5)) (mk := nmk) (tk := tmk) h e hF hnk) ?_
  refine mw_if (P := (-1 : Int32) < 0) (a := 13) (b := 9) (fun _ => rfl) trivial (fun h2 => ?_) (fun h2 => absurd (by decide) h2)
  refine mw_go mu_g302 (k := 5) (f1 := (19, [(4, .inl (0 : Int32)), (0, .inr (.inr (some 129))), (1, .inl nmk), (2, .inl tmk), (3, .inl (nI M))], [.inl tmk, .inl nmk, .inr (.inr (some 129))], H)) (C := []) rfl trivial ?_
  refine mw_cI (fun _ => rfl) (show mu_is H (some 129) 9 from (h.1.1.is rfl)) (rl_opentN (d := (d + 3)) (C := C) (mk := nmk) (tk := tmk) (bs := bs) (ou := ou) (lw := lx) h e hK.1 hF hbs hou hOL hol (fun _ => hfit) hlvx hC1 hC2 hnk) (fun x3 Q3 q3 => ?_)
  obtain ⟨rfl, u3, r3, z3, o5, ⟨oln, oOL, oold⟩, o24⟩ := q3
  have ht3 : ur m C H Q3 := (ur.refl m C H).trans r3
  obtain ⟨V3, d3⟩ : ∃ V, ud m Q3 = V := ⟨_, rfl⟩
  rw [d3] at z3 o5 oln oOL oold o24
  have qf3 : uq F302 U V3 := (uq.refl F302 U).tr z3 rfl
  have hzv : True := trivial
  have hOb : (V3.2.2.1 129 4).1 ≤ 32768 := by rcases oOL with y | y | y <;> omega
  refine mw_go mu_g302 (k := 3) (f1 := (28, [(5, .inl (nI ou)), (4, .inl (0 : Int32)), (0, .inr (.inr (some 129))), (1, .inl nmk), (2, .inl tmk), (3, .inl (nI M))], [.inr (.inr (mu_r Q3 129 0))], Q3)) (C := [mu_is Q3 (some 129) 9]) rfl (show mu_is Q3 (some 129) 9 from (u3.1.1.is rfl)) ?_
  rw [(u3.1.1.r (p := 129) (j := 0) (q := 99) rfl)]
  refine mw_go mu_g302 (k := 1) (f1 := (31, [(5, .inl (nI ou)), (4, .inl (0 : Int32)), (0, .inr (.inr (some 129))), (1, .inl nmk), (2, .inl tmk), (3, .inl (nI M))], [.inr (.inr (mu_r Q3 99 1))], Q3)) (C := [mu_is Q3 (some 99) 13]) rfl (show mu_is Q3 (some 99) 13 from (u3.1.1.is rfl)) ?_
  rw [(u3.1.1.r (p := 99) (j := 1) (q := 100) rfl)]
  refine mw_go mu_g302 (k := 2) (f1 := (35, [(5, .inl (nI ou)), (4, .inl (0 : Int32)), (0, .inr (.inr (some 129))), (1, .inl nmk), (2, .inl tmk), (3, .inl (nI M))], [.inr (.inr (mu_r Q3 129 0)), .inr (.inr (some 100))], Q3)) (C := [mu_is Q3 (some 129) 9]) rfl (show mu_is Q3 (some 129) 9 from (u3.1.1.is rfl)) ?_
  rw [(u3.1.1.r (p := 129) (j := 0) (q := 99) rfl)]
  refine mw_go mu_g302 (k := 1) (f1 := (38, [(5, .inl (nI ou)), (4, .inl (0 : Int32)), (0, .inr (.inr (some 129))), (1, .inl nmk), (2, .inl tmk), (3, .inl (nI M))], [.inr (.inr (mu_r Q3 99 1)), .inr (.inr (some 100))], Q3)) (C := [mu_is Q3 (some 99) 13]) rfl (show mu_is Q3 (some 99) 13 from (u3.1.1.is rfl)) ?_
  rw [(u3.1.1.r (p := 99) (j := 1) (q := 100) rfl)]
  refine mw_go mu_g302 (k := 1) (f1 := (41, [(5, .inl (nI ou)), (4, .inl (0 : Int32)), (0, .inr (.inr (some 129))), (1, .inl nmk), (2, .inl tmk), (3, .inl (nI M))], [.inl (mu_i Q3 100 4), .inr (.inr (some 100))], Q3)) (C := [mu_is Q3 (some 100) 5]) rfl (show mu_is Q3 (some 100) 5 from (u3.1.1.is rfl)) ?_
  rw [(show mu_i Q3 100 4 = mk from (ud_i (U := V3) (m := m) (P := 100) (j := 4) d3 rfl).trans ((z3.i 100 4 rfl).trans hmk))]
  have hK1 : KNV m V3 Y P f od es := hK.q z3 rfl
  have hM1 := (show MCS V3 from ⟨by rw [(show (V3.1 22) = (U.1 22) from (z3.t 22 rfl))]; exact hM.1, by rw [(show (V3.2.2.1 100 3).1 = (U.2.2.1 100 3).1 from (z3.n 100 3 rfl))]; exact hM.2.1, by rw [(show (V3.2.2.1 100 8).1 = (U.2.2.1 100 8).1 from (z3.n 100 8 rfl))]; exact hM.2.2.1, by rw [(show (V3.2.2.1 100 12).1 = (U.2.2.1 100 12).1 from (z3.n 100 12 rfl))]; exact hM.2.2.2.1, by rw [(show (V3.2.2.1 100 13).1 = (U.2.2.1 100 13).1 from (z3.n 100 13 rfl))]; exact hM.2.2.2.2.1, by rw [(show (V3.2.2.1 100 15).1 = (U.2.2.1 100 15).1 from (z3.n 100 15 rfl))]; exact hM.2.2.2.2.2⟩)
  have hl1 : LDW V3 Y P f od a0 N0 i0 := hl.keep (show (V3.1 21) = (U.1 21) from (z3.t 21 rfl)) (show (V3.1 22) = (U.1 22) from (z3.t 22 rfl)) (show (V3.1 15) = (U.1 15) from (z3.t 15 rfl)) (show (V3.2.2.1 100 3) = (U.2.2.1 100 3) from (z3.a 100 3 rfl)) (show (V3.2.1 100 5) = (U.2.1 100 5) from (z3.i 100 5 rfl)) (show (V3.2.1 100 7) = (U.2.1 100 7) from (z3.i 100 7 rfl)) (show (V3.2.1 100 17) = (U.2.1 100 17) from (z3.i 100 17 rfl)) (show (V3.2.1 100 4) = (U.2.1 100 4) from (z3.i 100 4 rfl)) (show (V3.2.2.1 100 8) = (U.2.2.1 100 8) from (z3.a 100 8 rfl)) (show (V3.2.2.1 100 12).1 = (U.2.2.1 100 12).1 from (z3.n 100 12 rfl)) (show (V3.2.2.1 100 13).1 = (U.2.2.1 100 13).1 from (z3.n 100 13 rfl)) (show (V3.2.2.1 100 15).1 = (U.2.2.1 100 15).1 from (z3.n 100 15 rfl)) (show (V3.2.2.1 99 8) = (U.2.2.1 99 8) from (z3.a 99 8 rfl))
  refine mw_cI (fun _ => rfl) (show mu_is Q3 (some 100) 5 from (u3.1.1.is rfl)) (mc_rewindT (d := (d + 2)) (C := C) (T0 := T0) u3 d3 hK1 hM1 hl1 (show (V3.2.1 100 4) = mk from ((z3.i 100 4 rfl).trans hmk)) hT0 (by omega)) (fun x4 Q4 q4 => ?_)
  obtain ⟨W, ⟨w1, w2⟩, rfl, u4, r4, z4, hKr, hMr, hTR0⟩ := q4
  have ht4 : ur m C H Q4 := ht3.trans r4
  obtain ⟨V4, d4⟩ : ∃ V, ud m Q4 = V := ⟨_, rfl⟩
  rw [d4] at z4 hKr hMr hTR0
  have qf4 : uq F302 U V4 := qf3.tr z4 rfl
  obtain ⟨TN, hTN⟩ : ∃ TN, TN = (T0 + W - 1) / W := ⟨_, rfl⟩
  rw [← hTN]
  have hTNb : TN ≤ 268436480 := by rw [hTN]; exact Nat.le_trans (Nat.div_le_self _ _) (by omega)
  refine mw_go mu_g302 (k := 1) (f1 := (46, [(6, .inl (nI TN)), (5, .inl (nI ou)), (4, .inl (0 : Int32)), (0, .inr (.inr (some 129))), (1, .inl nmk), (2, .inl tmk), (3, .inl (nI M))], [], Q4)) (C := []) rfl trivial ?_
  refine mw_go mu_g302 (k := 7) (f1 := (57, [(8, .inl (0 : Int32)), (7, .inl (0 : Int32)), (6, .inl (nI TN)), (5, .inl (nI ou)), (4, .inl (0 : Int32)), (0, .inr (.inr (some 129))), (1, .inl nmk), (2, .inl tmk), (3, .inl (nI M))], [], (mu_si Q4 129 11 (0 : Int32)))) (C := [mu_is Q4 (some 129) 9]) rfl (show mu_is Q4 (some 129) 9 from (u4.1.1.is rfl)) ?_
  obtain ⟨u5, r5, d5⟩ : um m (mu_si Q4 129 11 (0 : Int32)) ∧ ur m C Q4 (mu_si Q4 129 11 (0 : Int32)) ∧ ud m (mu_si Q4 129 11 (0 : Int32)) = (upI V4 129 11 (0 : Int32)) := u4.sI (C := C) d4 rfl
  generalize (mu_si Q4 129 11 (0 : Int32)) = Q5 at u5 r5 d5 ⊢
  have qf5 : uq F302 U (upI V4 129 11 (0 : Int32)) := qf4.I rfl
  have ht5 : ur m C H Q5 := ht4.trans r5
  refine mw_go mu_g302 (k := 2) (f1 := (60, [(9, .inl (0 : Int32)), (8, .inl (0 : Int32)), (7, .inl (0 : Int32)), (6, .inl (nI TN)), (5, .inl (nI ou)), (4, .inl (0 : Int32)), (0, .inr (.inr (some 129))), (1, .inl nmk), (2, .inl tmk), (3, .inl (nI M))], [], Q5)) (C := []) rfl trivial ?_
  have hz0 : min (0 * W) T0 = 0 := by rw [Nat.zero_mul, Nat.zero_min]
  refine mw_frU (show ((60, [(9, .inl (0 : Int32)), (8, .inl (0 : Int32)), (7, .inl (0 : Int32)), (6, .inl (nI TN)), (5, .inl (nI ou)), (4, .inl (0 : Int32)), (0, .inr (.inr (some 129))), (1, .inl nmk), (2, .inl tmk), (3, .inl (nI M))], [], Q5) : mu_F) = (60, [(9, .inl (0 : Int32)), (8, .inl (nI (min (0 * W) T0 % M))), (7, .inl (0 : Int32)), (6, .inl (nI TN)), (5, .inl (nI (ou + min (0 * W) T0 / M))), (4, .inl (0 : Int32)), (0, .inr (.inr (some 129))), (1, .inl nmk), (2, .inl tmk), (3, .inl (nI M))], [], Q5) by rw [hz0, Nat.zero_div, Nat.zero_mod, Nat.add_zero]; try rfl) ?_
  show mu_W _ _ (60, [(9, .inl (nI 0)), (8, .inl (nI (min (0 * W) T0 % M))), (7, .inl (nI 0)), (6, .inl (nI TN)), (5, .inl (nI (ou + min (0 * W) T0 / M))), (4, .inl (0 : Int32)), (0, .inr (.inr (some 129))), (1, .inl nmk), (2, .inl tmk), (3, .inl (nI M))], [], Q5) _
  refine mw_sub (L' := [(9, .inl (nI 0)), (7, .inl (nI 0)), (5, .inl (nI (ou + min (0 * W) T0 / M))), (8, .inl (nI (min (0 * W) T0 % M))), (0, .inr (.inr (some 129))), (1, .inl nmk), (2, .inl tmk), (3, .inl (nI M)), (4, .inl (0 : Int32)), (6, .inl (nI TN))]) (by simp) ?_
  refine mw_down (α := Nat × Nat × mu_H) (fun zs => (60, [(9, .inl (nI zs.1)), (7, .inl (nI zs.2.1)), (5, .inl (nI (ou + min (zs.1 * W) T0 / M))), (8, .inl (nI (min (zs.1 * W) T0 % M))), (0, .inr (.inr (some 129))), (1, .inl nmk), (2, .inl tmk), (3, .inl (nI M)), (4, .inl (0 : Int32)), (6, .inl (nI TN))], [], zs.2.2)) (fun zs => TN - zs.1) (fun zs => um m zs.2.2 ∧ ur m C H zs.2.2 ∧ (uq F302a (upI V4 129 11 (0 : Int32)) (ud m zs.2.2)) ∧ (zs.1 ≤ TN) ∧ (KNV m (ud m zs.2.2) Y P f od es) ∧ (MCS (ud m zs.2.2)) ∧ (TRN (ud m zs.2.2) Y P f od a0 N0 i0 mk T0 W zs.1) ∧ (TBX V3 (ud m zs.2.2) N us S z p ((M + 63) / 64) ou (min (zs.1 * W) T0 / M) (fun c x => x < M ∧ trz Y U f mk od i0 a0 N0 (c * M + x) = 1)) ∧ (∃ n, (ud m zs.2.2).2.1 129 11 = nI n ∧ LSO (ud m zs.2.2) n (min (zs.1 * W) T0 % M) (fun x => TQ Y U f mk od i0 a0 N0 M (min (zs.1 * W) T0 / M) x = true)) ∧ (zs.2.1 ≤ 16384)) (fun zs hza iha => ?_) (0, 0, Q5) ⟨u5, ht5, (show uq F302a (upI V4 129 11 (0 : Int32)) (ud m Q5) from by rw [d5]; exact uq.refl _ _), (show 0 ≤ TN from (by omega)), (show KNV m (ud m Q5) Y P f od es from by rw [d5]; exact (hK.q qf5 rfl)), (show MCS (ud m Q5) from by rw [d5]; exact (show MCS (upI V4 129 11 (0 : Int32)) from ⟨by rw [(show ((upI V4 129 11 (0 : Int32)).1 22) = (V4.1 22) from rfl)]; exact hMr.1, by rw [(show ((upI V4 129 11 (0 : Int32)).2.2.1 100 3).1 = (V4.2.2.1 100 3).1 from rfl)]; exact hMr.2.1, by rw [(show ((upI V4 129 11 (0 : Int32)).2.2.1 100 8).1 = (V4.2.2.1 100 8).1 from rfl)]; exact hMr.2.2.1, by rw [(show ((upI V4 129 11 (0 : Int32)).2.2.1 100 12).1 = (V4.2.2.1 100 12).1 from rfl)]; exact hMr.2.2.2.1, by rw [(show ((upI V4 129 11 (0 : Int32)).2.2.1 100 13).1 = (V4.2.2.1 100 13).1 from rfl)]; exact hMr.2.2.2.2.1, by rw [(show ((upI V4 129 11 (0 : Int32)).2.2.1 100 15).1 = (V4.2.2.1 100 15).1 from rfl)]; exact hMr.2.2.2.2.2⟩)), (show TRN (ud m Q5) Y P f od a0 N0 i0 mk T0 W 0 from by rw [d5]; exact (TRN.i11 hTR0)), (show TBX V3 (ud m Q5) N us S z p ((M + 63) / 64) ou (min (0 * W) T0 / M) (fun c x => x < M ∧ trz Y U f mk od i0 a0 N0 (c * M + x) = 1) from by rw [d5]; exact (by rw [Nat.zero_mul, Nat.zero_min, Nat.zero_div]; exact TBX.init (hSO.eq (show ((upI V4 129 11 (0 : Int32)).2.1 113 1) = (U.2.1 113 1) from ((z4.i 113 1 rfl).trans (z3.i 113 1 rfl))) (show ((upI V4 129 11 (0 : Int32)).2.1 113 2) = (U.2.1 113 2) from ((z4.i 113 2 rfl).trans (z3.i 113 2 rfl))) (show ((upI V4 129 11 (0 : Int32)).2.1 113 5) = (U.2.1 113 5) from ((z4.i 113 5 rfl).trans (z3.i 113 5 rfl))) (show ((upI V4 129 11 (0 : Int32)).2.2.1 113 3) = (U.2.2.1 113 3) from ((z4.a 113 3 rfl).trans (z3.a 113 3 rfl))) (show ((upI V4 129 11 (0 : Int32)).2.2.1 113 4) = (U.2.2.1 113 4) from ((z4.a 113 4 rfl).trans (z3.a 113 4 rfl))) (congrFun ((z4.2.2.2.2.2 rfl).trans (z3.2.2.2.2.2 rfl)) 114)) (fun a c _ => congrFun (congrFun (z4.2.2.2.2.2 rfl) a) c) (fun j => congrFun (congrArg Prod.snd (show ((upI V4 129 11 (0 : Int32)).2.2.1 129 4) = (V3.2.2.1 129 4) from (z4.a 129 4 rfl))) j))), (show ∃ n, (ud m Q5).2.1 129 11 = nI n ∧ LSO (ud m Q5) n (min (0 * W) T0 % M) (fun x => TQ Y U f mk od i0 a0 N0 M (min (0 * W) T0 / M) x = true) from by rw [d5]; exact (by rw [Nat.zero_mul, Nat.zero_min, Nat.zero_div, Nat.zero_mod]; exact ⟨0, rfl, LSO.nil⟩)), (show 0 ≤ 16384 from (by omega))⟩
  obtain ⟨i, mt, Hsa⟩ := zs
  obtain ⟨ua, hta, da, hi, hKa, hMa, hTRa, hTBa, hLPa, hmt⟩ := hza
  have ua : um m Hsa := ua
  have hta : ur m C H Hsa := hta
  have zza : uq F302a (upI V4 129 11 (0 : Int32)) (ud m Hsa) := da
  have hi : i ≤ TN := hi
  have hKa : KNV m (ud m Hsa) Y P f od es := hKa
  have hMa : MCS (ud m Hsa) := hMa
  have hTRa : TRN (ud m Hsa) Y P f od a0 N0 i0 mk T0 W i := hTRa
  have hTBa : TBX V3 (ud m Hsa) N us S z p ((M + 63) / 64) ou (min (i * W) T0 / M) (fun c x => x < M ∧ trz Y U f mk od i0 a0 N0 (c * M + x) = 1) := hTBa
  have hLPa : ∃ n, (ud m Hsa).2.1 129 11 = nI n ∧ LSO (ud m Hsa) n (min (i * W) T0 % M) (fun x => TQ Y U f mk od i0 a0 N0 M (min (i * W) T0 / M) x = true) := hLPa
  have hmt : mt ≤ 16384 := hmt
  obtain ⟨Va, da⟩ : ∃ V, ud m Hsa = V := ⟨_, rfl⟩
  rw [da] at zza hKa hMa hTRa hTBa hLPa
  have qfa : uq F302 U Va := qf5.tr zza rfl
  show mu_W _ _ (60, [(9, .inl (nI i)), (7, .inl (nI mt)), (5, .inl (nI (ou + min (i * W) T0 / M))), (8, .inl (nI (min (i * W) T0 % M))), (0, .inr (.inr (some 129))), (1, .inl nmk), (2, .inl tmk), (3, .inl (nI M)), (4, .inl (0 : Int32)), (6, .inl (nI TN))], [], Hsa) _
  obtain ⟨tda, l11a, hLPa⟩ := hLPa
  refine mw_go mu_g302 (k := 2) (f1 := (64, [(9, .inl (nI i)), (7, .inl (nI mt)), (5, .inl (nI (ou + min (i * W) T0 / M))), (8, .inl (nI (min (i * W) T0 % M))), (0, .inr (.inr (some 129))), (1, .inl nmk), (2, .inl tmk), (3, .inl (nI M)), (4, .inl (0 : Int32)), (6, .inl (nI TN))], [.inl (nI TN), .inl (nI i)], Hsa)) (C := []) rfl trivial ?_
  refine mw_if (P := (nI i) < (nI TN)) (a := 67) (b := 193) (fun _ => rfl) trivial (fun h6 => ?_) (fun h6 => ?_)
  · -- 67: (nI i) < (nI TN)
    have nh6 : i < TN := (nI_ltI (by omega) (by omega)).mp (show nI i < nI TN from h6)
    have hiW := turns_lt w1 (by rw [← hTN]; exact nh6)
    have hA15 : Va.1 15 = U.1 15 := ((zza.t 15 rfl).trans ((z4.t 15 rfl).trans (z3.t 15 rfl)))
    have hA98 : Va.2.2.1 99 8 = U.2.2.1 99 8 := ((zza.a 99 8 rfl).trans ((z4.a 99 8 rfl).trans (z3.a 99 8 rfl)))
    refine mw_go mu_g302 (k := 2) (f1 := (71, [(9, .inl (nI i)), (7, .inl (nI mt)), (5, .inl (nI (ou + min (i * W) T0 / M))), (8, .inl (nI (min (i * W) T0 % M))), (0, .inr (.inr (some 129))), (1, .inl nmk), (2, .inl tmk), (3, .inl (nI M)), (4, .inl (0 : Int32)), (6, .inl (nI TN))], [.inr (.inr (mu_r Hsa 129 0))], Hsa)) (C := [mu_is Hsa (some 129) 9]) rfl (show mu_is Hsa (some 129) 9 from (ua.1.1.is rfl)) ?_
    rw [(ua.1.1.r (p := 129) (j := 0) (q := 99) rfl)]
    refine mw_go mu_g302 (k := 1) (f1 := (74, [(9, .inl (nI i)), (7, .inl (nI mt)), (5, .inl (nI (ou + min (i * W) T0 / M))), (8, .inl (nI (min (i * W) T0 % M))), (0, .inr (.inr (some 129))), (1, .inl nmk), (2, .inl tmk), (3, .inl (nI M)), (4, .inl (0 : Int32)), (6, .inl (nI TN))], [.inr (.inr (mu_r Hsa 99 1))], Hsa)) (C := [mu_is Hsa (some 99) 13]) rfl (show mu_is Hsa (some 99) 13 from (ua.1.1.is rfl)) ?_
    rw [(ua.1.1.r (p := 99) (j := 1) (q := 100) rfl)]
    refine mw_cV (fun _ => rfl) (show mu_is Hsa (some 100) 5 from (ua.1.1.is rfl)) (mc_runT (d := (d + 1)) (C := C) (Lk := [false]) ua da hKa hMa hTRa hiW hi0 hr0 (by decide) hs0 hal) (fun Q7 q7 => ?_)
    obtain ⟨u7, r7, z7, hKu, hMu, hTD, hRS⟩ := q7
    have ht7 : ur m C H Q7 := hta.trans r7
    obtain ⟨V7, d7⟩ : ∃ V, ud m Q7 = V := ⟨_, rfl⟩
    rw [d7] at z7 hKu hMu hTD hRS
    have qf7 : uq F302 U V7 := qfa.tr z7 rfl
    obtain ⟨ln, hln⟩ : ∃ ln, ln = min W (T0 - i * W) := ⟨_, rfl⟩
    have l18 : V7.2.1 100 18 = nI ln := by rw [hln]; exact hTD.i18
    rw [← hln] at hRS
    have hlb : 1 ≤ ln ∧ ln ≤ 1024 ∧ i * W + ln ≤ T0 := by omega
    refine mw_go mu_g302 (k := 2) (f1 := (81, [(9, .inl (nI i)), (7, .inl (nI mt)), (5, .inl (nI (ou + min (i * W) T0 / M))), (8, .inl (nI (min (i * W) T0 % M))), (0, .inr (.inr (some 129))), (1, .inl nmk), (2, .inl tmk), (3, .inl (nI M)), (4, .inl (0 : Int32)), (6, .inl (nI TN))], [.inr (.inr (mu_r Q7 129 0))], Q7)) (C := [mu_is Q7 (some 129) 9]) rfl (show mu_is Q7 (some 129) 9 from (u7.1.1.is rfl)) ?_
    rw [(u7.1.1.r (p := 129) (j := 0) (q := 99) rfl)]
    refine mw_go mu_g302 (k := 1) (f1 := (84, [(9, .inl (nI i)), (7, .inl (nI mt)), (5, .inl (nI (ou + min (i * W) T0 / M))), (8, .inl (nI (min (i * W) T0 % M))), (0, .inr (.inr (some 129))), (1, .inl nmk), (2, .inl tmk), (3, .inl (nI M)), (4, .inl (0 : Int32)), (6, .inl (nI TN))], [.inr (.inr (mu_r Q7 99 1))], Q7)) (C := [mu_is Q7 (some 99) 13]) rfl (show mu_is Q7 (some 99) 13 from (u7.1.1.is rfl)) ?_
    rw [(u7.1.1.r (p := 99) (j := 1) (q := 100) rfl)]
    refine mw_cA (fun _ => rfl) (show mu_is Q7 (some 100) 5 from (u7.1.1.is rfl)) (mc_results2 (d := (d + 3)) (C := C) u7 d7 hRS tp1) (fun x8 Q8 q8 => ?_)
    obtain ⟨rfl, u8, r8, z8, hres⟩ := q8
    have ht8 : ur m C H Q8 := ht7.trans r8
    obtain ⟨V8, d8⟩ : ∃ V, ud m Q8 = V := ⟨_, rfl⟩
    rw [d8] at z8 hres
    have qf8 : uq F302 U V8 := qf7.tr z8 rfl
    have hres2 : ∀ k, k < ln → (V8.2.2.1 100 9).2 k = nI (if TQ Y U f mk od i0 a0 N0 M ((i * W + k) / M) ((i * W + k) % M) = true then 1 else 0) := fun k hk => by rw [hres k hk, vlz_same (U := U) (V := Va) hA15 hA98, vlz_same (U := U) (V := Va) hA15 hA98]; exact TQ_val (trz_01 hK hr0 hs0 hal hst) rfl
    refine mw_go mu_g302 (k := 3) (f1 := (92, [(11, .inl (0 : Int32)), (10, .inr (.inr (some 107))), (9, .inl (nI i)), (7, .inl (nI mt)), (5, .inl (nI (ou + min (i * W) T0 / M))), (8, .inl (nI (min (i * W) T0 % M))), (0, .inr (.inr (some 129))), (1, .inl nmk), (2, .inl tmk), (3, .inl (nI M)), (4, .inl (0 : Int32)), (6, .inl (nI TN))], [], Q8)) (C := []) rfl trivial ?_
    rw [show min (i * W) T0 = i * W + 0 by omega]
    show mu_W _ _ (92, [(11, .inl (nI 0)), (10, .inr (.inr (some 107))), (9, .inl (nI i)), (7, .inl (nI mt)), (5, .inl (nI (ou + (i * W + 0) / M))), (8, .inl (nI ((i * W + 0) % M))), (0, .inr (.inr (some 129))), (1, .inl nmk), (2, .inl tmk), (3, .inl (nI M)), (4, .inl (0 : Int32)), (6, .inl (nI TN))], [], Q8) _
    refine mw_sub (L' := [(11, .inl (nI 0)), (7, .inl (nI mt)), (5, .inl (nI (ou + (i * W + 0) / M))), (8, .inl (nI ((i * W + 0) % M))), (0, .inr (.inr (some 129))), (1, .inl nmk), (2, .inl tmk), (3, .inl (nI M)), (4, .inl (0 : Int32)), (6, .inl (nI TN)), (9, .inl (nI i)), (10, .inr (.inr (some 107)))]) (by simp) ?_
    refine mw_down (α := Nat × Nat × mu_H) (fun zs => (92, [(11, .inl (nI zs.1)), (7, .inl (nI zs.2.1)), (5, .inl (nI (ou + (i * W + zs.1) / M))), (8, .inl (nI ((i * W + zs.1) % M))), (0, .inr (.inr (some 129))), (1, .inl nmk), (2, .inl tmk), (3, .inl (nI M)), (4, .inl (0 : Int32)), (6, .inl (nI TN)), (9, .inl (nI i)), (10, .inr (.inr (some 107)))], [], zs.2.2)) (fun zs => ln - zs.1) (fun zs => um m zs.2.2 ∧ ur m C H zs.2.2 ∧ (uq F302b V8 (ud m zs.2.2)) ∧ (zs.1 ≤ ln) ∧ (TBX V3 (ud m zs.2.2) N us S z p ((M + 63) / 64) ou ((i * W + zs.1) / M) (fun c x => x < M ∧ trz Y U f mk od i0 a0 N0 (c * M + x) = 1)) ∧ (∃ n, (ud m zs.2.2).2.1 129 11 = nI n ∧ LSO (ud m zs.2.2) n ((i * W + zs.1) % M) (fun x => TQ Y U f mk od i0 a0 N0 M ((i * W + zs.1) / M) x = true)) ∧ (zs.2.1 ≤ 16384)) (fun zs hzb ihb => ?_) (0, mt, Q8) ⟨u8, ht8, (show uq F302b V8 (ud m Q8) from by rw [d8]; exact uq.refl _ _), (show 0 ≤ ln from (by omega)), (show TBX V3 (ud m Q8) N us S z p ((M + 63) / 64) ou ((i * W + 0) / M) (fun c x => x < M ∧ trz Y U f mk od i0 a0 N0 (c * M + x) = 1) from by rw [d8]; exact (by rw [show i * W + 0 = min (i * W) T0 by omega]; exact hTBa.eq (show (V8.2.1 113 1) = (Va.2.1 113 1) from ((z8.i 113 1 rfl).trans (z7.i 113 1 rfl))) (show (V8.2.1 113 2) = (Va.2.1 113 2) from ((z8.i 113 2 rfl).trans (z7.i 113 2 rfl))) (show (V8.2.1 113 5) = (Va.2.1 113 5) from ((z8.i 113 5 rfl).trans (z7.i 113 5 rfl))) (show (V8.2.2.1 113 3) = (Va.2.2.1 113 3) from ((z8.a 113 3 rfl).trans (z7.a 113 3 rfl))) (show (V8.2.2.1 113 4) = (Va.2.2.1 113 4) from ((z8.a 113 4 rfl).trans (z7.a 113 4 rfl))) (show (V8.2.2.1 129 4) = (Va.2.2.1 129 4) from ((z8.a 129 4 rfl).trans (z7.a 129 4 rfl))) ((z8.2.2.2.2.2 rfl).trans (z7.2.2.2.2.2 rfl)))), (show ∃ n, (ud m Q8).2.1 129 11 = nI n ∧ LSO (ud m Q8) n ((i * W + 0) % M) (fun x => TQ Y U f mk od i0 a0 N0 M ((i * W + 0) / M) x = true) from by rw [d8]; exact (by rw [show i * W + 0 = min (i * W) T0 by omega]; exact ⟨tda, (show (V8.2.1 129 11) = nI tda from ((z8.i 129 11 rfl).trans ((z7.i 129 11 rfl).trans l11a))), LSO.eq hLPa (show (V8.2.2.1 129 10) = (Va.2.2.1 129 10) from ((z8.a 129 10 rfl).trans (z7.a 129 10 rfl)))⟩)), (show mt ≤ 16384 from (by omega))⟩
    obtain ⟨lane, mu, Hsb⟩ := zs
    obtain ⟨ub, htb, db, hlane, hTBb, hLPb, hmu⟩ := hzb
    have ub : um m Hsb := ub
    have htb : ur m C H Hsb := htb
    have zzb : uq F302b V8 (ud m Hsb) := db
    have hlane : lane ≤ ln := hlane
    have hTBb : TBX V3 (ud m Hsb) N us S z p ((M + 63) / 64) ou ((i * W + lane) / M) (fun c x => x < M ∧ trz Y U f mk od i0 a0 N0 (c * M + x) = 1) := hTBb
    have hLPb : ∃ n, (ud m Hsb).2.1 129 11 = nI n ∧ LSO (ud m Hsb) n ((i * W + lane) % M) (fun x => TQ Y U f mk od i0 a0 N0 M ((i * W + lane) / M) x = true) := hLPb
    have hmu : mu ≤ 16384 := hmu
    obtain ⟨Vb, db⟩ : ∃ V, ud m Hsb = V := ⟨_, rfl⟩
    rw [db] at zzb hTBb hLPb
    have qfb : uq F302 U Vb := qf8.tr zzb rfl
    show mu_W _ _ (92, [(11, .inl (nI lane)), (7, .inl (nI mu)), (5, .inl (nI (ou + (i * W + lane) / M))), (8, .inl (nI ((i * W + lane) % M))), (0, .inr (.inr (some 129))), (1, .inl nmk), (2, .inl tmk), (3, .inl (nI M)), (4, .inl (0 : Int32)), (6, .inl (nI TN)), (9, .inl (nI i)), (10, .inr (.inr (some 107)))], [], Hsb) _
    obtain ⟨tq, l11b, hLPb⟩ := hLPb
    have htq := hLPb.le
    refine mw_go mu_g302 (k := 3) (f1 := (98, [(11, .inl (nI lane)), (7, .inl (nI mu)), (5, .inl (nI (ou + (i * W + lane) / M))), (8, .inl (nI ((i * W + lane) % M))), (0, .inr (.inr (some 129))), (1, .inl nmk), (2, .inl tmk), (3, .inl (nI M)), (4, .inl (0 : Int32)), (6, .inl (nI TN)), (9, .inl (nI i)), (10, .inr (.inr (some 107)))], [.inr (.inr (mu_r Hsb 129 0)), .inl (nI lane)], Hsb)) (C := [mu_is Hsb (some 129) 9]) rfl (show mu_is Hsb (some 129) 9 from (ub.1.1.is rfl)) ?_
    rw [(ub.1.1.r (p := 129) (j := 0) (q := 99) rfl)]
    refine mw_go mu_g302 (k := 1) (f1 := (101, [(11, .inl (nI lane)), (7, .inl (nI mu)), (5, .inl (nI (ou + (i * W + lane) / M))), (8, .inl (nI ((i * W + lane) % M))), (0, .inr (.inr (some 129))), (1, .inl nmk), (2, .inl tmk), (3, .inl (nI M)), (4, .inl (0 : Int32)), (6, .inl (nI TN)), (9, .inl (nI i)), (10, .inr (.inr (some 107)))], [.inr (.inr (mu_r Hsb 99 1)), .inl (nI lane)], Hsb)) (C := [mu_is Hsb (some 99) 13]) rfl (show mu_is Hsb (some 99) 13 from (ub.1.1.is rfl)) ?_
    rw [(ub.1.1.r (p := 99) (j := 1) (q := 100) rfl)]
    refine mw_go mu_g302 (k := 1) (f1 := (104, [(11, .inl (nI lane)), (7, .inl (nI mu)), (5, .inl (nI (ou + (i * W + lane) / M))), (8, .inl (nI ((i * W + lane) % M))), (0, .inr (.inr (some 129))), (1, .inl nmk), (2, .inl tmk), (3, .inl (nI M)), (4, .inl (0 : Int32)), (6, .inl (nI TN)), (9, .inl (nI i)), (10, .inr (.inr (some 107)))], [.inl (mu_i Hsb 100 18), .inl (nI lane)], Hsb)) (C := [mu_is Hsb (some 100) 5]) rfl (show mu_is Hsb (some 100) 5 from (ub.1.1.is rfl)) ?_
    rw [(show mu_i Hsb 100 18 = (nI ln) from (ud_i (U := Vb) (m := m) (P := 100) (j := 18) db rfl).trans ((zzb.i 100 18 rfl).trans ((z8.i 100 18 rfl).trans l18)))]
    refine mw_if (P := (nI lane) < (nI ln)) (a := 107) (b := 177) (fun _ => rfl) trivial (fun h9 => ?_) (fun h9 => ?_)
    · -- 107: (nI lane) < (nI ln)
      have nh9 : lane < ln := (nI_ltI (by omega) (by omega)).mp (show nI lane < nI ln from h9)
      have hnT : i * W + lane < T0 := by omega
      have hxM := Nat.mod_lt (i * W + lane) hM0
      have hqn0 : (i * W + lane) / M < pm nmk f P := by rw [Nat.div_lt_iff_lt_mul (by omega), Nat.mul_comm (pm nmk f P) M, ← hTw]; exact hnT
      refine mw_go mu_g302 (k := 2) (f1 := (111, [(11, .inl (nI lane)), (7, .inl (nI mu)), (5, .inl (nI (ou + (i * W + lane) / M))), (8, .inl (nI ((i * W + lane) % M))), (0, .inr (.inr (some 129))), (1, .inl nmk), (2, .inl tmk), (3, .inl (nI M)), (4, .inl (0 : Int32)), (6, .inl (nI TN)), (9, .inl (nI i)), (10, .inr (.inr (some 107)))], [.inr (.inr (mu_r Hsb 129 10))], Hsb)) (C := [mu_is Hsb (some 129) 9]) rfl (show mu_is Hsb (some 129) 9 from (ub.1.1.is rfl)) ?_
      rw [(show mu_r Hsb 129 10 = (U.2.2.2.1 129 10) from (ud_q (U := Vb) (m := m) (P := 129) (j := 10) db rfl).trans ((zzb.r 129 10 rfl).trans ((z8.r 129 10 rfl).trans ((z7.r 129 10 rfl).trans ((zza.r 129 10 rfl).trans ((z4.r 129 10 rfl).trans (z3.r 129 10 rfl)))))))]
      refine mw_go mu_g302 (k := 2) (f1 := (115, [(11, .inl (nI lane)), (7, .inl (nI mu)), (5, .inl (nI (ou + (i * W + lane) / M))), (8, .inl (nI ((i * W + lane) % M))), (0, .inr (.inr (some 129))), (1, .inl nmk), (2, .inl tmk), (3, .inl (nI M)), (4, .inl (0 : Int32)), (6, .inl (nI TN)), (9, .inl (nI i)), (10, .inr (.inr (some 107)))], [.inl (mu_i Hsb 129 11), .inr (.inr (U.2.2.2.1 129 10))], Hsb)) (C := [mu_is Hsb (some 129) 9]) rfl (show mu_is Hsb (some 129) 9 from (ub.1.1.is rfl)) ?_
      rw [(show mu_i Hsb 129 11 = (nI tq) from (ud_i (U := Vb) (m := m) (P := 129) (j := 11) db rfl).trans l11b)]
      refine mw_go mu_g302 (k := 2) (f1 := (118, [(11, .inl (nI lane)), (7, .inl (nI mu)), (5, .inl (nI (ou + (i * W + lane) / M))), (8, .inl (nI ((i * W + lane) % M))), (0, .inr (.inr (some 129))), (1, .inl nmk), (2, .inl tmk), (3, .inl (nI M)), (4, .inl (0 : Int32)), (6, .inl (nI TN)), (9, .inl (nI i)), (10, .inr (.inr (some 107)))], [], (mu_si Hsb (mu_p (U.2.2.2.1 129 10)) (nI tq).toNatClampNeg (nI ((i * W + lane) % M))))) (C := [mu_is Hsb (U.2.2.2.1 129 10) 100, vp_in (nI tq) (mu_n Hsb (mu_p (U.2.2.2.1 129 10)))]) rfl (show (mu_is Hsb (U.2.2.2.1 129 10) 100) ∧ (vp_in (nI tq) (mu_n Hsb (mu_p (U.2.2.2.1 129 10)))) from ⟨(ub.iA db rfl rfl (show Vb.2.2.2.1 129 10 = (U.2.2.2.1 129 10) from ((zzb.r 129 10 rfl).trans ((z8.r 129 10 rfl).trans ((z7.r 129 10 rfl).trans ((zza.r 129 10 rfl).trans ((z4.r 129 10 rfl).trans (z3.r 129 10 rfl)))))))), (ub.vA (i := tq) db rfl rfl (show Vb.2.2.2.1 129 10 = (U.2.2.2.1 129 10) from ((zzb.r 129 10 rfl).trans ((z8.r 129 10 rfl).trans ((z7.r 129 10 rfl).trans ((zza.r 129 10 rfl).trans ((z4.r 129 10 rfl).trans (z3.r 129 10 rfl))))))) (show (Vb.2.2.1 129 10).1 = (U.2.2.1 129 10).1 from ((zzb.n 129 10 rfl).trans ((z8.n 129 10 rfl).trans ((z7.n 129 10 rfl).trans ((zza.n 129 10 rfl).trans ((z4.n 129 10 rfl).trans (z3.n 129 10 rfl))))))) (by omega) (by omega))⟩) ?_
      rw [(show (nI tq).toNatClampNeg = tq from nI_clamp (by omega))]
      obtain ⟨u10, r10, d10⟩ : um m (mu_si Hsb (mu_p (U.2.2.2.1 129 10)) tq (nI ((i * W + lane) % M))) ∧ ur m C Hsb (mu_si Hsb (mu_p (U.2.2.2.1 129 10)) tq (nI ((i * W + lane) % M))) ∧ ud m (mu_si Hsb (mu_p (U.2.2.2.1 129 10)) tq (nI ((i * W + lane) % M))) = (upA Vb 129 10 tq (nI ((i * W + lane) % M))) := ub.sA (C := C) db rfl rfl (show Vb.2.2.2.1 129 10 = (U.2.2.2.1 129 10) from ((zzb.r 129 10 rfl).trans ((z8.r 129 10 rfl).trans ((z7.r 129 10 rfl).trans ((zza.r 129 10 rfl).trans ((z4.r 129 10 rfl).trans (z3.r 129 10 rfl)))))))
      generalize (mu_si Hsb (mu_p (U.2.2.2.1 129 10)) tq (nI ((i * W + lane) % M))) = Q10 at u10 r10 d10 ⊢
      have qf10 : uq F302 U (upA Vb 129 10 tq (nI ((i * W + lane) % M))) := qfb.A rfl
      have ht10 : ur m C H Q10 := htb.trans r10
      refine mw_go mu_g302 (k := 3) (f1 := (123, [(11, .inl (nI lane)), (7, .inl (nI mu)), (5, .inl (nI (ou + (i * W + lane) / M))), (8, .inl (nI ((i * W + lane) % M))), (0, .inr (.inr (some 129))), (1, .inl nmk), (2, .inl tmk), (3, .inl (nI M)), (4, .inl (0 : Int32)), (6, .inl (nI TN)), (9, .inl (nI i)), (10, .inr (.inr (some 107)))], [.inl (mu_i Q10 129 11), .inr (.inr (some 129))], Q10)) (C := [mu_is Q10 (some 129) 9]) rfl (show mu_is Q10 (some 129) 9 from (u10.1.1.is rfl)) ?_
      rw [(show mu_i Q10 129 11 = (nI tq) from (ud_i (U := (upA Vb 129 10 tq (nI ((i * W + lane) % M)))) (m := m) (P := 129) (j := 11) d10 rfl).trans l11b)]
      refine mw_go mu_g302 (k := 3) (f1 := (128, [(11, .inl (nI lane)), (7, .inl (nI mu)), (5, .inl (nI (ou + (i * W + lane) / M))), (8, .inl (nI ((i * W + lane) % M))), (0, .inr (.inr (some 129))), (1, .inl nmk), (2, .inl tmk), (3, .inl (nI M)), (4, .inl (0 : Int32)), (6, .inl (nI TN)), (9, .inl (nI i)), (10, .inr (.inr (some 107)))], [.inl (mu_i Q10 107 (nI lane).toNatClampNeg), .inl (nI tq), .inr (.inr (some 129))], Q10)) (C := [mu_isr Q10 (some 107) 100, vp_in (nI lane) (mu_n Q10 107)]) rfl (show (mu_isr Q10 (some 107) 100) ∧ (vp_in (nI lane) (mu_n Q10 107)) from ⟨((u10.iA d10 rfl rfl ((ud_q (m := m) (P := 100) (j := 9) d10 rfl).symm.trans (u10.1.1.r (p := 100) (j := 9) (q := 107) rfl)))).r, (by rw [show mu_n Q10 107 = 1024 from (u10.1.1.a (p := 107) (x := (100, 1024)) rfl).2]; exact vp_in_nI (n := lane) (by omega) (by decide))⟩) ?_
      rw [(show (mu_i Q10 107 (nI lane).toNatClampNeg) = (nI (if TQ Y U f mk od i0 a0 N0 M ((i * W + lane) / M) ((i * W + lane) % M) = true then 1 else 0)) from ((congrArg (mu_i Q10 107) (show (nI lane).toNatClampNeg = lane from nI_clamp (by omega))).trans (u10.gA d10 rfl rfl ((ud_q (m := m) (P := 100) (j := 9) d10 rfl).symm.trans (u10.1.1.r (p := 100) (j := 9) (q := 107) rfl)))).trans ((congrArg (fun z => z.2 lane) (show (upA Vb 129 10 tq (nI ((i * W + lane) % M))).2.2.1 100 9 = (V8.2.2.1 100 9) from (zzb.a 100 9 rfl))).trans (hres2 lane (by omega))))]
      refine mw_go mu_g302 (k := 1) (f1 := (129, [(11, .inl (nI lane)), (7, .inl (nI mu)), (5, .inl (nI (ou + (i * W + lane) / M))), (8, .inl (nI ((i * W + lane) % M))), (0, .inr (.inr (some 129))), (1, .inl nmk), (2, .inl tmk), (3, .inl (nI M)), (4, .inl (0 : Int32)), (6, .inl (nI TN)), (9, .inl (nI i)), (10, .inr (.inr (some 107)))], [.inl ((nI tq) + (nI (if TQ Y U f mk od i0 a0 N0 M ((i * W + lane) / M) ((i * W + lane) % M) = true then 1 else 0))), .inr (.inr (some 129))], Q10)) (C := []) rfl trivial ?_
      rw [(show ((nI tq) + (nI (if TQ Y U f mk od i0 a0 N0 M ((i * W + lane) / M) ((i * W + lane) % M) = true then 1 else 0))) = (nI (tq + (if TQ Y U f mk od i0 a0 N0 M ((i * W + lane) / M) ((i * W + lane) % M) = true then 1 else 0))) from (nI_add tq (if TQ Y U f mk od i0 a0 N0 M ((i * W + lane) / M) ((i * W + lane) % M) = true then 1 else 0)))]
      refine mw_go mu_g302 (k := 1) (f1 := (132, [(11, .inl (nI lane)), (7, .inl (nI mu)), (5, .inl (nI (ou + (i * W + lane) / M))), (8, .inl (nI ((i * W + lane) % M))), (0, .inr (.inr (some 129))), (1, .inl nmk), (2, .inl tmk), (3, .inl (nI M)), (4, .inl (0 : Int32)), (6, .inl (nI TN)), (9, .inl (nI i)), (10, .inr (.inr (some 107)))], [], (mu_si Q10 129 11 (nI (tq + (if TQ Y U f mk od i0 a0 N0 M ((i * W + lane) / M) ((i * W + lane) % M) = true then 1 else 0)))))) (C := [mu_is Q10 (some 129) 9]) rfl (show mu_is Q10 (some 129) 9 from (u10.1.1.is rfl)) ?_
      obtain ⟨u11, r11, d11⟩ : um m (mu_si Q10 129 11 (nI (tq + (if TQ Y U f mk od i0 a0 N0 M ((i * W + lane) / M) ((i * W + lane) % M) = true then 1 else 0)))) ∧ ur m C Q10 (mu_si Q10 129 11 (nI (tq + (if TQ Y U f mk od i0 a0 N0 M ((i * W + lane) / M) ((i * W + lane) % M) = true then 1 else 0)))) ∧ ud m (mu_si Q10 129 11 (nI (tq + (if TQ Y U f mk od i0 a0 N0 M ((i * W + lane) / M) ((i * W + lane) % M) = true then 1 else 0)))) = (upI (upA Vb 129 10 tq (nI ((i * W + lane) % M))) 129 11 (nI (tq + (if TQ Y U f mk od i0 a0 N0 M ((i * W + lane) / M) ((i * W + lane) % M) = true then 1 else 0)))) := u10.sI (C := C) d10 rfl
      generalize (mu_si Q10 129 11 (nI (tq + (if TQ Y U f mk od i0 a0 N0 M ((i * W + lane) / M) ((i * W + lane) % M) = true then 1 else 0)))) = Q11 at u11 r11 d11 ⊢
      have qf11 : uq F302 U (upI (upA Vb 129 10 tq (nI ((i * W + lane) % M))) 129 11 (nI (tq + (if TQ Y U f mk od i0 a0 N0 M ((i * W + lane) / M) ((i * W + lane) % M) = true then 1 else 0)))) := qf10.I rfl
      have ht11 : ur m C H Q11 := ht10.trans r11
      have hLP1 : LSO (upI (upA Vb 129 10 tq (nI ((i * W + lane) % M))) 129 11 (nI (tq + (if TQ Y U f mk od i0 a0 N0 M ((i * W + lane) / M) ((i * W + lane) % M) = true then 1 else 0)))) (tq + if TQ Y U f mk od i0 a0 N0 M ((i * W + lane) / M) ((i * W + lane) % M) = true then 1 else 0) ((i * W + lane) % M + 1) (fun x => TQ Y U f mk od i0 a0 N0 M ((i * W + lane) / M) x = true) := LSO.eq (U := upA Vb 129 10 tq (nI ((i * W + lane) % M))) (LSO.bool (qq := TQ Y U f mk od i0 a0 N0 M ((i * W + lane) / M)) hLPb) rfl
      refine mw_go mu_g302 (k := 1) (f1 := (135, [(8, .inl ((nI ((i * W + lane) % M)) + 1)), (11, .inl (nI lane)), (7, .inl (nI mu)), (5, .inl (nI (ou + (i * W + lane) / M))), (0, .inr (.inr (some 129))), (1, .inl nmk), (2, .inl tmk), (3, .inl (nI M)), (4, .inl (0 : Int32)), (6, .inl (nI TN)), (9, .inl (nI i)), (10, .inr (.inr (some 107)))], [], Q11)) (C := []) rfl trivial ?_
      rw [(show ((nI ((i * W + lane) % M)) + 1) = (nI (((i * W + lane) % M) + 1)) from (nI_add ((i * W + lane) % M) 1))]
      refine mw_go mu_g302 (k := 2) (f1 := (138, [(8, .inl (nI (((i * W + lane) % M) + 1))), (11, .inl (nI lane)), (7, .inl (nI mu)), (5, .inl (nI (ou + (i * W + lane) / M))), (0, .inr (.inr (some 129))), (1, .inl nmk), (2, .inl tmk), (3, .inl (nI M)), (4, .inl (0 : Int32)), (6, .inl (nI TN)), (9, .inl (nI i)), (10, .inr (.inr (some 107)))], [.inl (nI M), .inl (nI (((i * W + lane) % M) + 1))], Q11)) (C := []) rfl trivial ?_
      refine mw_if (P := (nI (((i * W + lane) % M) + 1)) = (nI M)) (a := 141) (b := 171) (fun _ => rfl) trivial (fun h12 => ?_) (fun h12 => ?_)
      · -- 141: (nI (((i * W + lane) % M) + 1)) = (nI M)
        have nh12 : (((i * W + lane) % M) + 1) = M := (nI_eq (by omega) (by omega)).mp (show nI (((i * W + lane) % M) + 1) = nI M from h12)
        have nhM : (i * W + lane) % M + 1 = M := nh12
        obtain ⟨hq1, hq2⟩ := dm_last hM0 nhM
        rw [Nat.add_assoc] at hq1 hq2
        refine mw_go mu_g302 (k := 3) (f1 := (146, [(8, .inl (nI (((i * W + lane) % M) + 1))), (11, .inl (nI lane)), (7, .inl (nI mu)), (5, .inl (nI (ou + (i * W + lane) / M))), (0, .inr (.inr (some 129))), (1, .inl nmk), (2, .inl tmk), (3, .inl (nI M)), (4, .inl (0 : Int32)), (6, .inl (nI TN)), (9, .inl (nI i)), (10, .inr (.inr (some 107)))], [.inl (0 : Int32), .inl (nI (ou + (i * W + lane) / M)), .inr (.inr (some 129))], Q11)) (C := []) rfl trivial ?_
        obtain ⟨hTp, hTo, N1, us1, S1, z1, p1, oid, hSk, hNb, hNS, hUb, hcl⟩ := hTBb
        have hSv : SOK (upI (upA Vb 129 10 tq (nI ((i * W + lane) % M))) 129 11 (nI (tq + (if TQ Y U f mk od i0 a0 N0 M ((i * W + lane) / M) ((i * W + lane) % M) = true then 1 else 0)))) N1 us1 S1 z1 p1 := hSk.eq (show ((upI (upA Vb 129 10 tq (nI ((i * W + lane) % M))) 129 11 (nI (tq + (if TQ Y U f mk od i0 a0 N0 M ((i * W + lane) / M) ((i * W + lane) % M) = true then 1 else 0)))).2.1 113 1) = (Vb.2.1 113 1) from rfl) (show ((upI (upA Vb 129 10 tq (nI ((i * W + lane) % M))) 129 11 (nI (tq + (if TQ Y U f mk od i0 a0 N0 M ((i * W + lane) / M) ((i * W + lane) % M) = true then 1 else 0)))).2.1 113 2) = (Vb.2.1 113 2) from rfl) (show ((upI (upA Vb 129 10 tq (nI ((i * W + lane) % M))) 129 11 (nI (tq + (if TQ Y U f mk od i0 a0 N0 M ((i * W + lane) / M) ((i * W + lane) % M) = true then 1 else 0)))).2.1 113 5) = (Vb.2.1 113 5) from rfl) (show ((upI (upA Vb 129 10 tq (nI ((i * W + lane) % M))) 129 11 (nI (tq + (if TQ Y U f mk od i0 a0 N0 M ((i * W + lane) / M) ((i * W + lane) % M) = true then 1 else 0)))).2.2.1 113 3) = (Vb.2.2.1 113 3) from rfl) (show ((upI (upA Vb 129 10 tq (nI ((i * W + lane) % M))) 129 11 (nI (tq + (if TQ Y U f mk od i0 a0 N0 M ((i * W + lane) / M) ((i * W + lane) % M) = true then 1 else 0)))).2.2.1 113 4) = (Vb.2.2.1 113 4) from rfl) (congrFun rfl 114)
        have hn10 : ((upI (upA Vb 129 10 tq (nI ((i * W + lane) % M))) 129 11 (nI (tq + (if TQ Y U f mk od i0 a0 N0 M ((i * W + lane) / M) ((i * W + lane) % M) = true then 1 else 0)))).2.2.1 129 10).1 = (U.2.2.1 129 10).1 := ((zzb.n 129 10 rfl).trans ((z8.n 129 10 rfl).trans ((z7.n 129 10 rfl).trans ((zza.n 129 10 rfl).trans ((z4.n 129 10 rfl).trans (z3.n 129 10 rfl))))))
        have hn4 : ((upI (upA Vb 129 10 tq (nI ((i * W + lane) % M))) 129 11 (nI (tq + (if TQ Y U f mk od i0 a0 N0 M ((i * W + lane) / M) ((i * W + lane) % M) = true then 1 else 0)))).2.2.1 129 4).1 = (V3.2.2.1 129 4).1 := ((zzb.n 129 4 rfl).trans ((z8.n 129 4 rfl).trans ((z7.n 129 4 rfl).trans ((zza.n 129 4 rfl).trans (z4.n 129 4 rfl)))))
        have hqn : (i * W + lane) / M < pm nmk f P := by rw [Nat.div_lt_iff_lt_mul (by omega), Nat.mul_comm (pm nmk f P) M, ← hTw]; exact hnT
        have hcost : (i * W + lane) / M * (((M + 63) / 64) + 1) ≤ pm nmk f P * (((M + 63) / 64) + 1) := Nat.mul_le_mul_right _ (by omega)
        have hub1 := hSk.1.2.1
        obtain ⟨nn, hnn⟩ : ∃ nn, nn = (tq + if TQ Y U f mk od i0 a0 N0 M ((i * W + lane) / M) ((i * W + lane) % M) = true then 1 else 0) := ⟨_, rfl⟩
        have l11 : ((upI (upA Vb 129 10 tq (nI ((i * W + lane) % M))) 129 11 (nI (tq + (if TQ Y U f mk od i0 a0 N0 M ((i * W + lane) / M) ((i * W + lane) % M) = true then 1 else 0)))).2.1 129 11) = nI nn := by rw [hnn]; exact rfl
        have hnM : nn ≤ M := by rw [hnn]; exact Nat.le_trans hLP1.le (Nat.le_of_eq nhM)
        obtain ⟨ls, hls, hlr, hlm⟩ := hLP1
        rw [← hnn] at hls hlr hlm
        have hlt : ∀ i, i < nn → ls i < M := fun i hi => by have y := ((hlm (ls i)).mp (lmz_in hi)).1; omega
        have hlb2 : ∀ i, i < nn → ls i < 16384 := fun i hi => by have y := hlt i hi; omega
        have hlf : ∀ x, lmz ls nn x = true ↔ x < M ∧ trz Y U f mk od i0 a0 N0 ((i * W + lane) / M * M + x) = 1 := fun x => by rw [hlm x, nhM]; exact and_congr_right (fun _ => decide_eq_true_iff)
        refine mw_cV (fun _ => rfl) (show mu_is Q11 (some 129) 9 from (u11.1.1.is rfl)) (rl_write0 (d := (d + 2)) (C := C) (n := nn) (ls := ls) (c := ou + (i * W + lane) / M) u11 d11 l11 hls (by rw [hn10]; omega) (by rw [hn10]; omega) hlb2 hlr hSv (by omega) (by rw [hn4]; omega) (by rw [hn4]; omega)) (fun Q13 q13 => ?_)
        obtain ⟨u13, r13, z13, id, lw, gg, W2, W3, hqw, hw11, hgg, hgr, hgm, hAD, hdw⟩ := q13
        have ht13 : ur m C H Q13 := ht11.trans r13
        obtain ⟨V13, d13⟩ : ∃ V, ud m Q13 = V := ⟨_, rfl⟩
        rw [d13] at z13 hdw
        have qf13 : uq F302 U V13 := qf11.tr z13 rfl
        have hlw : V13.2.1 129 11 = nI lw := by rw [hdw]; exact (show W3.2.1 129 11 = W2.2.1 129 11 from hAD.1.i 129 11 rfl).trans hw11
        have hglt : ∀ j, j < lw → gg j < M := fun j hj => by obtain ⟨q, q1, q2⟩ := (lmz_iff nn).mp ((hgm (gg j)).mp (lmz_in hj)).1; rw [← q2]; exact hlt q q1
        have hgn : lw ≤ nn := by exact sub_le hgr hlr (fun j hj => (lmz_iff nn).mp ((hgm (gg j)).mp (lmz_in hj)).1)
        refine mw_go mu_g302 (k := 3) (f1 := (155, [(8, .inl (nI (((i * W + lane) % M) + 1))), (11, .inl (nI lane)), (7, .inl (nI mu)), (5, .inl (nI (ou + (i * W + lane) / M))), (0, .inr (.inr (some 129))), (1, .inl nmk), (2, .inl tmk), (3, .inl (nI M)), (4, .inl (0 : Int32)), (6, .inl (nI TN)), (9, .inl (nI i)), (10, .inr (.inr (some 107)))], [.inl (mu_i Q13 129 11), .inl (nI mu)], Q13)) (C := [mu_is Q13 (some 129) 9]) rfl (show mu_is Q13 (some 129) 9 from (u13.1.1.is rfl)) ?_
        rw [(show mu_i Q13 129 11 = (nI lw) from (ud_i (U := V13) (m := m) (P := 129) (j := 11) d13 rfl).trans hlw)]
        refine mw_cIe (fun _ => rfl) trivial (mu_max_ok (d := (d + 6)) (nI mu) (nI lw)) ?_
        rw [show (mu_max (nI mu) (nI lw)) = nI (max mu lw) from mu_max_n (a := mu) (b := lw) (by omega) (by omega)]
        refine mw_go mu_g302 (k := 2) (f1 := (163, [(5, .inl ((nI (ou + (i * W + lane) / M)) + 1)), (7, .inl (nI (max mu lw))), (8, .inl (nI (((i * W + lane) % M) + 1))), (11, .inl (nI lane)), (0, .inr (.inr (some 129))), (1, .inl nmk), (2, .inl tmk), (3, .inl (nI M)), (4, .inl (0 : Int32)), (6, .inl (nI TN)), (9, .inl (nI i)), (10, .inr (.inr (some 107)))], [], Q13)) (C := []) rfl trivial ?_
        rw [(show ((nI (ou + (i * W + lane) / M)) + 1) = (nI ((ou + (i * W + lane) / M) + 1)) from (nI_add (ou + (i * W + lane) / M) 1))]
        refine mw_go mu_g302 (k := 3) (f1 := (168, [(5, .inl (nI ((ou + (i * W + lane) / M) + 1))), (7, .inl (nI (max mu lw))), (8, .inl (nI (((i * W + lane) % M) + 1))), (11, .inl (nI lane)), (0, .inr (.inr (some 129))), (1, .inl nmk), (2, .inl tmk), (3, .inl (nI M)), (4, .inl (0 : Int32)), (6, .inl (nI TN)), (9, .inl (nI i)), (10, .inr (.inr (some 107)))], [], (mu_si Q13 129 11 (0 : Int32)))) (C := [mu_is Q13 (some 129) 9]) rfl (show mu_is Q13 (some 129) 9 from (u13.1.1.is rfl)) ?_
        obtain ⟨u15, r15, d15⟩ : um m (mu_si Q13 129 11 (0 : Int32)) ∧ ur m C Q13 (mu_si Q13 129 11 (0 : Int32)) ∧ ud m (mu_si Q13 129 11 (0 : Int32)) = (upI V13 129 11 (0 : Int32)) := u13.sI (C := C) d13 rfl
        generalize (mu_si Q13 129 11 (0 : Int32)) = Q15 at u15 r15 d15 ⊢
        have qf15 : uq F302 U (upI V13 129 11 (0 : Int32)) := qf13.I rfl
        have ht15 : ur m C H Q15 := ht13.trans r15
        refine mw_go mu_g302 (k := 2) (f1 := (171, [(8, .inl (0 : Int32)), (5, .inl (nI ((ou + (i * W + lane) / M) + 1))), (7, .inl (nI (max mu lw))), (11, .inl (nI lane)), (0, .inr (.inr (some 129))), (1, .inl nmk), (2, .inl tmk), (3, .inl (nI M)), (4, .inl (0 : Int32)), (6, .inl (nI TN)), (9, .inl (nI i)), (10, .inr (.inr (some 107)))], [], Q15)) (C := []) rfl trivial ?_
        refine mw_go mu_g302 (k := 1) (f1 := (174, [(11, .inl ((nI lane) + 1)), (8, .inl (0 : Int32)), (5, .inl (nI ((ou + (i * W + lane) / M) + 1))), (7, .inl (nI (max mu lw))), (0, .inr (.inr (some 129))), (1, .inl nmk), (2, .inl tmk), (3, .inl (nI M)), (4, .inl (0 : Int32)), (6, .inl (nI TN)), (9, .inl (nI i)), (10, .inr (.inr (some 107)))], [], Q15)) (C := []) rfl trivial ?_
        rw [(show ((nI lane) + 1) = (nI (lane + 1)) from (nI_add lane 1))]
        refine mw_go mu_g302 (k := 1) (f1 := (92, [(11, .inl (nI (lane + 1))), (8, .inl (0 : Int32)), (5, .inl (nI ((ou + (i * W + lane) / M) + 1))), (7, .inl (nI (max mu lw))), (0, .inr (.inr (some 129))), (1, .inl nmk), (2, .inl tmk), (3, .inl (nI M)), (4, .inl (0 : Int32)), (6, .inl (nI TN)), (9, .inl (nI i)), (10, .inr (.inr (some 107)))], [], Q15)) (C := []) rfl trivial ?_
        refine mw_frU (show ((92, [(11, .inl (nI (lane + 1))), (8, .inl (0 : Int32)), (5, .inl (nI ((ou + (i * W + lane) / M) + 1))), (7, .inl (nI (max mu lw))), (0, .inr (.inr (some 129))), (1, .inl nmk), (2, .inl tmk), (3, .inl (nI M)), (4, .inl (0 : Int32)), (6, .inl (nI TN)), (9, .inl (nI i)), (10, .inr (.inr (some 107)))], [], Q15) : mu_F) = (92, [(11, .inl (nI (lane + 1))), (8, .inl (nI ((i * W + (lane + 1)) % M))), (5, .inl (nI (ou + (i * W + (lane + 1)) / M))), (7, .inl (nI (max mu lw))), (0, .inr (.inr (some 129))), (1, .inl nmk), (2, .inl tmk), (3, .inl (nI M)), (4, .inl (0 : Int32)), (6, .inl (nI TN)), (9, .inl (nI i)), (10, .inr (.inr (some 107)))], [], Q15) by rw [hq1, hq2]; try rfl) ?_
        exact mw_sub (by simp) (ihb (lane + 1, max mu lw, Q15) ⟨u15, ht15, (show uq F302b V8 (ud m Q15) from by rw [d15]; exact ((((zzb.A rfl).I rfl).tr z13 rfl).I rfl)), (show (lane + 1) ≤ ln from (by omega)), (show TBX V3 (ud m Q15) N us S z p ((M + 63) / 64) ou ((i * W + (lane + 1)) / M) (fun c x => x < M ∧ trz Y U f mk od i0 a0 N0 (c * M + x) = 1) from by rw [d15]; exact (by rw [hq1, hdw]; exact TBX.step (ls := gg) (nn := lw) (id := id) (V1 := W2) hTp hTo hNb hNS hUb hcl ((hqw.2.2.2.2.2 rfl).trans rfl) ((hqw.a 129 4 rfl).trans (show ((upI (upA Vb 129 10 tq (nI ((i * W + lane) % M))) 129 11 (nI (tq + (if TQ Y U f mk od i0 a0 N0 M ((i * W + lane) / M) ((i * W + lane) % M) = true then 1 else 0)))).2.2.1 129 4) = (Vb.2.2.1 129 4) from rfl)) hAD (fun lz y1 y2 => by by_cases h0 : lw = 0; (omega); (have y3 := y2 (by omega); have y4 := hglt (lw - 1) (by omega); omega)) (by omega) (fun x => (hgm x).trans ⟨fun y => (hlf x).mp y.1, fun y => ⟨(hlf x).mpr y, trivial⟩⟩))), (show ∃ n, (ud m Q15).2.1 129 11 = nI n ∧ LSO (ud m Q15) n ((i * W + (lane + 1)) % M) (fun x => TQ Y U f mk od i0 a0 N0 M ((i * W + (lane + 1)) / M) x = true) from by rw [d15]; exact (by rw [hq2]; exact ⟨0, rfl, LSO.nil⟩)), (show (max mu lw) ≤ 16384 from (by omega))⟩ (by show ln - (lane + 1) < ln - lane; omega))
      · -- 171: not (nI (((i * W + lane) % M) + 1)) = (nI M)
        have nh12 : ¬ (((i * W + lane) % M) + 1) = M := fun z => h12 (show nI (((i * W + lane) % M) + 1) = nI M from (nI_eq (by omega) (by omega)).mpr z)
        obtain ⟨hq1, hq2⟩ := dm_more hM0 nh12
        rw [Nat.add_assoc] at hq1 hq2
        refine mw_go mu_g302 (k := 1) (f1 := (174, [(11, .inl ((nI lane) + 1)), (8, .inl (nI (((i * W + lane) % M) + 1))), (7, .inl (nI mu)), (5, .inl (nI (ou + (i * W + lane) / M))), (0, .inr (.inr (some 129))), (1, .inl nmk), (2, .inl tmk), (3, .inl (nI M)), (4, .inl (0 : Int32)), (6, .inl (nI TN)), (9, .inl (nI i)), (10, .inr (.inr (some 107)))], [], Q11)) (C := []) rfl trivial ?_
        rw [(show ((nI lane) + 1) = (nI (lane + 1)) from (nI_add lane 1))]
        refine mw_go mu_g302 (k := 1) (f1 := (92, [(11, .inl (nI (lane + 1))), (8, .inl (nI (((i * W + lane) % M) + 1))), (7, .inl (nI mu)), (5, .inl (nI (ou + (i * W + lane) / M))), (0, .inr (.inr (some 129))), (1, .inl nmk), (2, .inl tmk), (3, .inl (nI M)), (4, .inl (0 : Int32)), (6, .inl (nI TN)), (9, .inl (nI i)), (10, .inr (.inr (some 107)))], [], Q11)) (C := []) rfl trivial ?_
        refine mw_frU (show ((92, [(11, .inl (nI (lane + 1))), (8, .inl (nI (((i * W + lane) % M) + 1))), (7, .inl (nI mu)), (5, .inl (nI (ou + (i * W + lane) / M))), (0, .inr (.inr (some 129))), (1, .inl nmk), (2, .inl tmk), (3, .inl (nI M)), (4, .inl (0 : Int32)), (6, .inl (nI TN)), (9, .inl (nI i)), (10, .inr (.inr (some 107)))], [], Q11) : mu_F) = (92, [(11, .inl (nI (lane + 1))), (8, .inl (nI ((i * W + (lane + 1)) % M))), (7, .inl (nI mu)), (5, .inl (nI (ou + (i * W + (lane + 1)) / M))), (0, .inr (.inr (some 129))), (1, .inl nmk), (2, .inl tmk), (3, .inl (nI M)), (4, .inl (0 : Int32)), (6, .inl (nI TN)), (9, .inl (nI i)), (10, .inr (.inr (some 107)))], [], Q11) by rw [hq1, hq2]; try rfl) ?_
        exact mw_sub (by simp) (ihb (lane + 1, mu, Q11) ⟨u11, ht11, (show uq F302b V8 (ud m Q11) from by rw [d11]; exact ((zzb.A rfl).I rfl)), (show (lane + 1) ≤ ln from (by omega)), (show TBX V3 (ud m Q11) N us S z p ((M + 63) / 64) ou ((i * W + (lane + 1)) / M) (fun c x => x < M ∧ trz Y U f mk od i0 a0 N0 (c * M + x) = 1) from by rw [d11]; exact (by rw [hq1]; exact hTBb.eq (show ((upI (upA Vb 129 10 tq (nI ((i * W + lane) % M))) 129 11 (nI (tq + (if TQ Y U f mk od i0 a0 N0 M ((i * W + lane) / M) ((i * W + lane) % M) = true then 1 else 0)))).2.1 113 1) = (Vb.2.1 113 1) from rfl) (show ((upI (upA Vb 129 10 tq (nI ((i * W + lane) % M))) 129 11 (nI (tq + (if TQ Y U f mk od i0 a0 N0 M ((i * W + lane) / M) ((i * W + lane) % M) = true then 1 else 0)))).2.1 113 2) = (Vb.2.1 113 2) from rfl) (show ((upI (upA Vb 129 10 tq (nI ((i * W + lane) % M))) 129 11 (nI (tq + (if TQ Y U f mk od i0 a0 N0 M ((i * W + lane) / M) ((i * W + lane) % M) = true then 1 else 0)))).2.1 113 5) = (Vb.2.1 113 5) from rfl) (show ((upI (upA Vb 129 10 tq (nI ((i * W + lane) % M))) 129 11 (nI (tq + (if TQ Y U f mk od i0 a0 N0 M ((i * W + lane) / M) ((i * W + lane) % M) = true then 1 else 0)))).2.2.1 113 3) = (Vb.2.2.1 113 3) from rfl) (show ((upI (upA Vb 129 10 tq (nI ((i * W + lane) % M))) 129 11 (nI (tq + (if TQ Y U f mk od i0 a0 N0 M ((i * W + lane) / M) ((i * W + lane) % M) = true then 1 else 0)))).2.2.1 113 4) = (Vb.2.2.1 113 4) from rfl) (show ((upI (upA Vb 129 10 tq (nI ((i * W + lane) % M))) 129 11 (nI (tq + (if TQ Y U f mk od i0 a0 N0 M ((i * W + lane) / M) ((i * W + lane) % M) = true then 1 else 0)))).2.2.1 129 4) = (Vb.2.2.1 129 4) from rfl) rfl)), (show ∃ n, (ud m Q11).2.1 129 11 = nI n ∧ LSO (ud m Q11) n ((i * W + (lane + 1)) % M) (fun x => TQ Y U f mk od i0 a0 N0 M ((i * W + (lane + 1)) / M) x = true) from by rw [d11]; exact (by rw [hq1, hq2]; exact ⟨_, (show ((upI (upA Vb 129 10 tq (nI ((i * W + lane) % M))) 129 11 (nI (tq + (if TQ Y U f mk od i0 a0 N0 M ((i * W + lane) / M) ((i * W + lane) % M) = true then 1 else 0)))).2.1 129 11) = nI (tq + if TQ Y U f mk od i0 a0 N0 M ((i * W + lane) / M) ((i * W + lane) % M) = true then 1 else 0) from rfl), hLP1⟩)), (show mu ≤ 16384 from (by omega))⟩ (by show ln - (lane + 1) < ln - lane; omega))
    · -- 177: not (nI lane) < (nI ln)
      have nh9 : ¬ lane < ln := fun z => h9 (show nI lane < nI ln from (nI_ltI (by omega) (by omega)).mpr z)
      have hsm : (i + 1) * W = i * W + W := Nat.succ_mul i W
      rw [show i * W + lane = min ((i + 1) * W) T0 by omega]
      refine mw_go mu_g302 (k := 2) (f1 := (181, [(11, .inl (nI lane)), (7, .inl (nI mu)), (5, .inl (nI (ou + min ((i + 1) * W) T0 / M))), (8, .inl (nI (min ((i + 1) * W) T0 % M))), (0, .inr (.inr (some 129))), (1, .inl nmk), (2, .inl tmk), (3, .inl (nI M)), (4, .inl (0 : Int32)), (6, .inl (nI TN)), (9, .inl (nI i)), (10, .inr (.inr (some 107)))], [.inr (.inr (mu_r Hsb 129 0))], Hsb)) (C := [mu_is Hsb (some 129) 9]) rfl (show mu_is Hsb (some 129) 9 from (ub.1.1.is rfl)) ?_
      rw [(ub.1.1.r (p := 129) (j := 0) (q := 99) rfl)]
      refine mw_go mu_g302 (k := 1) (f1 := (184, [(11, .inl (nI lane)), (7, .inl (nI mu)), (5, .inl (nI (ou + min ((i + 1) * W) T0 / M))), (8, .inl (nI (min ((i + 1) * W) T0 % M))), (0, .inr (.inr (some 129))), (1, .inl nmk), (2, .inl tmk), (3, .inl (nI M)), (4, .inl (0 : Int32)), (6, .inl (nI TN)), (9, .inl (nI i)), (10, .inr (.inr (some 107)))], [.inr (.inr (mu_r Hsb 99 1))], Hsb)) (C := [mu_is Hsb (some 99) 13]) rfl (show mu_is Hsb (some 99) 13 from (ub.1.1.is rfl)) ?_
      rw [(ub.1.1.r (p := 99) (j := 1) (q := 100) rfl)]
      have hTDt : TRD Vb Y P f od a0 N0 i0 mk T0 W i := hTD.keep (show (Vb.1 21) = (V7.1 21) from ((zzb.t 21 rfl).trans (z8.t 21 rfl))) (show (Vb.1 22) = (V7.1 22) from ((zzb.t 22 rfl).trans (z8.t 22 rfl))) (show (Vb.1 15) = (V7.1 15) from ((zzb.t 15 rfl).trans (z8.t 15 rfl))) (show (Vb.2.2.1 100 3) = (V7.2.2.1 100 3) from ((zzb.a 100 3 rfl).trans (z8.a 100 3 rfl))) (show (Vb.2.1 100 5) = (V7.2.1 100 5) from ((zzb.i 100 5 rfl).trans (z8.i 100 5 rfl))) (show (Vb.2.1 100 7) = (V7.2.1 100 7) from ((zzb.i 100 7 rfl).trans (z8.i 100 7 rfl))) (show (Vb.2.1 100 17) = (V7.2.1 100 17) from ((zzb.i 100 17 rfl).trans (z8.i 100 17 rfl))) (show (Vb.2.1 100 4) = (V7.2.1 100 4) from ((zzb.i 100 4 rfl).trans (z8.i 100 4 rfl))) (show (Vb.2.1 100 18) = (V7.2.1 100 18) from ((zzb.i 100 18 rfl).trans (z8.i 100 18 rfl))) (show (Vb.2.1 100 19) = (V7.2.1 100 19) from ((zzb.i 100 19 rfl).trans (z8.i 100 19 rfl))) (show (Vb.2.1 100 20) = (V7.2.1 100 20) from ((zzb.i 100 20 rfl).trans (z8.i 100 20 rfl))) (show (Vb.2.2.1 100 8) = (V7.2.2.1 100 8) from ((zzb.a 100 8 rfl).trans (z8.a 100 8 rfl))) (show (Vb.2.2.1 100 12).1 = (V7.2.2.1 100 12).1 from ((zzb.n 100 12 rfl).trans (z8.n 100 12 rfl))) (show (Vb.2.2.1 100 13).1 = (V7.2.2.1 100 13).1 from ((zzb.n 100 13 rfl).trans (z8.n 100 13 rfl))) (show (Vb.2.2.1 100 15).1 = (V7.2.2.1 100 15).1 from ((zzb.n 100 15 rfl).trans (z8.n 100 15 rfl))) (show (Vb.2.2.1 99 8) = (V7.2.2.1 99 8) from ((zzb.a 99 8 rfl).trans (z8.a 99 8 rfl)))
      have hMt := (show MCS Vb from ⟨by rw [(show (Vb.1 22) = (V7.1 22) from ((zzb.t 22 rfl).trans (z8.t 22 rfl)))]; exact hMu.1, by rw [(show (Vb.2.2.1 100 3).1 = (V7.2.2.1 100 3).1 from ((zzb.n 100 3 rfl).trans (z8.n 100 3 rfl)))]; exact hMu.2.1, by rw [(show (Vb.2.2.1 100 8).1 = (V7.2.2.1 100 8).1 from ((zzb.n 100 8 rfl).trans (z8.n 100 8 rfl)))]; exact hMu.2.2.1, by rw [(show (Vb.2.2.1 100 12).1 = (V7.2.2.1 100 12).1 from ((zzb.n 100 12 rfl).trans (z8.n 100 12 rfl)))]; exact hMu.2.2.2.1, by rw [(show (Vb.2.2.1 100 13).1 = (V7.2.2.1 100 13).1 from ((zzb.n 100 13 rfl).trans (z8.n 100 13 rfl)))]; exact hMu.2.2.2.2.1, by rw [(show (Vb.2.2.1 100 15).1 = (V7.2.2.1 100 15).1 from ((zzb.n 100 15 rfl).trans (z8.n 100 15 rfl)))]; exact hMu.2.2.2.2.2⟩)
      have hKt : KNV m Vb Y P f od es := (hKu.q z8 rfl).q zzb rfl
      refine mw_cV (fun _ => rfl) (show mu_is Hsb (some 100) 5 from (ub.1.1.is rfl)) (mc_turnT (d := (d + 2)) (C := C) ub db hKt hMt hTDt hiW (by omega)) (fun Q16 q16 => ?_)
      obtain ⟨u16, r16, z16, hKn, hMn, hTRn⟩ := q16
      have ht16 : ur m C H Q16 := htb.trans r16
      obtain ⟨V16, d16⟩ : ∃ V, ud m Q16 = V := ⟨_, rfl⟩
      rw [d16] at z16 hKn hMn hTRn
      have qf16 : uq F302 U V16 := qfb.tr z16 rfl
      refine mw_go mu_g302 (k := 1) (f1 := (190, [(9, .inl ((nI i) + 1)), (11, .inl (nI lane)), (7, .inl (nI mu)), (5, .inl (nI (ou + min ((i + 1) * W) T0 / M))), (8, .inl (nI (min ((i + 1) * W) T0 % M))), (0, .inr (.inr (some 129))), (1, .inl nmk), (2, .inl tmk), (3, .inl (nI M)), (4, .inl (0 : Int32)), (6, .inl (nI TN)), (10, .inr (.inr (some 107)))], [], Q16)) (C := []) rfl trivial ?_
      rw [(show ((nI i) + 1) = (nI (i + 1)) from (nI_add i 1))]
      refine mw_go mu_g302 (k := 1) (f1 := (60, [(9, .inl (nI (i + 1))), (11, .inl (nI lane)), (7, .inl (nI mu)), (5, .inl (nI (ou + min ((i + 1) * W) T0 / M))), (8, .inl (nI (min ((i + 1) * W) T0 % M))), (0, .inr (.inr (some 129))), (1, .inl nmk), (2, .inl tmk), (3, .inl (nI M)), (4, .inl (0 : Int32)), (6, .inl (nI TN)), (10, .inr (.inr (some 107)))], [], Q16)) (C := []) rfl trivial ?_
      exact mw_sub (by simp) (iha (i + 1, mu, Q16) ⟨u16, ht16, (show uq F302a (upI V4 129 11 (0 : Int32)) (ud m Q16) from by rw [d16]; exact ((((zza.tr z7 rfl).tr z8 rfl).tr zzb rfl).tr z16 rfl)), (show (i + 1) ≤ TN from (by omega)), (show KNV m (ud m Q16) Y P f od es from by rw [d16]; exact hKn), (show MCS (ud m Q16) from by rw [d16]; exact hMn), (show TRN (ud m Q16) Y P f od a0 N0 i0 mk T0 W (i + 1) from by rw [d16]; exact hTRn), (show TBX V3 (ud m Q16) N us S z p ((M + 63) / 64) ou (min ((i + 1) * W) T0 / M) (fun c x => x < M ∧ trz Y U f mk od i0 a0 N0 (c * M + x) = 1) from by rw [d16]; exact (by rw [show min ((i + 1) * W) T0 = i * W + lane by omega]; exact hTBb.eq (show (V16.2.1 113 1) = (Vb.2.1 113 1) from (z16.i 113 1 rfl)) (show (V16.2.1 113 2) = (Vb.2.1 113 2) from (z16.i 113 2 rfl)) (show (V16.2.1 113 5) = (Vb.2.1 113 5) from (z16.i 113 5 rfl)) (show (V16.2.2.1 113 3) = (Vb.2.2.1 113 3) from (z16.a 113 3 rfl)) (show (V16.2.2.1 113 4) = (Vb.2.2.1 113 4) from (z16.a 113 4 rfl)) (show (V16.2.2.1 129 4) = (Vb.2.2.1 129 4) from (z16.a 129 4 rfl)) (z16.2.2.2.2.2 rfl))), (show ∃ n, (ud m Q16).2.1 129 11 = nI n ∧ LSO (ud m Q16) n (min ((i + 1) * W) T0 % M) (fun x => TQ Y U f mk od i0 a0 N0 M (min ((i + 1) * W) T0 / M) x = true) from by rw [d16]; exact (by rw [show min ((i + 1) * W) T0 = i * W + lane by omega]; exact ⟨tq, (show (V16.2.1 129 11) = nI tq from ((z16.i 129 11 rfl).trans l11b)), LSO.eq hLPb (show (V16.2.2.1 129 10) = (Vb.2.2.1 129 10) from (z16.a 129 10 rfl))⟩)), (show mu ≤ 16384 from (by omega))⟩ (by show TN - (i + 1) < TN - i; omega))
  · -- 193: not (nI i) < (nI TN)
    have nh6 : ¬ i < TN := fun z => h6 (show nI i < nI TN from (nI_ltI (by omega) (by omega)).mpr z)
    have hge : T0 ≤ i * W := turns_ge w1 (by rw [← hTN]; exact nh6)
    refine mw_go mu_g302 (k := 1) (f1 := (194, [(9, .inl (nI i)), (7, .inl (nI mt)), (5, .inl (nI (ou + min (i * W) T0 / M))), (8, .inl (nI (min (i * W) T0 % M))), (0, .inr (.inr (some 129))), (1, .inl nmk), (2, .inl tmk), (3, .inl (nI M)), (4, .inl (0 : Int32)), (6, .inl (nI TN))], [.inl tmk], Hsa)) (C := []) rfl trivial ?_
    refine mw_cIe (fun _ => rfl) trivial (rl_one (d := (d + 6))) ?_
    refine mw_if (P := (one1 tmk) = 0) (a := 223) (b := 200) (fun _ => rfl) trivial (fun h18 => ?_) (fun h18 => ?_)
    · -- 223: (one1 tmk) = 0
      have hKe : KNV m Va Y P f od es := hK.q qfa rfl
      have hMe := (show MCS Va from ⟨by rw [(show (Va.1 22) = (Va.1 22) from rfl)]; exact hMa.1, by rw [(show (Va.2.2.1 100 3).1 = (Va.2.2.1 100 3).1 from rfl)]; exact hMa.2.1, by rw [(show (Va.2.2.1 100 8).1 = (Va.2.2.1 100 8).1 from rfl)]; exact hMa.2.2.1, by rw [(show (Va.2.2.1 100 12).1 = (Va.2.2.1 100 12).1 from rfl)]; exact hMa.2.2.2.1, by rw [(show (Va.2.2.1 100 13).1 = (Va.2.2.1 100 13).1 from rfl)]; exact hMa.2.2.2.2.1, by rw [(show (Va.2.2.1 100 15).1 = (Va.2.2.1 100 15).1 from rfl)]; exact hMa.2.2.2.2.2⟩)
      have hle : LDW Va Y P f od a0 N0 i0 := (hTRa.ldw hK.2.1).keep (show (Va.1 21) = (Va.1 21) from rfl) (show (Va.1 22) = (Va.1 22) from rfl) (show (Va.1 15) = (Va.1 15) from rfl) (show (Va.2.2.1 100 3) = (Va.2.2.1 100 3) from rfl) (show (Va.2.1 100 5) = (Va.2.1 100 5) from rfl) (show (Va.2.1 100 7) = (Va.2.1 100 7) from rfl) (show (Va.2.1 100 17) = (Va.2.1 100 17) from rfl) (show (Va.2.1 100 4) = (Va.2.1 100 4) from rfl) (show (Va.2.2.1 100 8) = (Va.2.2.1 100 8) from rfl) (show (Va.2.2.1 100 12).1 = (Va.2.2.1 100 12).1 from rfl) (show (Va.2.2.1 100 13).1 = (Va.2.2.1 100 13).1 from rfl) (show (Va.2.2.1 100 15).1 = (Va.2.2.1 100 15).1 from rfl) (show (Va.2.2.1 99 8) = (Va.2.2.1 99 8) from rfl)
      rw [show min (i * W) T0 = T0 by omega, hTw, Nat.mul_div_cancel_left _ hM0] at hTBa
      have hTe := hTBa.eq (V1 := Va) (show (Va.2.1 113 1) = (Va.2.1 113 1) from rfl) (show (Va.2.1 113 2) = (Va.2.1 113 2) from rfl) (show (Va.2.1 113 5) = (Va.2.1 113 5) from rfl) (show (Va.2.2.1 113 3) = (Va.2.2.1 113 3) from rfl) (show (Va.2.2.1 113 4) = (Va.2.2.1 113 4) from rfl) (show (Va.2.2.1 129 4) = (Va.2.2.1 129 4) from rfl) rfl
      refine mw_of (fun _ => mu_ret rfl trivial ⟨Hsa, rfl, ua, hta, (by rw [da]; exact qfa), ?_⟩)
      rw [da]
      exact ⟨hKe, hMe, hle, ⟨V3, (fun a c => congrFun (congrFun (show V3.2.2.2.2.2 = U.2.2.2.2.2 from z3.2.2.2.2.2 rfl) a) c), oold, hTe⟩, ⟨((show (Va.2.1 129 5) = (V3.2.1 129 5) from ((zza.i 129 5 rfl).trans (z4.i 129 5 rfl)))).trans o5, by rw [(show (Va.2.2.1 129 4).1 = (V3.2.2.1 129 4).1 from ((zza.n 129 4 rfl).trans (z4.n 129 4 rfl)))]; exact oln, by rw [(show (Va.2.2.1 129 4).1 = (V3.2.2.1 129 4).1 from ((zza.n 129 4 rfl).trans (z4.n 129 4 rfl)))]; exact oOL⟩, ((show (Va.1 24) = (V3.1 24) from ((zza.t 24 rfl).trans (z4.t 24 rfl)))).trans o24⟩
    · -- 200: not (one1 tmk) = 0
      obtain ⟨hlx, hl28⟩ := hlo h18
      have hlv : (31 : Int32) - ji_lz tmk = nI l := hlvx.trans hlx
      refine mw_go mu_g302 (k := 2) (f1 := (204, [(9, .inl (nI i)), (7, .inl (nI mt)), (5, .inl (nI (ou + min (i * W) T0 / M))), (8, .inl (nI (min (i * W) T0 % M))), (0, .inr (.inr (some 129))), (1, .inl nmk), (2, .inl tmk), (3, .inl (nI M)), (4, .inl (0 : Int32)), (6, .inl (nI TN))], [.inr (.inr (mu_r Hsa 129 14))], Hsa)) (C := [mu_is Hsa (some 129) 9]) rfl (show mu_is Hsa (some 129) 9 from (ua.1.1.is rfl)) ?_
      rw [(ua.1.1.r (p := 129) (j := 14) (q := 142) rfl)]
      refine mw_go mu_g302 (k := 1) (f1 := (205, [(9, .inl (nI i)), (7, .inl (nI mt)), (5, .inl (nI (ou + min (i * W) T0 / M))), (8, .inl (nI (min (i * W) T0 % M))), (0, .inr (.inr (some 129))), (1, .inl nmk), (2, .inl tmk), (3, .inl (nI M)), (4, .inl (0 : Int32)), (6, .inl (nI TN))], [.inl tmk, .inr (.inr (some 142))], Hsa)) (C := []) rfl trivial ?_
      refine mw_cIe (fun _ => rfl) trivial (rl_level (d := (d + 5))) ?_
      rw [hlv]
      refine mw_go mu_g302 (k := 2) (f1 := (212, [(9, .inl (nI i)), (7, .inl (nI mt)), (5, .inl (nI (ou + min (i * W) T0 / M))), (8, .inl (nI (min (i * W) T0 % M))), (0, .inr (.inr (some 129))), (1, .inl nmk), (2, .inl tmk), (3, .inl (nI M)), (4, .inl (0 : Int32)), (6, .inl (nI TN))], [.inr (.inr (mu_r Hsa 129 14)), .inl (nI l), .inr (.inr (some 142))], Hsa)) (C := [mu_is Hsa (some 129) 9]) rfl (show mu_is Hsa (some 129) 9 from (ua.1.1.is rfl)) ?_
      rw [(ua.1.1.r (p := 129) (j := 14) (q := 142) rfl)]
      refine mw_go mu_g302 (k := 1) (f1 := (213, [(9, .inl (nI i)), (7, .inl (nI mt)), (5, .inl (nI (ou + min (i * W) T0 / M))), (8, .inl (nI (min (i * W) T0 % M))), (0, .inr (.inr (some 129))), (1, .inl nmk), (2, .inl tmk), (3, .inl (nI M)), (4, .inl (0 : Int32)), (6, .inl (nI TN))], [.inl tmk, .inr (.inr (some 142)), .inl (nI l), .inr (.inr (some 142))], Hsa)) (C := []) rfl trivial ?_
      refine mw_cIe (fun _ => rfl) trivial (rl_level (d := (d + 5))) ?_
      rw [hlv]
      refine mw_go mu_g302 (k := 1) (f1 := (217, [(9, .inl (nI i)), (7, .inl (nI mt)), (5, .inl (nI (ou + min (i * W) T0 / M))), (8, .inl (nI (min (i * W) T0 % M))), (0, .inr (.inr (some 129))), (1, .inl nmk), (2, .inl tmk), (3, .inl (nI M)), (4, .inl (0 : Int32)), (6, .inl (nI TN))], [.inl (mu_i Hsa 142 (nI l).toNatClampNeg), .inl (nI l), .inr (.inr (some 142))], Hsa)) (C := [mu_isr Hsa (some 142) 100, vp_in (nI l) (mu_n Hsa 142)]) rfl (show (mu_isr Hsa (some 142) 100) ∧ (vp_in (nI l) (mu_n Hsa 142)) from ⟨((ua.iA da rfl rfl ((ud_q (m := m) (P := 129) (j := 14) da rfl).symm.trans (ua.1.1.r (p := 129) (j := 14) (q := 142) rfl)))).r, (by rw [show mu_n Hsa 142 = 28 from (ua.1.1.a (p := 142) (x := (100, 28)) rfl).2]; exact vp_in_nI (n := l) (by omega) (by decide))⟩) ?_
      obtain ⟨y21, hy21⟩ : ∃ y, y = (mu_i Hsa 142 (nI l).toNatClampNeg) := ⟨_, rfl⟩
      rw [← hy21]
      refine mw_go mu_g302 (k := 1) (f1 := (219, [(9, .inl (nI i)), (7, .inl (nI mt)), (5, .inl (nI (ou + min (i * W) T0 / M))), (8, .inl (nI (min (i * W) T0 % M))), (0, .inr (.inr (some 129))), (1, .inl nmk), (2, .inl tmk), (3, .inl (nI M)), (4, .inl (0 : Int32)), (6, .inl (nI TN))], [.inl (nI mt), .inl y21, .inl (nI l), .inr (.inr (some 142))], Hsa)) (C := []) rfl trivial ?_
      refine mw_cIe (fun _ => rfl) trivial (mu_min_ok (d := (d + 6)) y21 (nI mt)) ?_
      refine mw_go mu_g302 (k := 1) (f1 := (223, [(9, .inl (nI i)), (7, .inl (nI mt)), (5, .inl (nI (ou + min (i * W) T0 / M))), (8, .inl (nI (min (i * W) T0 % M))), (0, .inr (.inr (some 129))), (1, .inl nmk), (2, .inl tmk), (3, .inl (nI M)), (4, .inl (0 : Int32)), (6, .inl (nI TN))], [], (mu_si Hsa 142 (nI l).toNatClampNeg (mu_min y21 (nI mt))))) (C := [mu_is Hsa (some 142) 100, vp_in (nI l) (mu_n Hsa 142)]) rfl (show (mu_is Hsa (some 142) 100) ∧ (vp_in (nI l) (mu_n Hsa 142)) from ⟨(ua.iA da rfl rfl ((ud_q (m := m) (P := 129) (j := 14) da rfl).symm.trans (ua.1.1.r (p := 129) (j := 14) (q := 142) rfl))), (by rw [show mu_n Hsa 142 = 28 from (ua.1.1.a (p := 142) (x := (100, 28)) rfl).2]; exact vp_in_nI (n := l) (by omega) (by decide))⟩) ?_
      rw [(show (nI l).toNatClampNeg = l from nI_clamp (by omega))]
      obtain ⟨u23, r23, d23⟩ : um m (mu_si Hsa 142 l (mu_min y21 (nI mt))) ∧ ur m C Hsa (mu_si Hsa 142 l (mu_min y21 (nI mt))) ∧ ud m (mu_si Hsa 142 l (mu_min y21 (nI mt))) = (upA Va 129 14 l (mu_min y21 (nI mt))) := ua.sA (C := C) da rfl rfl ((ud_q (m := m) (P := 129) (j := 14) da rfl).symm.trans (ua.1.1.r (p := 129) (j := 14) (q := 142) rfl))
      generalize (mu_si Hsa 142 l (mu_min y21 (nI mt))) = Q23 at u23 r23 d23 ⊢
      have qf23 : uq F302 U (upA Va 129 14 l (mu_min y21 (nI mt))) := qfa.A rfl
      have ht23 : ur m C H Q23 := hta.trans r23
      have hKe : KNV m (upA Va 129 14 l (mu_min y21 (nI mt))) Y P f od es := hK.q qf23 rfl
      have hMe := (show MCS (upA Va 129 14 l (mu_min y21 (nI mt))) from ⟨by rw [(show ((upA Va 129 14 l (mu_min y21 (nI mt))).1 22) = (Va.1 22) from rfl)]; exact hMa.1, by rw [(show ((upA Va 129 14 l (mu_min y21 (nI mt))).2.2.1 100 3).1 = (Va.2.2.1 100 3).1 from rfl)]; exact hMa.2.1, by rw [(show ((upA Va 129 14 l (mu_min y21 (nI mt))).2.2.1 100 8).1 = (Va.2.2.1 100 8).1 from rfl)]; exact hMa.2.2.1, by rw [(show ((upA Va 129 14 l (mu_min y21 (nI mt))).2.2.1 100 12).1 = (Va.2.2.1 100 12).1 from rfl)]; exact hMa.2.2.2.1, by rw [(show ((upA Va 129 14 l (mu_min y21 (nI mt))).2.2.1 100 13).1 = (Va.2.2.1 100 13).1 from rfl)]; exact hMa.2.2.2.2.1, by rw [(show ((upA Va 129 14 l (mu_min y21 (nI mt))).2.2.1 100 15).1 = (Va.2.2.1 100 15).1 from rfl)]; exact hMa.2.2.2.2.2⟩)
      have hle : LDW (upA Va 129 14 l (mu_min y21 (nI mt))) Y P f od a0 N0 i0 := (hTRa.ldw hK.2.1).keep (show ((upA Va 129 14 l (mu_min y21 (nI mt))).1 21) = (Va.1 21) from rfl) (show ((upA Va 129 14 l (mu_min y21 (nI mt))).1 22) = (Va.1 22) from rfl) (show ((upA Va 129 14 l (mu_min y21 (nI mt))).1 15) = (Va.1 15) from rfl) (show ((upA Va 129 14 l (mu_min y21 (nI mt))).2.2.1 100 3) = (Va.2.2.1 100 3) from rfl) (show ((upA Va 129 14 l (mu_min y21 (nI mt))).2.1 100 5) = (Va.2.1 100 5) from rfl) (show ((upA Va 129 14 l (mu_min y21 (nI mt))).2.1 100 7) = (Va.2.1 100 7) from rfl) (show ((upA Va 129 14 l (mu_min y21 (nI mt))).2.1 100 17) = (Va.2.1 100 17) from rfl) (show ((upA Va 129 14 l (mu_min y21 (nI mt))).2.1 100 4) = (Va.2.1 100 4) from rfl) (show ((upA Va 129 14 l (mu_min y21 (nI mt))).2.2.1 100 8) = (Va.2.2.1 100 8) from rfl) (show ((upA Va 129 14 l (mu_min y21 (nI mt))).2.2.1 100 12).1 = (Va.2.2.1 100 12).1 from rfl) (show ((upA Va 129 14 l (mu_min y21 (nI mt))).2.2.1 100 13).1 = (Va.2.2.1 100 13).1 from rfl) (show ((upA Va 129 14 l (mu_min y21 (nI mt))).2.2.1 100 15).1 = (Va.2.2.1 100 15).1 from rfl) (show ((upA Va 129 14 l (mu_min y21 (nI mt))).2.2.1 99 8) = (Va.2.2.1 99 8) from rfl)
      rw [show min (i * W) T0 = T0 by omega, hTw, Nat.mul_div_cancel_left _ hM0] at hTBa
      have hTe := hTBa.eq (V1 := (upA Va 129 14 l (mu_min y21 (nI mt)))) (show ((upA Va 129 14 l (mu_min y21 (nI mt))).2.1 113 1) = (Va.2.1 113 1) from rfl) (show ((upA Va 129 14 l (mu_min y21 (nI mt))).2.1 113 2) = (Va.2.1 113 2) from rfl) (show ((upA Va 129 14 l (mu_min y21 (nI mt))).2.1 113 5) = (Va.2.1 113 5) from rfl) (show ((upA Va 129 14 l (mu_min y21 (nI mt))).2.2.1 113 3) = (Va.2.2.1 113 3) from rfl) (show ((upA Va 129 14 l (mu_min y21 (nI mt))).2.2.1 113 4) = (Va.2.2.1 113 4) from rfl) (show ((upA Va 129 14 l (mu_min y21 (nI mt))).2.2.1 129 4) = (Va.2.2.1 129 4) from rfl) rfl
      refine mw_of (fun _ => mu_ret rfl trivial ⟨Q23, rfl, u23, ht23, (by rw [d23]; exact qf23), ?_⟩)
      rw [d23]
      exact ⟨hKe, hMe, hle, ⟨V3, (fun a c => congrFun (congrFun (show V3.2.2.2.2.2 = U.2.2.2.2.2 from z3.2.2.2.2.2 rfl) a) c), oold, hTe⟩, ⟨((show ((upA Va 129 14 l (mu_min y21 (nI mt))).2.1 129 5) = (V3.2.1 129 5) from ((zza.i 129 5 rfl).trans (z4.i 129 5 rfl)))).trans o5, by rw [(show ((upA Va 129 14 l (mu_min y21 (nI mt))).2.2.1 129 4).1 = (V3.2.2.1 129 4).1 from ((zza.n 129 4 rfl).trans (z4.n 129 4 rfl)))]; exact oln, by rw [(show ((upA Va 129 14 l (mu_min y21 (nI mt))).2.2.1 129 4).1 = (V3.2.2.1 129 4).1 from ((zza.n 129 4 rfl).trans (z4.n 129 4 rfl)))]; exact oOL⟩, ((show ((upA Va 129 14 l (mu_min y21 (nI mt))).1 24) = (V3.1 24) from ((zza.t 24 rfl).trans (z4.t 24 rfl)))).trans o24⟩

theorem rl_table1 (h : um m H) (e : ud m H = U) (hK : KNV m U Y P f od es) (hM : MCS U) (hl : LDW U Y P f od a0 N0 i0) (hi0 : i0 < (Y 11).1) (hr0 : rg Y (im Y i0) false a0 (a0 + N0)) (hs0 : SRT Y es i0 al a0 rs N0) (hal : ¬ al = 2) (hst : stk Y rs a0 N0 0 = 1) (hmk : U.2.1 100 4 = mk) (hnm : ∀ k, k < 14 → mb nmk k = mb mk k) (htm : ∀ k, k < 14 → mb tmk k = mb mk (k + 14)) (hMM : M = pm tmk f P) {lx : Int32} (hlvx : (31 : Int32) - ji_lz tmk = lx) (hlo : ¬ one1 tmk = 0 → lx = nI l ∧ l < 28) (hSO : SOK U N us S z p) (hF : FMS U nf nm tm nb bo) (hbs : ∀ q, q < nf → (U.1 24).2 q 2 = nI (bs q)) (hou : U.2.1 129 5 = nI ou) (hol : ou ≤ (U.2.2.1 129 4).1) (hOL : OLN (U.2.2.1 129 4).1) (hN : N + pm nmk f P ≤ 500000) (hX : us + pm nmk f P * (((M + 63) / 64) + 1) ≤ 1400000) (hLl : pd f 0 P + 4 ≤ (U.2.2.1 129 10).1) (hLlb : (U.2.2.1 129 10).1 ≤ 16777216) (hC1 : 2 * ((nf + 1) * 6) + 6 ≤ C 24) (hC2 : C 24 ≤ 8388608) {qk bq : Nat} {oq : Nat → Nat} (hqk : KNF nf nm tm (bo (nb - 1) 0) nmk tmk qk) (hun : ∀ q q2, KNF nf nm tm (bo (nb - 1) 0) nmk tmk q → KNF nf nm tm (bo (nb - 1) 0) nmk tmk q2 → q = q2) (hbq : bs qk = bq) (hbl : bq + pm nmk f P ≤ (U.2.2.1 129 4).1) (hold : ∀ c, c < pm nmk f P → (U.2.2.1 129 4).2 (bq + c) = nI (oq c) ∧ oq c < N ∧ p (oq c) = true) : mu_TV (mu_D (d + 8)) 302 [.inr (.inr (some 129)), .inl nmk, .inl tmk, .inl (nI M)] H (fun H1 => um m H1 ∧ ur m C H H1 ∧ uq F302 U (ud m H1) ∧ KNV m (ud m H1) Y P f od es ∧ MCS (ud m H1) ∧ LDW (ud m H1) Y P f od a0 N0 i0 ∧ TBX U (ud m H1) N us S z p ((M + 63) / 64) bq (pm nmk f P) (fun c x => S (oq c) x = true ∧ x < M ∧ trz Y U f mk od i0 a0 N0 (c * M + x) = 1) ∧ (ud m H1).2.1 129 5 = U.2.1 129 5 ∧ ((ud m H1).2.2.1 129 4).1 = (U.2.2.1 129 4).1 ∧ (ud m H1).1 24 = U.1 24) := by
  obtain ⟨⟨s4, s10, s11, s12⟩, hk5, ⟨g8, g8b, g18, g18b⟩, ⟨gP, gpd, gsm⟩, hsp, hmo'⟩ := id hK.1
  have hP : P ≤ 14 := gP
  have hpm := pm_le (mk := nmk) (f := f) (n := P) (fun k _ => hK.2.1 k)
  have hpt := pm_le (mk := tmk) (f := f) (n := P) (fun k _ => hK.2.1 k)
  rw [← hMM] at hpt
  have hM0 : 0 < M := by omega
  have tp1 : tpz Y a0 N0 = 1 := by have y := rg_1 hr0; rw [Nat.add_sub_cancel_left] at y; exact y
  obtain ⟨T0, hT0⟩ : ∃ T0, T0 = tqz mk f 28 := ⟨_, rfl⟩
  have hTw : T0 = M * pm nmk f P := by rw [hT0, hMM]; exact tqz_two hnm htm (LDW.sides hl hmk) hP
  have hTb2 : T0 ≤ 268435456 := by
    have y : M * pm nmk f P ≤ 16384 * 16384 := Nat.mul_le_mul (by omega) (by omega)
    omega
  have hqk1 := hqk.1
  have hOb : (U.2.2.1 129 4).1 ≤ 32768 := by rcases hOL with y | y | y <;> omega
  refine mu_meth (M := mu_m302) rfl rfl ?_
  refine mw_ht (mu_fn_of (show [0, 1, 2, 3].Nodup by decide)) ?_
  refine mw_go mu_g302 (k := 3) (f1 := (3, [(0, .inr (.inr (some 129))), (1, .inl nmk), (2, .inl tmk), (3, .inl (nI M))], [.inl tmk, .inl nmk, .inr (.inr (some 129))], H)) (C := []) rfl trivial ?_
  refine mw_cI (fun _ => rfl) (show mu_is H (some 129) 9 from (h.1.1.is rfl)) (rl_facK (d := (d + 5)) (mk := nmk) (tk := tmk) h e hF hqk) (fun x1 H1 q1 => ?_)
  obtain ⟨qa, hqa, hx1, hQe⟩ := q1
  rw [hQe, hx1]
  refine mw_if (P := (nI qa) < 0) (a := 13) (b := 9) (fun _ => rfl) trivial (fun h2 => absurd h2 (nI_pos (by omega))) (fun h2 => ?_)
  refine mw_go mu_g302 (k := 6) (f1 := (19, [(4, .inl (1 : Int32)), (0, .inr (.inr (some 129))), (1, .inl nmk), (2, .inl tmk), (3, .inl (nI M))], [.inl tmk, .inl nmk, .inr (.inr (some 129))], H)) (C := []) rfl trivial ?_
  refine mw_cI (fun _ => rfl) (show mu_is H (some 129) 9 from (h.1.1.is rfl)) (rl_opentK (d := (d + 3)) (C := C) (mk := nmk) (tk := tmk) (bs := bs) (ou := ou) (lw := lx) h e hK.1 hF hbs hou hOL hol (fun y => absurd hqk (y qk)) hlvx hC1 hC2 hqk) (fun x3 H3 q3 => ?_)
  obtain ⟨qb, hqb, hx1, hQe⟩ := q3
  rw [hQe, hx1, show bs qb = bq from by rw [hun qb qk hqb hqk]; exact hbq]
  refine mw_go mu_g302 (k := 3) (f1 := (28, [(5, .inl (nI bq)), (4, .inl (1 : Int32)), (0, .inr (.inr (some 129))), (1, .inl nmk), (2, .inl tmk), (3, .inl (nI M))], [.inr (.inr (mu_r H 129 0))], H)) (C := [mu_is H (some 129) 9]) rfl (show mu_is H (some 129) 9 from (h.1.1.is rfl)) ?_
  rw [(h.1.1.r (p := 129) (j := 0) (q := 99) rfl)]
  refine mw_go mu_g302 (k := 1) (f1 := (31, [(5, .inl (nI bq)), (4, .inl (1 : Int32)), (0, .inr (.inr (some 129))), (1, .inl nmk), (2, .inl tmk), (3, .inl (nI M))], [.inr (.inr (mu_r H 99 1))], H)) (C := [mu_is H (some 99) 13]) rfl (show mu_is H (some 99) 13 from (h.1.1.is rfl)) ?_
  rw [(h.1.1.r (p := 99) (j := 1) (q := 100) rfl)]
  refine mw_go mu_g302 (k := 2) (f1 := (35, [(5, .inl (nI bq)), (4, .inl (1 : Int32)), (0, .inr (.inr (some 129))), (1, .inl nmk), (2, .inl tmk), (3, .inl (nI M))], [.inr (.inr (mu_r H 129 0)), .inr (.inr (some 100))], H)) (C := [mu_is H (some 129) 9]) rfl (show mu_is H (some 129) 9 from (h.1.1.is rfl)) ?_
  rw [(h.1.1.r (p := 129) (j := 0) (q := 99) rfl)]
  refine mw_go mu_g302 (k := 1) (f1 := (38, [(5, .inl (nI bq)), (4, .inl (1 : Int32)), (0, .inr (.inr (some 129))), (1, .inl nmk), (2, .inl tmk), (3, .inl (nI M))], [.inr (.inr (mu_r H 99 1)), .inr (.inr (some 100))], H)) (C := [mu_is H (some 99) 13]) rfl (show mu_is H (some 99) 13 from (h.1.1.is rfl)) ?_
  rw [(h.1.1.r (p := 99) (j := 1) (q := 100) rfl)]
  refine mw_go mu_g302 (k := 1) (f1 := (41, [(5, .inl (nI bq)), (4, .inl (1 : Int32)), (0, .inr (.inr (some 129))), (1, .inl nmk), (2, .inl tmk), (3, .inl (nI M))], [.inl (mu_i H 100 4), .inr (.inr (some 100))], H)) (C := [mu_is H (some 100) 5]) rfl (show mu_is H (some 100) 5 from (h.1.1.is rfl)) ?_
  rw [(show mu_i H 100 4 = mk from (ud_i (U := U) (m := m) (P := 100) (j := 4) e rfl).trans hmk)]
  have hK1 := hK
  have hM1 := hM
  have hl1 := hl
  refine mw_cI (fun _ => rfl) (show mu_is H (some 100) 5 from (h.1.1.is rfl)) (mc_rewindT (d := (d + 2)) (C := C) (T0 := T0) h e hK1 hM1 hl1 (show (U.2.1 100 4) = mk from hmk) hT0 (by omega)) (fun x4 Q4 q4 => ?_)
  obtain ⟨W, ⟨w1, w2⟩, rfl, u4, r4, z4, hKr, hMr, hTR0⟩ := q4
  have ht4 : ur m C H Q4 := (ur.refl m C H).trans r4
  obtain ⟨V4, d4⟩ : ∃ V, ud m Q4 = V := ⟨_, rfl⟩
  rw [d4] at z4 hKr hMr hTR0
  have qf4 : uq F302 U V4 := (uq.refl F302 U).tr z4 rfl
  obtain ⟨TN, hTN⟩ : ∃ TN, TN = (T0 + W - 1) / W := ⟨_, rfl⟩
  rw [← hTN]
  have hTNb : TN ≤ 268436480 := by rw [hTN]; exact Nat.le_trans (Nat.div_le_self _ _) (by omega)
  refine mw_go mu_g302 (k := 1) (f1 := (46, [(6, .inl (nI TN)), (5, .inl (nI bq)), (4, .inl (1 : Int32)), (0, .inr (.inr (some 129))), (1, .inl nmk), (2, .inl tmk), (3, .inl (nI M))], [], Q4)) (C := []) rfl trivial ?_
  refine mw_go mu_g302 (k := 7) (f1 := (57, [(8, .inl (0 : Int32)), (7, .inl (0 : Int32)), (6, .inl (nI TN)), (5, .inl (nI bq)), (4, .inl (1 : Int32)), (0, .inr (.inr (some 129))), (1, .inl nmk), (2, .inl tmk), (3, .inl (nI M))], [], (mu_si Q4 129 11 (0 : Int32)))) (C := [mu_is Q4 (some 129) 9]) rfl (show mu_is Q4 (some 129) 9 from (u4.1.1.is rfl)) ?_
  obtain ⟨u5, r5, d5⟩ : um m (mu_si Q4 129 11 (0 : Int32)) ∧ ur m C Q4 (mu_si Q4 129 11 (0 : Int32)) ∧ ud m (mu_si Q4 129 11 (0 : Int32)) = (upI V4 129 11 (0 : Int32)) := u4.sI (C := C) d4 rfl
  generalize (mu_si Q4 129 11 (0 : Int32)) = Q5 at u5 r5 d5 ⊢
  have qf5 : uq F302 U (upI V4 129 11 (0 : Int32)) := qf4.I rfl
  have ht5 : ur m C H Q5 := ht4.trans r5
  refine mw_go mu_g302 (k := 2) (f1 := (60, [(9, .inl (0 : Int32)), (8, .inl (0 : Int32)), (7, .inl (0 : Int32)), (6, .inl (nI TN)), (5, .inl (nI bq)), (4, .inl (1 : Int32)), (0, .inr (.inr (some 129))), (1, .inl nmk), (2, .inl tmk), (3, .inl (nI M))], [], Q5)) (C := []) rfl trivial ?_
  have hz0 : min (0 * W) T0 = 0 := by rw [Nat.zero_mul, Nat.zero_min]
  refine mw_frU (show ((60, [(9, .inl (0 : Int32)), (8, .inl (0 : Int32)), (7, .inl (0 : Int32)), (6, .inl (nI TN)), (5, .inl (nI bq)), (4, .inl (1 : Int32)), (0, .inr (.inr (some 129))), (1, .inl nmk), (2, .inl tmk), (3, .inl (nI M))], [], Q5) : mu_F) = (60, [(9, .inl (0 : Int32)), (8, .inl (nI (min (0 * W) T0 % M))), (7, .inl (0 : Int32)), (6, .inl (nI TN)), (5, .inl (nI (bq + min (0 * W) T0 / M))), (4, .inl (1 : Int32)), (0, .inr (.inr (some 129))), (1, .inl nmk), (2, .inl tmk), (3, .inl (nI M))], [], Q5) by rw [hz0, Nat.zero_div, Nat.zero_mod, Nat.add_zero]; try rfl) ?_
  show mu_W _ _ (60, [(9, .inl (nI 0)), (8, .inl (nI (min (0 * W) T0 % M))), (7, .inl (nI 0)), (6, .inl (nI TN)), (5, .inl (nI (bq + min (0 * W) T0 / M))), (4, .inl (1 : Int32)), (0, .inr (.inr (some 129))), (1, .inl nmk), (2, .inl tmk), (3, .inl (nI M))], [], Q5) _
  refine mw_sub (L' := [(9, .inl (nI 0)), (7, .inl (nI 0)), (5, .inl (nI (bq + min (0 * W) T0 / M))), (8, .inl (nI (min (0 * W) T0 % M))), (0, .inr (.inr (some 129))), (1, .inl nmk), (2, .inl tmk), (3, .inl (nI M)), (4, .inl (1 : Int32)), (6, .inl (nI TN))]) (by simp) ?_
  refine mw_down (α := Nat × Nat × mu_H) (fun zs => (60, [(9, .inl (nI zs.1)), (7, .inl (nI zs.2.1)), (5, .inl (nI (bq + min (zs.1 * W) T0 / M))), (8, .inl (nI (min (zs.1 * W) T0 % M))), (0, .inr (.inr (some 129))), (1, .inl nmk), (2, .inl tmk), (3, .inl (nI M)), (4, .inl (1 : Int32)), (6, .inl (nI TN))], [], zs.2.2)) (fun zs => TN - zs.1) (fun zs => um m zs.2.2 ∧ ur m C H zs.2.2 ∧ (uq F302a (upI V4 129 11 (0 : Int32)) (ud m zs.2.2)) ∧ (zs.1 ≤ TN) ∧ (KNV m (ud m zs.2.2) Y P f od es) ∧ (MCS (ud m zs.2.2)) ∧ (TRN (ud m zs.2.2) Y P f od a0 N0 i0 mk T0 W zs.1) ∧ (TBX U (ud m zs.2.2) N us S z p ((M + 63) / 64) bq (min (zs.1 * W) T0 / M) (fun c x => S (oq c) x = true ∧ x < M ∧ trz Y U f mk od i0 a0 N0 (c * M + x) = 1)) ∧ (∃ n, (ud m zs.2.2).2.1 129 11 = nI n ∧ LSO (ud m zs.2.2) n (min (zs.1 * W) T0 % M) (fun x => TQ Y U f mk od i0 a0 N0 M (min (zs.1 * W) T0 / M) x = true)) ∧ (zs.2.1 ≤ 16384)) (fun zs hza iha => ?_) (0, 0, Q5) ⟨u5, ht5, (show uq F302a (upI V4 129 11 (0 : Int32)) (ud m Q5) from by rw [d5]; exact uq.refl _ _), (show 0 ≤ TN from (by omega)), (show KNV m (ud m Q5) Y P f od es from by rw [d5]; exact (hK.q qf5 rfl)), (show MCS (ud m Q5) from by rw [d5]; exact (show MCS (upI V4 129 11 (0 : Int32)) from ⟨by rw [(show ((upI V4 129 11 (0 : Int32)).1 22) = (V4.1 22) from rfl)]; exact hMr.1, by rw [(show ((upI V4 129 11 (0 : Int32)).2.2.1 100 3).1 = (V4.2.2.1 100 3).1 from rfl)]; exact hMr.2.1, by rw [(show ((upI V4 129 11 (0 : Int32)).2.2.1 100 8).1 = (V4.2.2.1 100 8).1 from rfl)]; exact hMr.2.2.1, by rw [(show ((upI V4 129 11 (0 : Int32)).2.2.1 100 12).1 = (V4.2.2.1 100 12).1 from rfl)]; exact hMr.2.2.2.1, by rw [(show ((upI V4 129 11 (0 : Int32)).2.2.1 100 13).1 = (V4.2.2.1 100 13).1 from rfl)]; exact hMr.2.2.2.2.1, by rw [(show ((upI V4 129 11 (0 : Int32)).2.2.1 100 15).1 = (V4.2.2.1 100 15).1 from rfl)]; exact hMr.2.2.2.2.2⟩)), (show TRN (ud m Q5) Y P f od a0 N0 i0 mk T0 W 0 from by rw [d5]; exact (TRN.i11 hTR0)), (show TBX U (ud m Q5) N us S z p ((M + 63) / 64) bq (min (0 * W) T0 / M) (fun c x => S (oq c) x = true ∧ x < M ∧ trz Y U f mk od i0 a0 N0 (c * M + x) = 1) from by rw [d5]; exact (by rw [Nat.zero_mul, Nat.zero_min, Nat.zero_div]; exact TBX.init (hSO.eq (show ((upI V4 129 11 (0 : Int32)).2.1 113 1) = (U.2.1 113 1) from (z4.i 113 1 rfl)) (show ((upI V4 129 11 (0 : Int32)).2.1 113 2) = (U.2.1 113 2) from (z4.i 113 2 rfl)) (show ((upI V4 129 11 (0 : Int32)).2.1 113 5) = (U.2.1 113 5) from (z4.i 113 5 rfl)) (show ((upI V4 129 11 (0 : Int32)).2.2.1 113 3) = (U.2.2.1 113 3) from (z4.a 113 3 rfl)) (show ((upI V4 129 11 (0 : Int32)).2.2.1 113 4) = (U.2.2.1 113 4) from (z4.a 113 4 rfl)) (congrFun (z4.2.2.2.2.2 rfl) 114)) (fun a c _ => congrFun (congrFun (z4.2.2.2.2.2 rfl) a) c) (fun j => congrFun (congrArg Prod.snd (show ((upI V4 129 11 (0 : Int32)).2.2.1 129 4) = (U.2.2.1 129 4) from (z4.a 129 4 rfl))) j))), (show ∃ n, (ud m Q5).2.1 129 11 = nI n ∧ LSO (ud m Q5) n (min (0 * W) T0 % M) (fun x => TQ Y U f mk od i0 a0 N0 M (min (0 * W) T0 / M) x = true) from by rw [d5]; exact (by rw [Nat.zero_mul, Nat.zero_min, Nat.zero_div, Nat.zero_mod]; exact ⟨0, rfl, LSO.nil⟩)), (show 0 ≤ 16384 from (by omega))⟩
  obtain ⟨i, mt, Hsa⟩ := zs
  obtain ⟨ua, hta, da, hi, hKa, hMa, hTRa, hTBa, hLPa, hmt⟩ := hza
  have ua : um m Hsa := ua
  have hta : ur m C H Hsa := hta
  have zza : uq F302a (upI V4 129 11 (0 : Int32)) (ud m Hsa) := da
  have hi : i ≤ TN := hi
  have hKa : KNV m (ud m Hsa) Y P f od es := hKa
  have hMa : MCS (ud m Hsa) := hMa
  have hTRa : TRN (ud m Hsa) Y P f od a0 N0 i0 mk T0 W i := hTRa
  have hTBa : TBX U (ud m Hsa) N us S z p ((M + 63) / 64) bq (min (i * W) T0 / M) (fun c x => S (oq c) x = true ∧ x < M ∧ trz Y U f mk od i0 a0 N0 (c * M + x) = 1) := hTBa
  have hLPa : ∃ n, (ud m Hsa).2.1 129 11 = nI n ∧ LSO (ud m Hsa) n (min (i * W) T0 % M) (fun x => TQ Y U f mk od i0 a0 N0 M (min (i * W) T0 / M) x = true) := hLPa
  have hmt : mt ≤ 16384 := hmt
  obtain ⟨Va, da⟩ : ∃ V, ud m Hsa = V := ⟨_, rfl⟩
  rw [da] at zza hKa hMa hTRa hTBa hLPa
  have qfa : uq F302 U Va := qf5.tr zza rfl
  show mu_W _ _ (60, [(9, .inl (nI i)), (7, .inl (nI mt)), (5, .inl (nI (bq + min (i * W) T0 / M))), (8, .inl (nI (min (i * W) T0 % M))), (0, .inr (.inr (some 129))), (1, .inl nmk), (2, .inl tmk), (3, .inl (nI M)), (4, .inl (1 : Int32)), (6, .inl (nI TN))], [], Hsa) _
  obtain ⟨tda, l11a, hLPa⟩ := hLPa
  refine mw_go mu_g302 (k := 2) (f1 := (64, [(9, .inl (nI i)), (7, .inl (nI mt)), (5, .inl (nI (bq + min (i * W) T0 / M))), (8, .inl (nI (min (i * W) T0 % M))), (0, .inr (.inr (some 129))), (1, .inl nmk), (2, .inl tmk), (3, .inl (nI M)), (4, .inl (1 : Int32)), (6, .inl (nI TN))], [.inl (nI TN), .inl (nI i)], Hsa)) (C := []) rfl trivial ?_
  refine mw_if (P := (nI i) < (nI TN)) (a := 67) (b := 193) (fun _ => rfl) trivial (fun h6 => ?_) (fun h6 => ?_)
  · -- 67: (nI i) < (nI TN)
    have nh6 : i < TN := (nI_ltI (by omega) (by omega)).mp (show nI i < nI TN from h6)
    have hiW := turns_lt w1 (by rw [← hTN]; exact nh6)
    have hA15 : Va.1 15 = U.1 15 := ((zza.t 15 rfl).trans (z4.t 15 rfl))
    have hA98 : Va.2.2.1 99 8 = U.2.2.1 99 8 := ((zza.a 99 8 rfl).trans (z4.a 99 8 rfl))
    refine mw_go mu_g302 (k := 2) (f1 := (71, [(9, .inl (nI i)), (7, .inl (nI mt)), (5, .inl (nI (bq + min (i * W) T0 / M))), (8, .inl (nI (min (i * W) T0 % M))), (0, .inr (.inr (some 129))), (1, .inl nmk), (2, .inl tmk), (3, .inl (nI M)), (4, .inl (1 : Int32)), (6, .inl (nI TN))], [.inr (.inr (mu_r Hsa 129 0))], Hsa)) (C := [mu_is Hsa (some 129) 9]) rfl (show mu_is Hsa (some 129) 9 from (ua.1.1.is rfl)) ?_
    rw [(ua.1.1.r (p := 129) (j := 0) (q := 99) rfl)]
    refine mw_go mu_g302 (k := 1) (f1 := (74, [(9, .inl (nI i)), (7, .inl (nI mt)), (5, .inl (nI (bq + min (i * W) T0 / M))), (8, .inl (nI (min (i * W) T0 % M))), (0, .inr (.inr (some 129))), (1, .inl nmk), (2, .inl tmk), (3, .inl (nI M)), (4, .inl (1 : Int32)), (6, .inl (nI TN))], [.inr (.inr (mu_r Hsa 99 1))], Hsa)) (C := [mu_is Hsa (some 99) 13]) rfl (show mu_is Hsa (some 99) 13 from (ua.1.1.is rfl)) ?_
    rw [(ua.1.1.r (p := 99) (j := 1) (q := 100) rfl)]
    refine mw_cV (fun _ => rfl) (show mu_is Hsa (some 100) 5 from (ua.1.1.is rfl)) (mc_runT (d := (d + 1)) (C := C) (Lk := [false]) ua da hKa hMa hTRa hiW hi0 hr0 (by decide) hs0 hal) (fun Q7 q7 => ?_)
    obtain ⟨u7, r7, z7, hKu, hMu, hTD, hRS⟩ := q7
    have ht7 : ur m C H Q7 := hta.trans r7
    obtain ⟨V7, d7⟩ : ∃ V, ud m Q7 = V := ⟨_, rfl⟩
    rw [d7] at z7 hKu hMu hTD hRS
    have qf7 : uq F302 U V7 := qfa.tr z7 rfl
    obtain ⟨ln, hln⟩ : ∃ ln, ln = min W (T0 - i * W) := ⟨_, rfl⟩
    have l18 : V7.2.1 100 18 = nI ln := by rw [hln]; exact hTD.i18
    rw [← hln] at hRS
    have hlb : 1 ≤ ln ∧ ln ≤ 1024 ∧ i * W + ln ≤ T0 := by omega
    refine mw_go mu_g302 (k := 2) (f1 := (81, [(9, .inl (nI i)), (7, .inl (nI mt)), (5, .inl (nI (bq + min (i * W) T0 / M))), (8, .inl (nI (min (i * W) T0 % M))), (0, .inr (.inr (some 129))), (1, .inl nmk), (2, .inl tmk), (3, .inl (nI M)), (4, .inl (1 : Int32)), (6, .inl (nI TN))], [.inr (.inr (mu_r Q7 129 0))], Q7)) (C := [mu_is Q7 (some 129) 9]) rfl (show mu_is Q7 (some 129) 9 from (u7.1.1.is rfl)) ?_
    rw [(u7.1.1.r (p := 129) (j := 0) (q := 99) rfl)]
    refine mw_go mu_g302 (k := 1) (f1 := (84, [(9, .inl (nI i)), (7, .inl (nI mt)), (5, .inl (nI (bq + min (i * W) T0 / M))), (8, .inl (nI (min (i * W) T0 % M))), (0, .inr (.inr (some 129))), (1, .inl nmk), (2, .inl tmk), (3, .inl (nI M)), (4, .inl (1 : Int32)), (6, .inl (nI TN))], [.inr (.inr (mu_r Q7 99 1))], Q7)) (C := [mu_is Q7 (some 99) 13]) rfl (show mu_is Q7 (some 99) 13 from (u7.1.1.is rfl)) ?_
    rw [(u7.1.1.r (p := 99) (j := 1) (q := 100) rfl)]
    refine mw_cA (fun _ => rfl) (show mu_is Q7 (some 100) 5 from (u7.1.1.is rfl)) (mc_results2 (d := (d + 3)) (C := C) u7 d7 hRS tp1) (fun x8 Q8 q8 => ?_)
    obtain ⟨rfl, u8, r8, z8, hres⟩ := q8
    have ht8 : ur m C H Q8 := ht7.trans r8
    obtain ⟨V8, d8⟩ : ∃ V, ud m Q8 = V := ⟨_, rfl⟩
    rw [d8] at z8 hres
    have qf8 : uq F302 U V8 := qf7.tr z8 rfl
    have hres2 : ∀ k, k < ln → (V8.2.2.1 100 9).2 k = nI (if TQ Y U f mk od i0 a0 N0 M ((i * W + k) / M) ((i * W + k) % M) = true then 1 else 0) := fun k hk => by rw [hres k hk, vlz_same (U := U) (V := Va) hA15 hA98, vlz_same (U := U) (V := Va) hA15 hA98]; exact TQ_val (trz_01 hK hr0 hs0 hal hst) rfl
    refine mw_go mu_g302 (k := 3) (f1 := (92, [(11, .inl (0 : Int32)), (10, .inr (.inr (some 107))), (9, .inl (nI i)), (7, .inl (nI mt)), (5, .inl (nI (bq + min (i * W) T0 / M))), (8, .inl (nI (min (i * W) T0 % M))), (0, .inr (.inr (some 129))), (1, .inl nmk), (2, .inl tmk), (3, .inl (nI M)), (4, .inl (1 : Int32)), (6, .inl (nI TN))], [], Q8)) (C := []) rfl trivial ?_
    rw [show min (i * W) T0 = i * W + 0 by omega]
    show mu_W _ _ (92, [(11, .inl (nI 0)), (10, .inr (.inr (some 107))), (9, .inl (nI i)), (7, .inl (nI mt)), (5, .inl (nI (bq + (i * W + 0) / M))), (8, .inl (nI ((i * W + 0) % M))), (0, .inr (.inr (some 129))), (1, .inl nmk), (2, .inl tmk), (3, .inl (nI M)), (4, .inl (1 : Int32)), (6, .inl (nI TN))], [], Q8) _
    refine mw_sub (L' := [(11, .inl (nI 0)), (7, .inl (nI mt)), (5, .inl (nI (bq + (i * W + 0) / M))), (8, .inl (nI ((i * W + 0) % M))), (0, .inr (.inr (some 129))), (1, .inl nmk), (2, .inl tmk), (3, .inl (nI M)), (4, .inl (1 : Int32)), (6, .inl (nI TN)), (9, .inl (nI i)), (10, .inr (.inr (some 107)))]) (by simp) ?_
    refine mw_down (α := Nat × Nat × mu_H) (fun zs => (92, [(11, .inl (nI zs.1)), (7, .inl (nI zs.2.1)), (5, .inl (nI (bq + (i * W + zs.1) / M))), (8, .inl (nI ((i * W + zs.1) % M))), (0, .inr (.inr (some 129))), (1, .inl nmk), (2, .inl tmk), (3, .inl (nI M)), (4, .inl (1 : Int32)), (6, .inl (nI TN)), (9, .inl (nI i)), (10, .inr (.inr (some 107)))], [], zs.2.2)) (fun zs => ln - zs.1) (fun zs => um m zs.2.2 ∧ ur m C H zs.2.2 ∧ (uq F302b V8 (ud m zs.2.2)) ∧ (zs.1 ≤ ln) ∧ (TBX U (ud m zs.2.2) N us S z p ((M + 63) / 64) bq ((i * W + zs.1) / M) (fun c x => S (oq c) x = true ∧ x < M ∧ trz Y U f mk od i0 a0 N0 (c * M + x) = 1)) ∧ (∃ n, (ud m zs.2.2).2.1 129 11 = nI n ∧ LSO (ud m zs.2.2) n ((i * W + zs.1) % M) (fun x => TQ Y U f mk od i0 a0 N0 M ((i * W + zs.1) / M) x = true)) ∧ (zs.2.1 ≤ 16384)) (fun zs hzb ihb => ?_) (0, mt, Q8) ⟨u8, ht8, (show uq F302b V8 (ud m Q8) from by rw [d8]; exact uq.refl _ _), (show 0 ≤ ln from (by omega)), (show TBX U (ud m Q8) N us S z p ((M + 63) / 64) bq ((i * W + 0) / M) (fun c x => S (oq c) x = true ∧ x < M ∧ trz Y U f mk od i0 a0 N0 (c * M + x) = 1) from by rw [d8]; exact (by rw [show i * W + 0 = min (i * W) T0 by omega]; exact hTBa.eq (show (V8.2.1 113 1) = (Va.2.1 113 1) from ((z8.i 113 1 rfl).trans (z7.i 113 1 rfl))) (show (V8.2.1 113 2) = (Va.2.1 113 2) from ((z8.i 113 2 rfl).trans (z7.i 113 2 rfl))) (show (V8.2.1 113 5) = (Va.2.1 113 5) from ((z8.i 113 5 rfl).trans (z7.i 113 5 rfl))) (show (V8.2.2.1 113 3) = (Va.2.2.1 113 3) from ((z8.a 113 3 rfl).trans (z7.a 113 3 rfl))) (show (V8.2.2.1 113 4) = (Va.2.2.1 113 4) from ((z8.a 113 4 rfl).trans (z7.a 113 4 rfl))) (show (V8.2.2.1 129 4) = (Va.2.2.1 129 4) from ((z8.a 129 4 rfl).trans (z7.a 129 4 rfl))) ((z8.2.2.2.2.2 rfl).trans (z7.2.2.2.2.2 rfl)))), (show ∃ n, (ud m Q8).2.1 129 11 = nI n ∧ LSO (ud m Q8) n ((i * W + 0) % M) (fun x => TQ Y U f mk od i0 a0 N0 M ((i * W + 0) / M) x = true) from by rw [d8]; exact (by rw [show i * W + 0 = min (i * W) T0 by omega]; exact ⟨tda, (show (V8.2.1 129 11) = nI tda from ((z8.i 129 11 rfl).trans ((z7.i 129 11 rfl).trans l11a))), LSO.eq hLPa (show (V8.2.2.1 129 10) = (Va.2.2.1 129 10) from ((z8.a 129 10 rfl).trans (z7.a 129 10 rfl)))⟩)), (show mt ≤ 16384 from (by omega))⟩
    obtain ⟨lane, mu, Hsb⟩ := zs
    obtain ⟨ub, htb, db, hlane, hTBb, hLPb, hmu⟩ := hzb
    have ub : um m Hsb := ub
    have htb : ur m C H Hsb := htb
    have zzb : uq F302b V8 (ud m Hsb) := db
    have hlane : lane ≤ ln := hlane
    have hTBb : TBX U (ud m Hsb) N us S z p ((M + 63) / 64) bq ((i * W + lane) / M) (fun c x => S (oq c) x = true ∧ x < M ∧ trz Y U f mk od i0 a0 N0 (c * M + x) = 1) := hTBb
    have hLPb : ∃ n, (ud m Hsb).2.1 129 11 = nI n ∧ LSO (ud m Hsb) n ((i * W + lane) % M) (fun x => TQ Y U f mk od i0 a0 N0 M ((i * W + lane) / M) x = true) := hLPb
    have hmu : mu ≤ 16384 := hmu
    obtain ⟨Vb, db⟩ : ∃ V, ud m Hsb = V := ⟨_, rfl⟩
    rw [db] at zzb hTBb hLPb
    have qfb : uq F302 U Vb := qf8.tr zzb rfl
    show mu_W _ _ (92, [(11, .inl (nI lane)), (7, .inl (nI mu)), (5, .inl (nI (bq + (i * W + lane) / M))), (8, .inl (nI ((i * W + lane) % M))), (0, .inr (.inr (some 129))), (1, .inl nmk), (2, .inl tmk), (3, .inl (nI M)), (4, .inl (1 : Int32)), (6, .inl (nI TN)), (9, .inl (nI i)), (10, .inr (.inr (some 107)))], [], Hsb) _
    obtain ⟨tq, l11b, hLPb⟩ := hLPb
    have htq := hLPb.le
    refine mw_go mu_g302 (k := 3) (f1 := (98, [(11, .inl (nI lane)), (7, .inl (nI mu)), (5, .inl (nI (bq + (i * W + lane) / M))), (8, .inl (nI ((i * W + lane) % M))), (0, .inr (.inr (some 129))), (1, .inl nmk), (2, .inl tmk), (3, .inl (nI M)), (4, .inl (1 : Int32)), (6, .inl (nI TN)), (9, .inl (nI i)), (10, .inr (.inr (some 107)))], [.inr (.inr (mu_r Hsb 129 0)), .inl (nI lane)], Hsb)) (C := [mu_is Hsb (some 129) 9]) rfl (show mu_is Hsb (some 129) 9 from (ub.1.1.is rfl)) ?_
    rw [(ub.1.1.r (p := 129) (j := 0) (q := 99) rfl)]
    refine mw_go mu_g302 (k := 1) (f1 := (101, [(11, .inl (nI lane)), (7, .inl (nI mu)), (5, .inl (nI (bq + (i * W + lane) / M))), (8, .inl (nI ((i * W + lane) % M))), (0, .inr (.inr (some 129))), (1, .inl nmk), (2, .inl tmk), (3, .inl (nI M)), (4, .inl (1 : Int32)), (6, .inl (nI TN)), (9, .inl (nI i)), (10, .inr (.inr (some 107)))], [.inr (.inr (mu_r Hsb 99 1)), .inl (nI lane)], Hsb)) (C := [mu_is Hsb (some 99) 13]) rfl (show mu_is Hsb (some 99) 13 from (ub.1.1.is rfl)) ?_
    rw [(ub.1.1.r (p := 99) (j := 1) (q := 100) rfl)]
    refine mw_go mu_g302 (k := 1) (f1 := (104, [(11, .inl (nI lane)), (7, .inl (nI mu)), (5, .inl (nI (bq + (i * W + lane) / M))), (8, .inl (nI ((i * W + lane) % M))), (0, .inr (.inr (some 129))), (1, .inl nmk), (2, .inl tmk), (3, .inl (nI M)), (4, .inl (1 : Int32)), (6, .inl (nI TN)), (9, .inl (nI i)), (10, .inr (.inr (some 107)))], [.inl (mu_i Hsb 100 18), .inl (nI lane)], Hsb)) (C := [mu_is Hsb (some 100) 5]) rfl (show mu_is Hsb (some 100) 5 from (ub.1.1.is rfl)) ?_
    rw [(show mu_i Hsb 100 18 = (nI ln) from (ud_i (U := Vb) (m := m) (P := 100) (j := 18) db rfl).trans ((zzb.i 100 18 rfl).trans ((z8.i 100 18 rfl).trans l18)))]
    refine mw_if (P := (nI lane) < (nI ln)) (a := 107) (b := 177) (fun _ => rfl) trivial (fun h9 => ?_) (fun h9 => ?_)
    · -- 107: (nI lane) < (nI ln)
      have nh9 : lane < ln := (nI_ltI (by omega) (by omega)).mp (show nI lane < nI ln from h9)
      have hnT : i * W + lane < T0 := by omega
      have hxM := Nat.mod_lt (i * W + lane) hM0
      have hqn0 : (i * W + lane) / M < pm nmk f P := by rw [Nat.div_lt_iff_lt_mul (by omega), Nat.mul_comm (pm nmk f P) M, ← hTw]; exact hnT
      refine mw_go mu_g302 (k := 2) (f1 := (111, [(11, .inl (nI lane)), (7, .inl (nI mu)), (5, .inl (nI (bq + (i * W + lane) / M))), (8, .inl (nI ((i * W + lane) % M))), (0, .inr (.inr (some 129))), (1, .inl nmk), (2, .inl tmk), (3, .inl (nI M)), (4, .inl (1 : Int32)), (6, .inl (nI TN)), (9, .inl (nI i)), (10, .inr (.inr (some 107)))], [.inr (.inr (mu_r Hsb 129 10))], Hsb)) (C := [mu_is Hsb (some 129) 9]) rfl (show mu_is Hsb (some 129) 9 from (ub.1.1.is rfl)) ?_
      rw [(show mu_r Hsb 129 10 = (U.2.2.2.1 129 10) from (ud_q (U := Vb) (m := m) (P := 129) (j := 10) db rfl).trans ((zzb.r 129 10 rfl).trans ((z8.r 129 10 rfl).trans ((z7.r 129 10 rfl).trans ((zza.r 129 10 rfl).trans (z4.r 129 10 rfl))))))]
      refine mw_go mu_g302 (k := 2) (f1 := (115, [(11, .inl (nI lane)), (7, .inl (nI mu)), (5, .inl (nI (bq + (i * W + lane) / M))), (8, .inl (nI ((i * W + lane) % M))), (0, .inr (.inr (some 129))), (1, .inl nmk), (2, .inl tmk), (3, .inl (nI M)), (4, .inl (1 : Int32)), (6, .inl (nI TN)), (9, .inl (nI i)), (10, .inr (.inr (some 107)))], [.inl (mu_i Hsb 129 11), .inr (.inr (U.2.2.2.1 129 10))], Hsb)) (C := [mu_is Hsb (some 129) 9]) rfl (show mu_is Hsb (some 129) 9 from (ub.1.1.is rfl)) ?_
      rw [(show mu_i Hsb 129 11 = (nI tq) from (ud_i (U := Vb) (m := m) (P := 129) (j := 11) db rfl).trans l11b)]
      refine mw_go mu_g302 (k := 2) (f1 := (118, [(11, .inl (nI lane)), (7, .inl (nI mu)), (5, .inl (nI (bq + (i * W + lane) / M))), (8, .inl (nI ((i * W + lane) % M))), (0, .inr (.inr (some 129))), (1, .inl nmk), (2, .inl tmk), (3, .inl (nI M)), (4, .inl (1 : Int32)), (6, .inl (nI TN)), (9, .inl (nI i)), (10, .inr (.inr (some 107)))], [], (mu_si Hsb (mu_p (U.2.2.2.1 129 10)) (nI tq).toNatClampNeg (nI ((i * W + lane) % M))))) (C := [mu_is Hsb (U.2.2.2.1 129 10) 100, vp_in (nI tq) (mu_n Hsb (mu_p (U.2.2.2.1 129 10)))]) rfl (show (mu_is Hsb (U.2.2.2.1 129 10) 100) ∧ (vp_in (nI tq) (mu_n Hsb (mu_p (U.2.2.2.1 129 10)))) from ⟨(ub.iA db rfl rfl (show Vb.2.2.2.1 129 10 = (U.2.2.2.1 129 10) from ((zzb.r 129 10 rfl).trans ((z8.r 129 10 rfl).trans ((z7.r 129 10 rfl).trans ((zza.r 129 10 rfl).trans (z4.r 129 10 rfl))))))), (ub.vA (i := tq) db rfl rfl (show Vb.2.2.2.1 129 10 = (U.2.2.2.1 129 10) from ((zzb.r 129 10 rfl).trans ((z8.r 129 10 rfl).trans ((z7.r 129 10 rfl).trans ((zza.r 129 10 rfl).trans (z4.r 129 10 rfl)))))) (show (Vb.2.2.1 129 10).1 = (U.2.2.1 129 10).1 from ((zzb.n 129 10 rfl).trans ((z8.n 129 10 rfl).trans ((z7.n 129 10 rfl).trans ((zza.n 129 10 rfl).trans (z4.n 129 10 rfl)))))) (by omega) (by omega))⟩) ?_
      rw [(show (nI tq).toNatClampNeg = tq from nI_clamp (by omega))]
      obtain ⟨u10, r10, d10⟩ : um m (mu_si Hsb (mu_p (U.2.2.2.1 129 10)) tq (nI ((i * W + lane) % M))) ∧ ur m C Hsb (mu_si Hsb (mu_p (U.2.2.2.1 129 10)) tq (nI ((i * W + lane) % M))) ∧ ud m (mu_si Hsb (mu_p (U.2.2.2.1 129 10)) tq (nI ((i * W + lane) % M))) = (upA Vb 129 10 tq (nI ((i * W + lane) % M))) := ub.sA (C := C) db rfl rfl (show Vb.2.2.2.1 129 10 = (U.2.2.2.1 129 10) from ((zzb.r 129 10 rfl).trans ((z8.r 129 10 rfl).trans ((z7.r 129 10 rfl).trans ((zza.r 129 10 rfl).trans (z4.r 129 10 rfl))))))
      generalize (mu_si Hsb (mu_p (U.2.2.2.1 129 10)) tq (nI ((i * W + lane) % M))) = Q10 at u10 r10 d10 ⊢
      have qf10 : uq F302 U (upA Vb 129 10 tq (nI ((i * W + lane) % M))) := qfb.A rfl
      have ht10 : ur m C H Q10 := htb.trans r10
      refine mw_go mu_g302 (k := 3) (f1 := (123, [(11, .inl (nI lane)), (7, .inl (nI mu)), (5, .inl (nI (bq + (i * W + lane) / M))), (8, .inl (nI ((i * W + lane) % M))), (0, .inr (.inr (some 129))), (1, .inl nmk), (2, .inl tmk), (3, .inl (nI M)), (4, .inl (1 : Int32)), (6, .inl (nI TN)), (9, .inl (nI i)), (10, .inr (.inr (some 107)))], [.inl (mu_i Q10 129 11), .inr (.inr (some 129))], Q10)) (C := [mu_is Q10 (some 129) 9]) rfl (show mu_is Q10 (some 129) 9 from (u10.1.1.is rfl)) ?_
      rw [(show mu_i Q10 129 11 = (nI tq) from (ud_i (U := (upA Vb 129 10 tq (nI ((i * W + lane) % M)))) (m := m) (P := 129) (j := 11) d10 rfl).trans l11b)]
      refine mw_go mu_g302 (k := 3) (f1 := (128, [(11, .inl (nI lane)), (7, .inl (nI mu)), (5, .inl (nI (bq + (i * W + lane) / M))), (8, .inl (nI ((i * W + lane) % M))), (0, .inr (.inr (some 129))), (1, .inl nmk), (2, .inl tmk), (3, .inl (nI M)), (4, .inl (1 : Int32)), (6, .inl (nI TN)), (9, .inl (nI i)), (10, .inr (.inr (some 107)))], [.inl (mu_i Q10 107 (nI lane).toNatClampNeg), .inl (nI tq), .inr (.inr (some 129))], Q10)) (C := [mu_isr Q10 (some 107) 100, vp_in (nI lane) (mu_n Q10 107)]) rfl (show (mu_isr Q10 (some 107) 100) ∧ (vp_in (nI lane) (mu_n Q10 107)) from ⟨((u10.iA d10 rfl rfl ((ud_q (m := m) (P := 100) (j := 9) d10 rfl).symm.trans (u10.1.1.r (p := 100) (j := 9) (q := 107) rfl)))).r, (by rw [show mu_n Q10 107 = 1024 from (u10.1.1.a (p := 107) (x := (100, 1024)) rfl).2]; exact vp_in_nI (n := lane) (by omega) (by decide))⟩) ?_
      rw [(show (mu_i Q10 107 (nI lane).toNatClampNeg) = (nI (if TQ Y U f mk od i0 a0 N0 M ((i * W + lane) / M) ((i * W + lane) % M) = true then 1 else 0)) from ((congrArg (mu_i Q10 107) (show (nI lane).toNatClampNeg = lane from nI_clamp (by omega))).trans (u10.gA d10 rfl rfl ((ud_q (m := m) (P := 100) (j := 9) d10 rfl).symm.trans (u10.1.1.r (p := 100) (j := 9) (q := 107) rfl)))).trans ((congrArg (fun z => z.2 lane) (show (upA Vb 129 10 tq (nI ((i * W + lane) % M))).2.2.1 100 9 = (V8.2.2.1 100 9) from (zzb.a 100 9 rfl))).trans (hres2 lane (by omega))))]
      refine mw_go mu_g302 (k := 1) (f1 := (129, [(11, .inl (nI lane)), (7, .inl (nI mu)), (5, .inl (nI (bq + (i * W + lane) / M))), (8, .inl (nI ((i * W + lane) % M))), (0, .inr (.inr (some 129))), (1, .inl nmk), (2, .inl tmk), (3, .inl (nI M)), (4, .inl (1 : Int32)), (6, .inl (nI TN)), (9, .inl (nI i)), (10, .inr (.inr (some 107)))], [.inl ((nI tq) + (nI (if TQ Y U f mk od i0 a0 N0 M ((i * W + lane) / M) ((i * W + lane) % M) = true then 1 else 0))), .inr (.inr (some 129))], Q10)) (C := []) rfl trivial ?_
      rw [(show ((nI tq) + (nI (if TQ Y U f mk od i0 a0 N0 M ((i * W + lane) / M) ((i * W + lane) % M) = true then 1 else 0))) = (nI (tq + (if TQ Y U f mk od i0 a0 N0 M ((i * W + lane) / M) ((i * W + lane) % M) = true then 1 else 0))) from (nI_add tq (if TQ Y U f mk od i0 a0 N0 M ((i * W + lane) / M) ((i * W + lane) % M) = true then 1 else 0)))]
      refine mw_go mu_g302 (k := 1) (f1 := (132, [(11, .inl (nI lane)), (7, .inl (nI mu)), (5, .inl (nI (bq + (i * W + lane) / M))), (8, .inl (nI ((i * W + lane) % M))), (0, .inr (.inr (some 129))), (1, .inl nmk), (2, .inl tmk), (3, .inl (nI M)), (4, .inl (1 : Int32)), (6, .inl (nI TN)), (9, .inl (nI i)), (10, .inr (.inr (some 107)))], [], (mu_si Q10 129 11 (nI (tq + (if TQ Y U f mk od i0 a0 N0 M ((i * W + lane) / M) ((i * W + lane) % M) = true then 1 else 0)))))) (C := [mu_is Q10 (some 129) 9]) rfl (show mu_is Q10 (some 129) 9 from (u10.1.1.is rfl)) ?_
      obtain ⟨u11, r11, d11⟩ : um m (mu_si Q10 129 11 (nI (tq + (if TQ Y U f mk od i0 a0 N0 M ((i * W + lane) / M) ((i * W + lane) % M) = true then 1 else 0)))) ∧ ur m C Q10 (mu_si Q10 129 11 (nI (tq + (if TQ Y U f mk od i0 a0 N0 M ((i * W + lane) / M) ((i * W + lane) % M) = true then 1 else 0)))) ∧ ud m (mu_si Q10 129 11 (nI (tq + (if TQ Y U f mk od i0 a0 N0 M ((i * W + lane) / M) ((i * W + lane) % M) = true then 1 else 0)))) = (upI (upA Vb 129 10 tq (nI ((i * W + lane) % M))) 129 11 (nI (tq + (if TQ Y U f mk od i0 a0 N0 M ((i * W + lane) / M) ((i * W + lane) % M) = true then 1 else 0)))) := u10.sI (C := C) d10 rfl
      generalize (mu_si Q10 129 11 (nI (tq + (if TQ Y U f mk od i0 a0 N0 M ((i * W + lane) / M) ((i * W + lane) % M) = true then 1 else 0)))) = Q11 at u11 r11 d11 ⊢
      have qf11 : uq F302 U (upI (upA Vb 129 10 tq (nI ((i * W + lane) % M))) 129 11 (nI (tq + (if TQ Y U f mk od i0 a0 N0 M ((i * W + lane) / M) ((i * W + lane) % M) = true then 1 else 0)))) := qf10.I rfl
      have ht11 : ur m C H Q11 := ht10.trans r11
      have hLP1 : LSO (upI (upA Vb 129 10 tq (nI ((i * W + lane) % M))) 129 11 (nI (tq + (if TQ Y U f mk od i0 a0 N0 M ((i * W + lane) / M) ((i * W + lane) % M) = true then 1 else 0)))) (tq + if TQ Y U f mk od i0 a0 N0 M ((i * W + lane) / M) ((i * W + lane) % M) = true then 1 else 0) ((i * W + lane) % M + 1) (fun x => TQ Y U f mk od i0 a0 N0 M ((i * W + lane) / M) x = true) := LSO.eq (U := upA Vb 129 10 tq (nI ((i * W + lane) % M))) (LSO.bool (qq := TQ Y U f mk od i0 a0 N0 M ((i * W + lane) / M)) hLPb) rfl
      refine mw_go mu_g302 (k := 1) (f1 := (135, [(8, .inl ((nI ((i * W + lane) % M)) + 1)), (11, .inl (nI lane)), (7, .inl (nI mu)), (5, .inl (nI (bq + (i * W + lane) / M))), (0, .inr (.inr (some 129))), (1, .inl nmk), (2, .inl tmk), (3, .inl (nI M)), (4, .inl (1 : Int32)), (6, .inl (nI TN)), (9, .inl (nI i)), (10, .inr (.inr (some 107)))], [], Q11)) (C := []) rfl trivial ?_
      rw [(show ((nI ((i * W + lane) % M)) + 1) = (nI (((i * W + lane) % M) + 1)) from (nI_add ((i * W + lane) % M) 1))]
      refine mw_go mu_g302 (k := 2) (f1 := (138, [(8, .inl (nI (((i * W + lane) % M) + 1))), (11, .inl (nI lane)), (7, .inl (nI mu)), (5, .inl (nI (bq + (i * W + lane) / M))), (0, .inr (.inr (some 129))), (1, .inl nmk), (2, .inl tmk), (3, .inl (nI M)), (4, .inl (1 : Int32)), (6, .inl (nI TN)), (9, .inl (nI i)), (10, .inr (.inr (some 107)))], [.inl (nI M), .inl (nI (((i * W + lane) % M) + 1))], Q11)) (C := []) rfl trivial ?_
      refine mw_if (P := (nI (((i * W + lane) % M) + 1)) = (nI M)) (a := 141) (b := 171) (fun _ => rfl) trivial (fun h12 => ?_) (fun h12 => ?_)
      · -- 141: (nI (((i * W + lane) % M) + 1)) = (nI M)
        have nh12 : (((i * W + lane) % M) + 1) = M := (nI_eq (by omega) (by omega)).mp (show nI (((i * W + lane) % M) + 1) = nI M from h12)
        have nhM : (i * W + lane) % M + 1 = M := nh12
        obtain ⟨hq1, hq2⟩ := dm_last hM0 nhM
        rw [Nat.add_assoc] at hq1 hq2
        refine mw_go mu_g302 (k := 3) (f1 := (146, [(8, .inl (nI (((i * W + lane) % M) + 1))), (11, .inl (nI lane)), (7, .inl (nI mu)), (5, .inl (nI (bq + (i * W + lane) / M))), (0, .inr (.inr (some 129))), (1, .inl nmk), (2, .inl tmk), (3, .inl (nI M)), (4, .inl (1 : Int32)), (6, .inl (nI TN)), (9, .inl (nI i)), (10, .inr (.inr (some 107)))], [.inl (1 : Int32), .inl (nI (bq + (i * W + lane) / M)), .inr (.inr (some 129))], Q11)) (C := []) rfl trivial ?_
        obtain ⟨hTp, hTo, N1, us1, S1, z1, p1, oid, hSk, hNb, hNS, hUb, hcl⟩ := hTBb
        have hSv : SOK (upI (upA Vb 129 10 tq (nI ((i * W + lane) % M))) 129 11 (nI (tq + (if TQ Y U f mk od i0 a0 N0 M ((i * W + lane) / M) ((i * W + lane) % M) = true then 1 else 0)))) N1 us1 S1 z1 p1 := hSk.eq (show ((upI (upA Vb 129 10 tq (nI ((i * W + lane) % M))) 129 11 (nI (tq + (if TQ Y U f mk od i0 a0 N0 M ((i * W + lane) / M) ((i * W + lane) % M) = true then 1 else 0)))).2.1 113 1) = (Vb.2.1 113 1) from rfl) (show ((upI (upA Vb 129 10 tq (nI ((i * W + lane) % M))) 129 11 (nI (tq + (if TQ Y U f mk od i0 a0 N0 M ((i * W + lane) / M) ((i * W + lane) % M) = true then 1 else 0)))).2.1 113 2) = (Vb.2.1 113 2) from rfl) (show ((upI (upA Vb 129 10 tq (nI ((i * W + lane) % M))) 129 11 (nI (tq + (if TQ Y U f mk od i0 a0 N0 M ((i * W + lane) / M) ((i * W + lane) % M) = true then 1 else 0)))).2.1 113 5) = (Vb.2.1 113 5) from rfl) (show ((upI (upA Vb 129 10 tq (nI ((i * W + lane) % M))) 129 11 (nI (tq + (if TQ Y U f mk od i0 a0 N0 M ((i * W + lane) / M) ((i * W + lane) % M) = true then 1 else 0)))).2.2.1 113 3) = (Vb.2.2.1 113 3) from rfl) (show ((upI (upA Vb 129 10 tq (nI ((i * W + lane) % M))) 129 11 (nI (tq + (if TQ Y U f mk od i0 a0 N0 M ((i * W + lane) / M) ((i * W + lane) % M) = true then 1 else 0)))).2.2.1 113 4) = (Vb.2.2.1 113 4) from rfl) (congrFun rfl 114)
        have hn10 : ((upI (upA Vb 129 10 tq (nI ((i * W + lane) % M))) 129 11 (nI (tq + (if TQ Y U f mk od i0 a0 N0 M ((i * W + lane) / M) ((i * W + lane) % M) = true then 1 else 0)))).2.2.1 129 10).1 = (U.2.2.1 129 10).1 := ((zzb.n 129 10 rfl).trans ((z8.n 129 10 rfl).trans ((z7.n 129 10 rfl).trans ((zza.n 129 10 rfl).trans (z4.n 129 10 rfl)))))
        have hn4 : ((upI (upA Vb 129 10 tq (nI ((i * W + lane) % M))) 129 11 (nI (tq + (if TQ Y U f mk od i0 a0 N0 M ((i * W + lane) / M) ((i * W + lane) % M) = true then 1 else 0)))).2.2.1 129 4).1 = (U.2.2.1 129 4).1 := ((zzb.n 129 4 rfl).trans ((z8.n 129 4 rfl).trans ((z7.n 129 4 rfl).trans ((zza.n 129 4 rfl).trans (z4.n 129 4 rfl)))))
        have hqn : (i * W + lane) / M < pm nmk f P := by rw [Nat.div_lt_iff_lt_mul (by omega), Nat.mul_comm (pm nmk f P) M, ← hTw]; exact hnT
        have hcost : (i * W + lane) / M * (((M + 63) / 64) + 1) ≤ pm nmk f P * (((M + 63) / 64) + 1) := Nat.mul_le_mul_right _ (by omega)
        have hub1 := hSk.1.2.1
        obtain ⟨nn, hnn⟩ : ∃ nn, nn = (tq + if TQ Y U f mk od i0 a0 N0 M ((i * W + lane) / M) ((i * W + lane) % M) = true then 1 else 0) := ⟨_, rfl⟩
        have l11 : ((upI (upA Vb 129 10 tq (nI ((i * W + lane) % M))) 129 11 (nI (tq + (if TQ Y U f mk od i0 a0 N0 M ((i * W + lane) / M) ((i * W + lane) % M) = true then 1 else 0)))).2.1 129 11) = nI nn := by rw [hnn]; exact rfl
        have hnM : nn ≤ M := by rw [hnn]; exact Nat.le_trans hLP1.le (Nat.le_of_eq nhM)
        obtain ⟨ls, hls, hlr, hlm⟩ := hLP1
        rw [← hnn] at hls hlr hlm
        have hlt : ∀ i, i < nn → ls i < M := fun i hi => by have y := ((hlm (ls i)).mp (lmz_in hi)).1; omega
        have hlb2 : ∀ i, i < nn → ls i < 16384 := fun i hi => by have y := hlt i hi; omega
        have hlf : ∀ x, lmz ls nn x = true ↔ x < M ∧ trz Y U f mk od i0 a0 N0 ((i * W + lane) / M * M + x) = 1 := fun x => by rw [hlm x, nhM]; exact and_congr_right (fun _ => decide_eq_true_iff)
        obtain ⟨hq3, hq4, hq5⟩ := hold ((i * W + lane) / M) (by omega)
        have hc4 : ((upI (upA Vb 129 10 tq (nI ((i * W + lane) % M))) 129 11 (nI (tq + (if TQ Y U f mk od i0 a0 N0 M ((i * W + lane) / M) ((i * W + lane) % M) = true then 1 else 0)))).2.2.1 129 4).2 (bq + (i * W + lane) / M) = nI (oq ((i * W + lane) / M)) := by rw [(show ((upI (upA Vb 129 10 tq (nI ((i * W + lane) % M))) 129 11 (nI (tq + (if TQ Y U f mk od i0 a0 N0 M ((i * W + lane) / M) ((i * W + lane) % M) = true then 1 else 0)))).2.2.1 129 4) = (Vb.2.2.1 129 4) from rfl), hTo _ (by omega)]; exact hq3
        refine mw_cV (fun _ => rfl) (show mu_is Q11 (some 129) 9 from (u11.1.1.is rfl)) (rl_write1 (d := (d + 2)) (C := C) (n := nn) (ls := ls) (c := bq + (i * W + lane) / M) u11 d11 l11 hls (by rw [hn10]; omega) (by rw [hn10]; omega) hlb2 hlr hSv (by omega) (by rw [hn4]; omega) (by rw [hn4]; omega) hc4 (by omega) ((hNS _ hq4).2.2.trans hq5)) (fun Q13 q13 => ?_)
        obtain ⟨u13, r13, z13, id, lw, gg, W2, W3, hqw, hw11, hgg, hgr, hgm, hAD, hdw⟩ := q13
        have ht13 : ur m C H Q13 := ht11.trans r13
        obtain ⟨V13, d13⟩ : ∃ V, ud m Q13 = V := ⟨_, rfl⟩
        rw [d13] at z13 hdw
        have qf13 : uq F302 U V13 := qf11.tr z13 rfl
        have hlw : V13.2.1 129 11 = nI lw := by rw [hdw]; exact (show W3.2.1 129 11 = W2.2.1 129 11 from hAD.1.i 129 11 rfl).trans hw11
        have hglt : ∀ j, j < lw → gg j < M := fun j hj => by obtain ⟨q, q1, q2⟩ := (lmz_iff nn).mp ((hgm (gg j)).mp (lmz_in hj)).1; rw [← q2]; exact hlt q q1
        have hgn : lw ≤ nn := by exact sub_le hgr hlr (fun j hj => (lmz_iff nn).mp ((hgm (gg j)).mp (lmz_in hj)).1)
        refine mw_go mu_g302 (k := 3) (f1 := (155, [(8, .inl (nI (((i * W + lane) % M) + 1))), (11, .inl (nI lane)), (7, .inl (nI mu)), (5, .inl (nI (bq + (i * W + lane) / M))), (0, .inr (.inr (some 129))), (1, .inl nmk), (2, .inl tmk), (3, .inl (nI M)), (4, .inl (1 : Int32)), (6, .inl (nI TN)), (9, .inl (nI i)), (10, .inr (.inr (some 107)))], [.inl (mu_i Q13 129 11), .inl (nI mu)], Q13)) (C := [mu_is Q13 (some 129) 9]) rfl (show mu_is Q13 (some 129) 9 from (u13.1.1.is rfl)) ?_
        rw [(show mu_i Q13 129 11 = (nI lw) from (ud_i (U := V13) (m := m) (P := 129) (j := 11) d13 rfl).trans hlw)]
        refine mw_cIe (fun _ => rfl) trivial (mu_max_ok (d := (d + 6)) (nI mu) (nI lw)) ?_
        rw [show (mu_max (nI mu) (nI lw)) = nI (max mu lw) from mu_max_n (a := mu) (b := lw) (by omega) (by omega)]
        refine mw_go mu_g302 (k := 2) (f1 := (163, [(5, .inl ((nI (bq + (i * W + lane) / M)) + 1)), (7, .inl (nI (max mu lw))), (8, .inl (nI (((i * W + lane) % M) + 1))), (11, .inl (nI lane)), (0, .inr (.inr (some 129))), (1, .inl nmk), (2, .inl tmk), (3, .inl (nI M)), (4, .inl (1 : Int32)), (6, .inl (nI TN)), (9, .inl (nI i)), (10, .inr (.inr (some 107)))], [], Q13)) (C := []) rfl trivial ?_
        rw [(show ((nI (bq + (i * W + lane) / M)) + 1) = (nI ((bq + (i * W + lane) / M) + 1)) from (nI_add (bq + (i * W + lane) / M) 1))]
        refine mw_go mu_g302 (k := 3) (f1 := (168, [(5, .inl (nI ((bq + (i * W + lane) / M) + 1))), (7, .inl (nI (max mu lw))), (8, .inl (nI (((i * W + lane) % M) + 1))), (11, .inl (nI lane)), (0, .inr (.inr (some 129))), (1, .inl nmk), (2, .inl tmk), (3, .inl (nI M)), (4, .inl (1 : Int32)), (6, .inl (nI TN)), (9, .inl (nI i)), (10, .inr (.inr (some 107)))], [], (mu_si Q13 129 11 (0 : Int32)))) (C := [mu_is Q13 (some 129) 9]) rfl (show mu_is Q13 (some 129) 9 from (u13.1.1.is rfl)) ?_
        obtain ⟨u15, r15, d15⟩ : um m (mu_si Q13 129 11 (0 : Int32)) ∧ ur m C Q13 (mu_si Q13 129 11 (0 : Int32)) ∧ ud m (mu_si Q13 129 11 (0 : Int32)) = (upI V13 129 11 (0 : Int32)) := u13.sI (C := C) d13 rfl
        generalize (mu_si Q13 129 11 (0 : Int32)) = Q15 at u15 r15 d15 ⊢
        have qf15 : uq F302 U (upI V13 129 11 (0 : Int32)) := qf13.I rfl
        have ht15 : ur m C H Q15 := ht13.trans r15
        refine mw_go mu_g302 (k := 2) (f1 := (171, [(8, .inl (0 : Int32)), (5, .inl (nI ((bq + (i * W + lane) / M) + 1))), (7, .inl (nI (max mu lw))), (11, .inl (nI lane)), (0, .inr (.inr (some 129))), (1, .inl nmk), (2, .inl tmk), (3, .inl (nI M)), (4, .inl (1 : Int32)), (6, .inl (nI TN)), (9, .inl (nI i)), (10, .inr (.inr (some 107)))], [], Q15)) (C := []) rfl trivial ?_
        refine mw_go mu_g302 (k := 1) (f1 := (174, [(11, .inl ((nI lane) + 1)), (8, .inl (0 : Int32)), (5, .inl (nI ((bq + (i * W + lane) / M) + 1))), (7, .inl (nI (max mu lw))), (0, .inr (.inr (some 129))), (1, .inl nmk), (2, .inl tmk), (3, .inl (nI M)), (4, .inl (1 : Int32)), (6, .inl (nI TN)), (9, .inl (nI i)), (10, .inr (.inr (some 107)))], [], Q15)) (C := []) rfl trivial ?_
        rw [(show ((nI lane) + 1) = (nI (lane + 1)) from (nI_add lane 1))]
        refine mw_go mu_g302 (k := 1) (f1 := (92, [(11, .inl (nI (lane + 1))), (8, .inl (0 : Int32)), (5, .inl (nI ((bq + (i * W + lane) / M) + 1))), (7, .inl (nI (max mu lw))), (0, .inr (.inr (some 129))), (1, .inl nmk), (2, .inl tmk), (3, .inl (nI M)), (4, .inl (1 : Int32)), (6, .inl (nI TN)), (9, .inl (nI i)), (10, .inr (.inr (some 107)))], [], Q15)) (C := []) rfl trivial ?_
        refine mw_frU (show ((92, [(11, .inl (nI (lane + 1))), (8, .inl (0 : Int32)), (5, .inl (nI ((bq + (i * W + lane) / M) + 1))), (7, .inl (nI (max mu lw))), (0, .inr (.inr (some 129))), (1, .inl nmk), (2, .inl tmk), (3, .inl (nI M)), (4, .inl (1 : Int32)), (6, .inl (nI TN)), (9, .inl (nI i)), (10, .inr (.inr (some 107)))], [], Q15) : mu_F) = (92, [(11, .inl (nI (lane + 1))), (8, .inl (nI ((i * W + (lane + 1)) % M))), (5, .inl (nI (bq + (i * W + (lane + 1)) / M))), (7, .inl (nI (max mu lw))), (0, .inr (.inr (some 129))), (1, .inl nmk), (2, .inl tmk), (3, .inl (nI M)), (4, .inl (1 : Int32)), (6, .inl (nI TN)), (9, .inl (nI i)), (10, .inr (.inr (some 107)))], [], Q15) by rw [hq1, hq2]; try rfl) ?_
        exact mw_sub (by simp) (ihb (lane + 1, max mu lw, Q15) ⟨u15, ht15, (show uq F302b V8 (ud m Q15) from by rw [d15]; exact ((((zzb.A rfl).I rfl).tr z13 rfl).I rfl)), (show (lane + 1) ≤ ln from (by omega)), (show TBX U (ud m Q15) N us S z p ((M + 63) / 64) bq ((i * W + (lane + 1)) / M) (fun c x => S (oq c) x = true ∧ x < M ∧ trz Y U f mk od i0 a0 N0 (c * M + x) = 1) from by rw [d15]; exact (by rw [hq1, hdw]; exact TBX.step (ls := gg) (nn := lw) (id := id) (V1 := W2) hTp hTo hNb hNS hUb hcl ((hqw.2.2.2.2.2 rfl).trans rfl) ((hqw.a 129 4 rfl).trans (show ((upI (upA Vb 129 10 tq (nI ((i * W + lane) % M))) 129 11 (nI (tq + (if TQ Y U f mk od i0 a0 N0 M ((i * W + lane) / M) ((i * W + lane) % M) = true then 1 else 0)))).2.2.1 129 4) = (Vb.2.2.1 129 4) from rfl)) hAD (fun lz y1 y2 => by by_cases h0 : lw = 0; (omega); (have y3 := y2 (by omega); have y4 := hglt (lw - 1) (by omega); omega)) (by omega) (fun x => (hgm x).trans ⟨fun y => ⟨by have w := (hNS _ hq4).1; rw [← w]; exact y.2, (hlf x).mp y.1⟩, fun y => ⟨(hlf x).mpr y.2, by have w := (hNS _ hq4).1; rw [w]; exact y.1⟩⟩))), (show ∃ n, (ud m Q15).2.1 129 11 = nI n ∧ LSO (ud m Q15) n ((i * W + (lane + 1)) % M) (fun x => TQ Y U f mk od i0 a0 N0 M ((i * W + (lane + 1)) / M) x = true) from by rw [d15]; exact (by rw [hq2]; exact ⟨0, rfl, LSO.nil⟩)), (show (max mu lw) ≤ 16384 from (by omega))⟩ (by show ln - (lane + 1) < ln - lane; omega))
      · -- 171: not (nI (((i * W + lane) % M) + 1)) = (nI M)
        have nh12 : ¬ (((i * W + lane) % M) + 1) = M := fun z => h12 (show nI (((i * W + lane) % M) + 1) = nI M from (nI_eq (by omega) (by omega)).mpr z)
        obtain ⟨hq1, hq2⟩ := dm_more hM0 nh12
        rw [Nat.add_assoc] at hq1 hq2
        refine mw_go mu_g302 (k := 1) (f1 := (174, [(11, .inl ((nI lane) + 1)), (8, .inl (nI (((i * W + lane) % M) + 1))), (7, .inl (nI mu)), (5, .inl (nI (bq + (i * W + lane) / M))), (0, .inr (.inr (some 129))), (1, .inl nmk), (2, .inl tmk), (3, .inl (nI M)), (4, .inl (1 : Int32)), (6, .inl (nI TN)), (9, .inl (nI i)), (10, .inr (.inr (some 107)))], [], Q11)) (C := []) rfl trivial ?_
        rw [(show ((nI lane) + 1) = (nI (lane + 1)) from (nI_add lane 1))]
        refine mw_go mu_g302 (k := 1) (f1 := (92, [(11, .inl (nI (lane + 1))), (8, .inl (nI (((i * W + lane) % M) + 1))), (7, .inl (nI mu)), (5, .inl (nI (bq + (i * W + lane) / M))), (0, .inr (.inr (some 129))), (1, .inl nmk), (2, .inl tmk), (3, .inl (nI M)), (4, .inl (1 : Int32)), (6, .inl (nI TN)), (9, .inl (nI i)), (10, .inr (.inr (some 107)))], [], Q11)) (C := []) rfl trivial ?_
        refine mw_frU (show ((92, [(11, .inl (nI (lane + 1))), (8, .inl (nI (((i * W + lane) % M) + 1))), (7, .inl (nI mu)), (5, .inl (nI (bq + (i * W + lane) / M))), (0, .inr (.inr (some 129))), (1, .inl nmk), (2, .inl tmk), (3, .inl (nI M)), (4, .inl (1 : Int32)), (6, .inl (nI TN)), (9, .inl (nI i)), (10, .inr (.inr (some 107)))], [], Q11) : mu_F) = (92, [(11, .inl (nI (lane + 1))), (8, .inl (nI ((i * W + (lane + 1)) % M))), (7, .inl (nI mu)), (5, .inl (nI (bq + (i * W + (lane + 1)) / M))), (0, .inr (.inr (some 129))), (1, .inl nmk), (2, .inl tmk), (3, .inl (nI M)), (4, .inl (1 : Int32)), (6, .inl (nI TN)), (9, .inl (nI i)), (10, .inr (.inr (some 107)))], [], Q11) by rw [hq1, hq2]; try rfl) ?_
        exact mw_sub (by simp) (ihb (lane + 1, mu, Q11) ⟨u11, ht11, (show uq F302b V8 (ud m Q11) from by rw [d11]; exact ((zzb.A rfl).I rfl)), (show (lane + 1) ≤ ln from (by omega)), (show TBX U (ud m Q11) N us S z p ((M + 63) / 64) bq ((i * W + (lane + 1)) / M) (fun c x => S (oq c) x = true ∧ x < M ∧ trz Y U f mk od i0 a0 N0 (c * M + x) = 1) from by rw [d11]; exact (by rw [hq1]; exact hTBb.eq (show ((upI (upA Vb 129 10 tq (nI ((i * W + lane) % M))) 129 11 (nI (tq + (if TQ Y U f mk od i0 a0 N0 M ((i * W + lane) / M) ((i * W + lane) % M) = true then 1 else 0)))).2.1 113 1) = (Vb.2.1 113 1) from rfl) (show ((upI (upA Vb 129 10 tq (nI ((i * W + lane) % M))) 129 11 (nI (tq + (if TQ Y U f mk od i0 a0 N0 M ((i * W + lane) / M) ((i * W + lane) % M) = true then 1 else 0)))).2.1 113 2) = (Vb.2.1 113 2) from rfl) (show ((upI (upA Vb 129 10 tq (nI ((i * W + lane) % M))) 129 11 (nI (tq + (if TQ Y U f mk od i0 a0 N0 M ((i * W + lane) / M) ((i * W + lane) % M) = true then 1 else 0)))).2.1 113 5) = (Vb.2.1 113 5) from rfl) (show ((upI (upA Vb 129 10 tq (nI ((i * W + lane) % M))) 129 11 (nI (tq + (if TQ Y U f mk od i0 a0 N0 M ((i * W + lane) / M) ((i * W + lane) % M) = true then 1 else 0)))).2.2.1 113 3) = (Vb.2.2.1 113 3) from rfl) (show ((upI (upA Vb 129 10 tq (nI ((i * W + lane) % M))) 129 11 (nI (tq + (if TQ Y U f mk od i0 a0 N0 M ((i * W + lane) / M) ((i * W + lane) % M) = true then 1 else 0)))).2.2.1 113 4) = (Vb.2.2.1 113 4) from rfl) (show ((upI (upA Vb 129 10 tq (nI ((i * W + lane) % M))) 129 11 (nI (tq + (if TQ Y U f mk od i0 a0 N0 M ((i * W + lane) / M) ((i * W + lane) % M) = true then 1 else 0)))).2.2.1 129 4) = (Vb.2.2.1 129 4) from rfl) rfl)), (show ∃ n, (ud m Q11).2.1 129 11 = nI n ∧ LSO (ud m Q11) n ((i * W + (lane + 1)) % M) (fun x => TQ Y U f mk od i0 a0 N0 M ((i * W + (lane + 1)) / M) x = true) from by rw [d11]; exact (by rw [hq1, hq2]; exact ⟨_, (show ((upI (upA Vb 129 10 tq (nI ((i * W + lane) % M))) 129 11 (nI (tq + (if TQ Y U f mk od i0 a0 N0 M ((i * W + lane) / M) ((i * W + lane) % M) = true then 1 else 0)))).2.1 129 11) = nI (tq + if TQ Y U f mk od i0 a0 N0 M ((i * W + lane) / M) ((i * W + lane) % M) = true then 1 else 0) from rfl), hLP1⟩)), (show mu ≤ 16384 from (by omega))⟩ (by show ln - (lane + 1) < ln - lane; omega))
    · -- 177: not (nI lane) < (nI ln)
      have nh9 : ¬ lane < ln := fun z => h9 (show nI lane < nI ln from (nI_ltI (by omega) (by omega)).mpr z)
      have hsm : (i + 1) * W = i * W + W := Nat.succ_mul i W
      rw [show i * W + lane = min ((i + 1) * W) T0 by omega]
      refine mw_go mu_g302 (k := 2) (f1 := (181, [(11, .inl (nI lane)), (7, .inl (nI mu)), (5, .inl (nI (bq + min ((i + 1) * W) T0 / M))), (8, .inl (nI (min ((i + 1) * W) T0 % M))), (0, .inr (.inr (some 129))), (1, .inl nmk), (2, .inl tmk), (3, .inl (nI M)), (4, .inl (1 : Int32)), (6, .inl (nI TN)), (9, .inl (nI i)), (10, .inr (.inr (some 107)))], [.inr (.inr (mu_r Hsb 129 0))], Hsb)) (C := [mu_is Hsb (some 129) 9]) rfl (show mu_is Hsb (some 129) 9 from (ub.1.1.is rfl)) ?_
      rw [(ub.1.1.r (p := 129) (j := 0) (q := 99) rfl)]
      refine mw_go mu_g302 (k := 1) (f1 := (184, [(11, .inl (nI lane)), (7, .inl (nI mu)), (5, .inl (nI (bq + min ((i + 1) * W) T0 / M))), (8, .inl (nI (min ((i + 1) * W) T0 % M))), (0, .inr (.inr (some 129))), (1, .inl nmk), (2, .inl tmk), (3, .inl (nI M)), (4, .inl (1 : Int32)), (6, .inl (nI TN)), (9, .inl (nI i)), (10, .inr (.inr (some 107)))], [.inr (.inr (mu_r Hsb 99 1))], Hsb)) (C := [mu_is Hsb (some 99) 13]) rfl (show mu_is Hsb (some 99) 13 from (ub.1.1.is rfl)) ?_
      rw [(ub.1.1.r (p := 99) (j := 1) (q := 100) rfl)]
      have hTDt : TRD Vb Y P f od a0 N0 i0 mk T0 W i := hTD.keep (show (Vb.1 21) = (V7.1 21) from ((zzb.t 21 rfl).trans (z8.t 21 rfl))) (show (Vb.1 22) = (V7.1 22) from ((zzb.t 22 rfl).trans (z8.t 22 rfl))) (show (Vb.1 15) = (V7.1 15) from ((zzb.t 15 rfl).trans (z8.t 15 rfl))) (show (Vb.2.2.1 100 3) = (V7.2.2.1 100 3) from ((zzb.a 100 3 rfl).trans (z8.a 100 3 rfl))) (show (Vb.2.1 100 5) = (V7.2.1 100 5) from ((zzb.i 100 5 rfl).trans (z8.i 100 5 rfl))) (show (Vb.2.1 100 7) = (V7.2.1 100 7) from ((zzb.i 100 7 rfl).trans (z8.i 100 7 rfl))) (show (Vb.2.1 100 17) = (V7.2.1 100 17) from ((zzb.i 100 17 rfl).trans (z8.i 100 17 rfl))) (show (Vb.2.1 100 4) = (V7.2.1 100 4) from ((zzb.i 100 4 rfl).trans (z8.i 100 4 rfl))) (show (Vb.2.1 100 18) = (V7.2.1 100 18) from ((zzb.i 100 18 rfl).trans (z8.i 100 18 rfl))) (show (Vb.2.1 100 19) = (V7.2.1 100 19) from ((zzb.i 100 19 rfl).trans (z8.i 100 19 rfl))) (show (Vb.2.1 100 20) = (V7.2.1 100 20) from ((zzb.i 100 20 rfl).trans (z8.i 100 20 rfl))) (show (Vb.2.2.1 100 8) = (V7.2.2.1 100 8) from ((zzb.a 100 8 rfl).trans (z8.a 100 8 rfl))) (show (Vb.2.2.1 100 12).1 = (V7.2.2.1 100 12).1 from ((zzb.n 100 12 rfl).trans (z8.n 100 12 rfl))) (show (Vb.2.2.1 100 13).1 = (V7.2.2.1 100 13).1 from ((zzb.n 100 13 rfl).trans (z8.n 100 13 rfl))) (show (Vb.2.2.1 100 15).1 = (V7.2.2.1 100 15).1 from ((zzb.n 100 15 rfl).trans (z8.n 100 15 rfl))) (show (Vb.2.2.1 99 8) = (V7.2.2.1 99 8) from ((zzb.a 99 8 rfl).trans (z8.a 99 8 rfl)))
      have hMt := (show MCS Vb from ⟨by rw [(show (Vb.1 22) = (V7.1 22) from ((zzb.t 22 rfl).trans (z8.t 22 rfl)))]; exact hMu.1, by rw [(show (Vb.2.2.1 100 3).1 = (V7.2.2.1 100 3).1 from ((zzb.n 100 3 rfl).trans (z8.n 100 3 rfl)))]; exact hMu.2.1, by rw [(show (Vb.2.2.1 100 8).1 = (V7.2.2.1 100 8).1 from ((zzb.n 100 8 rfl).trans (z8.n 100 8 rfl)))]; exact hMu.2.2.1, by rw [(show (Vb.2.2.1 100 12).1 = (V7.2.2.1 100 12).1 from ((zzb.n 100 12 rfl).trans (z8.n 100 12 rfl)))]; exact hMu.2.2.2.1, by rw [(show (Vb.2.2.1 100 13).1 = (V7.2.2.1 100 13).1 from ((zzb.n 100 13 rfl).trans (z8.n 100 13 rfl)))]; exact hMu.2.2.2.2.1, by rw [(show (Vb.2.2.1 100 15).1 = (V7.2.2.1 100 15).1 from ((zzb.n 100 15 rfl).trans (z8.n 100 15 rfl)))]; exact hMu.2.2.2.2.2⟩)
      have hKt : KNV m Vb Y P f od es := (hKu.q z8 rfl).q zzb rfl
      refine mw_cV (fun _ => rfl) (show mu_is Hsb (some 100) 5 from (ub.1.1.is rfl)) (mc_turnT (d := (d + 2)) (C := C) ub db hKt hMt hTDt hiW (by omega)) (fun Q16 q16 => ?_)
      obtain ⟨u16, r16, z16, hKn, hMn, hTRn⟩ := q16
      have ht16 : ur m C H Q16 := htb.trans r16
      obtain ⟨V16, d16⟩ : ∃ V, ud m Q16 = V := ⟨_, rfl⟩
      rw [d16] at z16 hKn hMn hTRn
      have qf16 : uq F302 U V16 := qfb.tr z16 rfl
      refine mw_go mu_g302 (k := 1) (f1 := (190, [(9, .inl ((nI i) + 1)), (11, .inl (nI lane)), (7, .inl (nI mu)), (5, .inl (nI (bq + min ((i + 1) * W) T0 / M))), (8, .inl (nI (min ((i + 1) * W) T0 % M))), (0, .inr (.inr (some 129))), (1, .inl nmk), (2, .inl tmk), (3, .inl (nI M)), (4, .inl (1 : Int32)), (6, .inl (nI TN)), (10, .inr (.inr (some 107)))], [], Q16)) (C := []) rfl trivial ?_
      rw [(show ((nI i) + 1) = (nI (i + 1)) from (nI_add i 1))]
      refine mw_go mu_g302 (k := 1) (f1 := (60, [(9, .inl (nI (i + 1))), (11, .inl (nI lane)), (7, .inl (nI mu)), (5, .inl (nI (bq + min ((i + 1) * W) T0 / M))), (8, .inl (nI (min ((i + 1) * W) T0 % M))), (0, .inr (.inr (some 129))), (1, .inl nmk), (2, .inl tmk), (3, .inl (nI M)), (4, .inl (1 : Int32)), (6, .inl (nI TN)), (10, .inr (.inr (some 107)))], [], Q16)) (C := []) rfl trivial ?_
      exact mw_sub (by simp) (iha (i + 1, mu, Q16) ⟨u16, ht16, (show uq F302a (upI V4 129 11 (0 : Int32)) (ud m Q16) from by rw [d16]; exact ((((zza.tr z7 rfl).tr z8 rfl).tr zzb rfl).tr z16 rfl)), (show (i + 1) ≤ TN from (by omega)), (show KNV m (ud m Q16) Y P f od es from by rw [d16]; exact hKn), (show MCS (ud m Q16) from by rw [d16]; exact hMn), (show TRN (ud m Q16) Y P f od a0 N0 i0 mk T0 W (i + 1) from by rw [d16]; exact hTRn), (show TBX U (ud m Q16) N us S z p ((M + 63) / 64) bq (min ((i + 1) * W) T0 / M) (fun c x => S (oq c) x = true ∧ x < M ∧ trz Y U f mk od i0 a0 N0 (c * M + x) = 1) from by rw [d16]; exact (by rw [show min ((i + 1) * W) T0 = i * W + lane by omega]; exact hTBb.eq (show (V16.2.1 113 1) = (Vb.2.1 113 1) from (z16.i 113 1 rfl)) (show (V16.2.1 113 2) = (Vb.2.1 113 2) from (z16.i 113 2 rfl)) (show (V16.2.1 113 5) = (Vb.2.1 113 5) from (z16.i 113 5 rfl)) (show (V16.2.2.1 113 3) = (Vb.2.2.1 113 3) from (z16.a 113 3 rfl)) (show (V16.2.2.1 113 4) = (Vb.2.2.1 113 4) from (z16.a 113 4 rfl)) (show (V16.2.2.1 129 4) = (Vb.2.2.1 129 4) from (z16.a 129 4 rfl)) (z16.2.2.2.2.2 rfl))), (show ∃ n, (ud m Q16).2.1 129 11 = nI n ∧ LSO (ud m Q16) n (min ((i + 1) * W) T0 % M) (fun x => TQ Y U f mk od i0 a0 N0 M (min ((i + 1) * W) T0 / M) x = true) from by rw [d16]; exact (by rw [show min ((i + 1) * W) T0 = i * W + lane by omega]; exact ⟨tq, (show (V16.2.1 129 11) = nI tq from ((z16.i 129 11 rfl).trans l11b)), LSO.eq hLPb (show (V16.2.2.1 129 10) = (Vb.2.2.1 129 10) from (z16.a 129 10 rfl))⟩)), (show mu ≤ 16384 from (by omega))⟩ (by show TN - (i + 1) < TN - i; omega))
  · -- 193: not (nI i) < (nI TN)
    have nh6 : ¬ i < TN := fun z => h6 (show nI i < nI TN from (nI_ltI (by omega) (by omega)).mpr z)
    have hge : T0 ≤ i * W := turns_ge w1 (by rw [← hTN]; exact nh6)
    refine mw_go mu_g302 (k := 1) (f1 := (194, [(9, .inl (nI i)), (7, .inl (nI mt)), (5, .inl (nI (bq + min (i * W) T0 / M))), (8, .inl (nI (min (i * W) T0 % M))), (0, .inr (.inr (some 129))), (1, .inl nmk), (2, .inl tmk), (3, .inl (nI M)), (4, .inl (1 : Int32)), (6, .inl (nI TN))], [.inl tmk], Hsa)) (C := []) rfl trivial ?_
    refine mw_cIe (fun _ => rfl) trivial (rl_one (d := (d + 6))) ?_
    refine mw_if (P := (one1 tmk) = 0) (a := 223) (b := 200) (fun _ => rfl) trivial (fun h18 => ?_) (fun h18 => ?_)
    · -- 223: (one1 tmk) = 0
      have hKe : KNV m Va Y P f od es := hK.q qfa rfl
      have hMe := (show MCS Va from ⟨by rw [(show (Va.1 22) = (Va.1 22) from rfl)]; exact hMa.1, by rw [(show (Va.2.2.1 100 3).1 = (Va.2.2.1 100 3).1 from rfl)]; exact hMa.2.1, by rw [(show (Va.2.2.1 100 8).1 = (Va.2.2.1 100 8).1 from rfl)]; exact hMa.2.2.1, by rw [(show (Va.2.2.1 100 12).1 = (Va.2.2.1 100 12).1 from rfl)]; exact hMa.2.2.2.1, by rw [(show (Va.2.2.1 100 13).1 = (Va.2.2.1 100 13).1 from rfl)]; exact hMa.2.2.2.2.1, by rw [(show (Va.2.2.1 100 15).1 = (Va.2.2.1 100 15).1 from rfl)]; exact hMa.2.2.2.2.2⟩)
      have hle : LDW Va Y P f od a0 N0 i0 := (hTRa.ldw hK.2.1).keep (show (Va.1 21) = (Va.1 21) from rfl) (show (Va.1 22) = (Va.1 22) from rfl) (show (Va.1 15) = (Va.1 15) from rfl) (show (Va.2.2.1 100 3) = (Va.2.2.1 100 3) from rfl) (show (Va.2.1 100 5) = (Va.2.1 100 5) from rfl) (show (Va.2.1 100 7) = (Va.2.1 100 7) from rfl) (show (Va.2.1 100 17) = (Va.2.1 100 17) from rfl) (show (Va.2.1 100 4) = (Va.2.1 100 4) from rfl) (show (Va.2.2.1 100 8) = (Va.2.2.1 100 8) from rfl) (show (Va.2.2.1 100 12).1 = (Va.2.2.1 100 12).1 from rfl) (show (Va.2.2.1 100 13).1 = (Va.2.2.1 100 13).1 from rfl) (show (Va.2.2.1 100 15).1 = (Va.2.2.1 100 15).1 from rfl) (show (Va.2.2.1 99 8) = (Va.2.2.1 99 8) from rfl)
      rw [show min (i * W) T0 = T0 by omega, hTw, Nat.mul_div_cancel_left _ hM0] at hTBa
      have hTe := hTBa.eq (V1 := Va) (show (Va.2.1 113 1) = (Va.2.1 113 1) from rfl) (show (Va.2.1 113 2) = (Va.2.1 113 2) from rfl) (show (Va.2.1 113 5) = (Va.2.1 113 5) from rfl) (show (Va.2.2.1 113 3) = (Va.2.2.1 113 3) from rfl) (show (Va.2.2.1 113 4) = (Va.2.2.1 113 4) from rfl) (show (Va.2.2.1 129 4) = (Va.2.2.1 129 4) from rfl) rfl
      refine mw_of (fun _ => mu_ret rfl trivial ⟨Hsa, rfl, ua, hta, (by rw [da]; exact qfa), ?_⟩)
      rw [da]
      exact ⟨hKe, hMe, hle, hTe, (show (Va.2.1 129 5) = (U.2.1 129 5) from ((zza.i 129 5 rfl).trans (z4.i 129 5 rfl))), (show (Va.2.2.1 129 4).1 = (U.2.2.1 129 4).1 from ((zza.n 129 4 rfl).trans (z4.n 129 4 rfl))), (show (Va.1 24) = (U.1 24) from ((zza.t 24 rfl).trans (z4.t 24 rfl)))⟩
    · -- 200: not (one1 tmk) = 0
      obtain ⟨hlx, hl28⟩ := hlo h18
      have hlv : (31 : Int32) - ji_lz tmk = nI l := hlvx.trans hlx
      refine mw_go mu_g302 (k := 2) (f1 := (204, [(9, .inl (nI i)), (7, .inl (nI mt)), (5, .inl (nI (bq + min (i * W) T0 / M))), (8, .inl (nI (min (i * W) T0 % M))), (0, .inr (.inr (some 129))), (1, .inl nmk), (2, .inl tmk), (3, .inl (nI M)), (4, .inl (1 : Int32)), (6, .inl (nI TN))], [.inr (.inr (mu_r Hsa 129 14))], Hsa)) (C := [mu_is Hsa (some 129) 9]) rfl (show mu_is Hsa (some 129) 9 from (ua.1.1.is rfl)) ?_
      rw [(ua.1.1.r (p := 129) (j := 14) (q := 142) rfl)]
      refine mw_go mu_g302 (k := 1) (f1 := (205, [(9, .inl (nI i)), (7, .inl (nI mt)), (5, .inl (nI (bq + min (i * W) T0 / M))), (8, .inl (nI (min (i * W) T0 % M))), (0, .inr (.inr (some 129))), (1, .inl nmk), (2, .inl tmk), (3, .inl (nI M)), (4, .inl (1 : Int32)), (6, .inl (nI TN))], [.inl tmk, .inr (.inr (some 142))], Hsa)) (C := []) rfl trivial ?_
      refine mw_cIe (fun _ => rfl) trivial (rl_level (d := (d + 5))) ?_
      rw [hlv]
      refine mw_go mu_g302 (k := 2) (f1 := (212, [(9, .inl (nI i)), (7, .inl (nI mt)), (5, .inl (nI (bq + min (i * W) T0 / M))), (8, .inl (nI (min (i * W) T0 % M))), (0, .inr (.inr (some 129))), (1, .inl nmk), (2, .inl tmk), (3, .inl (nI M)), (4, .inl (1 : Int32)), (6, .inl (nI TN))], [.inr (.inr (mu_r Hsa 129 14)), .inl (nI l), .inr (.inr (some 142))], Hsa)) (C := [mu_is Hsa (some 129) 9]) rfl (show mu_is Hsa (some 129) 9 from (ua.1.1.is rfl)) ?_
      rw [(ua.1.1.r (p := 129) (j := 14) (q := 142) rfl)]
      refine mw_go mu_g302 (k := 1) (f1 := (213, [(9, .inl (nI i)), (7, .inl (nI mt)), (5, .inl (nI (bq + min (i * W) T0 / M))), (8, .inl (nI (min (i * W) T0 % M))), (0, .inr (.inr (some 129))), (1, .inl nmk), (2, .inl tmk), (3, .inl (nI M)), (4, .inl (1 : Int32)), (6, .inl (nI TN))], [.inl tmk, .inr (.inr (some 142)), .inl (nI l), .inr (.inr (some 142))], Hsa)) (C := []) rfl trivial ?_
      refine mw_cIe (fun _ => rfl) trivial (rl_level (d := (d + 5))) ?_
      rw [hlv]
      refine mw_go mu_g302 (k := 1) (f1 := (217, [(9, .inl (nI i)), (7, .inl (nI mt)), (5, .inl (nI (bq + min (i * W) T0 / M))), (8, .inl (nI (min (i * W) T0 % M))), (0, .inr (.inr (some 129))), (1, .inl nmk), (2, .inl tmk), (3, .inl (nI M)), (4, .inl (1 : Int32)), (6, .inl (nI TN))], [.inl (mu_i Hsa 142 (nI l).toNatClampNeg), .inl (nI l), .inr (.inr (some 142))], Hsa)) (C := [mu_isr Hsa (some 142) 100, vp_in (nI l) (mu_n Hsa 142)]) rfl (show (mu_isr Hsa (some 142) 100) ∧ (vp_in (nI l) (mu_n Hsa 142)) from ⟨((ua.iA da rfl rfl ((ud_q (m := m) (P := 129) (j := 14) da rfl).symm.trans (ua.1.1.r (p := 129) (j := 14) (q := 142) rfl)))).r, (by rw [show mu_n Hsa 142 = 28 from (ua.1.1.a (p := 142) (x := (100, 28)) rfl).2]; exact vp_in_nI (n := l) (by omega) (by decide))⟩) ?_
      obtain ⟨y21, hy21⟩ : ∃ y, y = (mu_i Hsa 142 (nI l).toNatClampNeg) := ⟨_, rfl⟩
      rw [← hy21]
      refine mw_go mu_g302 (k := 1) (f1 := (219, [(9, .inl (nI i)), (7, .inl (nI mt)), (5, .inl (nI (bq + min (i * W) T0 / M))), (8, .inl (nI (min (i * W) T0 % M))), (0, .inr (.inr (some 129))), (1, .inl nmk), (2, .inl tmk), (3, .inl (nI M)), (4, .inl (1 : Int32)), (6, .inl (nI TN))], [.inl (nI mt), .inl y21, .inl (nI l), .inr (.inr (some 142))], Hsa)) (C := []) rfl trivial ?_
      refine mw_cIe (fun _ => rfl) trivial (mu_min_ok (d := (d + 6)) y21 (nI mt)) ?_
      refine mw_go mu_g302 (k := 1) (f1 := (223, [(9, .inl (nI i)), (7, .inl (nI mt)), (5, .inl (nI (bq + min (i * W) T0 / M))), (8, .inl (nI (min (i * W) T0 % M))), (0, .inr (.inr (some 129))), (1, .inl nmk), (2, .inl tmk), (3, .inl (nI M)), (4, .inl (1 : Int32)), (6, .inl (nI TN))], [], (mu_si Hsa 142 (nI l).toNatClampNeg (mu_min y21 (nI mt))))) (C := [mu_is Hsa (some 142) 100, vp_in (nI l) (mu_n Hsa 142)]) rfl (show (mu_is Hsa (some 142) 100) ∧ (vp_in (nI l) (mu_n Hsa 142)) from ⟨(ua.iA da rfl rfl ((ud_q (m := m) (P := 129) (j := 14) da rfl).symm.trans (ua.1.1.r (p := 129) (j := 14) (q := 142) rfl))), (by rw [show mu_n Hsa 142 = 28 from (ua.1.1.a (p := 142) (x := (100, 28)) rfl).2]; exact vp_in_nI (n := l) (by omega) (by decide))⟩) ?_
      rw [(show (nI l).toNatClampNeg = l from nI_clamp (by omega))]
      obtain ⟨u23, r23, d23⟩ : um m (mu_si Hsa 142 l (mu_min y21 (nI mt))) ∧ ur m C Hsa (mu_si Hsa 142 l (mu_min y21 (nI mt))) ∧ ud m (mu_si Hsa 142 l (mu_min y21 (nI mt))) = (upA Va 129 14 l (mu_min y21 (nI mt))) := ua.sA (C := C) da rfl rfl ((ud_q (m := m) (P := 129) (j := 14) da rfl).symm.trans (ua.1.1.r (p := 129) (j := 14) (q := 142) rfl))
      generalize (mu_si Hsa 142 l (mu_min y21 (nI mt))) = Q23 at u23 r23 d23 ⊢
      have qf23 : uq F302 U (upA Va 129 14 l (mu_min y21 (nI mt))) := qfa.A rfl
      have ht23 : ur m C H Q23 := hta.trans r23
      have hKe : KNV m (upA Va 129 14 l (mu_min y21 (nI mt))) Y P f od es := hK.q qf23 rfl
      have hMe := (show MCS (upA Va 129 14 l (mu_min y21 (nI mt))) from ⟨by rw [(show ((upA Va 129 14 l (mu_min y21 (nI mt))).1 22) = (Va.1 22) from rfl)]; exact hMa.1, by rw [(show ((upA Va 129 14 l (mu_min y21 (nI mt))).2.2.1 100 3).1 = (Va.2.2.1 100 3).1 from rfl)]; exact hMa.2.1, by rw [(show ((upA Va 129 14 l (mu_min y21 (nI mt))).2.2.1 100 8).1 = (Va.2.2.1 100 8).1 from rfl)]; exact hMa.2.2.1, by rw [(show ((upA Va 129 14 l (mu_min y21 (nI mt))).2.2.1 100 12).1 = (Va.2.2.1 100 12).1 from rfl)]; exact hMa.2.2.2.1, by rw [(show ((upA Va 129 14 l (mu_min y21 (nI mt))).2.2.1 100 13).1 = (Va.2.2.1 100 13).1 from rfl)]; exact hMa.2.2.2.2.1, by rw [(show ((upA Va 129 14 l (mu_min y21 (nI mt))).2.2.1 100 15).1 = (Va.2.2.1 100 15).1 from rfl)]; exact hMa.2.2.2.2.2⟩)
      have hle : LDW (upA Va 129 14 l (mu_min y21 (nI mt))) Y P f od a0 N0 i0 := (hTRa.ldw hK.2.1).keep (show ((upA Va 129 14 l (mu_min y21 (nI mt))).1 21) = (Va.1 21) from rfl) (show ((upA Va 129 14 l (mu_min y21 (nI mt))).1 22) = (Va.1 22) from rfl) (show ((upA Va 129 14 l (mu_min y21 (nI mt))).1 15) = (Va.1 15) from rfl) (show ((upA Va 129 14 l (mu_min y21 (nI mt))).2.2.1 100 3) = (Va.2.2.1 100 3) from rfl) (show ((upA Va 129 14 l (mu_min y21 (nI mt))).2.1 100 5) = (Va.2.1 100 5) from rfl) (show ((upA Va 129 14 l (mu_min y21 (nI mt))).2.1 100 7) = (Va.2.1 100 7) from rfl) (show ((upA Va 129 14 l (mu_min y21 (nI mt))).2.1 100 17) = (Va.2.1 100 17) from rfl) (show ((upA Va 129 14 l (mu_min y21 (nI mt))).2.1 100 4) = (Va.2.1 100 4) from rfl) (show ((upA Va 129 14 l (mu_min y21 (nI mt))).2.2.1 100 8) = (Va.2.2.1 100 8) from rfl) (show ((upA Va 129 14 l (mu_min y21 (nI mt))).2.2.1 100 12).1 = (Va.2.2.1 100 12).1 from rfl) (show ((upA Va 129 14 l (mu_min y21 (nI mt))).2.2.1 100 13).1 = (Va.2.2.1 100 13).1 from rfl) (show ((upA Va 129 14 l (mu_min y21 (nI mt))).2.2.1 100 15).1 = (Va.2.2.1 100 15).1 from rfl) (show ((upA Va 129 14 l (mu_min y21 (nI mt))).2.2.1 99 8) = (Va.2.2.1 99 8) from rfl)
      rw [show min (i * W) T0 = T0 by omega, hTw, Nat.mul_div_cancel_left _ hM0] at hTBa
      have hTe := hTBa.eq (V1 := (upA Va 129 14 l (mu_min y21 (nI mt)))) (show ((upA Va 129 14 l (mu_min y21 (nI mt))).2.1 113 1) = (Va.2.1 113 1) from rfl) (show ((upA Va 129 14 l (mu_min y21 (nI mt))).2.1 113 2) = (Va.2.1 113 2) from rfl) (show ((upA Va 129 14 l (mu_min y21 (nI mt))).2.1 113 5) = (Va.2.1 113 5) from rfl) (show ((upA Va 129 14 l (mu_min y21 (nI mt))).2.2.1 113 3) = (Va.2.2.1 113 3) from rfl) (show ((upA Va 129 14 l (mu_min y21 (nI mt))).2.2.1 113 4) = (Va.2.2.1 113 4) from rfl) (show ((upA Va 129 14 l (mu_min y21 (nI mt))).2.2.1 129 4) = (Va.2.2.1 129 4) from rfl) rfl
      refine mw_of (fun _ => mu_ret rfl trivial ⟨Q23, rfl, u23, ht23, (by rw [d23]; exact qf23), ?_⟩)
      rw [d23]
      exact ⟨hKe, hMe, hle, hTe, (show ((upA Va 129 14 l (mu_min y21 (nI mt))).2.1 129 5) = (U.2.1 129 5) from ((zza.i 129 5 rfl).trans (z4.i 129 5 rfl))), (show ((upA Va 129 14 l (mu_min y21 (nI mt))).2.2.1 129 4).1 = (U.2.2.1 129 4).1 from ((zza.n 129 4 rfl).trans (z4.n 129 4 rfl))), (show ((upA Va 129 14 l (mu_min y21 (nI mt))).1 24) = (U.1 24) from ((zza.t 24 rfl).trans (z4.t 24 rfl)))⟩
end TakeTable
