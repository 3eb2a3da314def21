/-! Space.evaluate: the lanes -/
/-- what a VARIABLE is in the c-th valuation of the sides that move: now (sh 0), next (sh 14) -/
def vlz (U : Ud) (f : Nat → Nat) (mv : Int32) (sh c w : Nat) : Int32 :=
  if (U.1 15).2 w 2 = -1 then (U.1 15).2 w 3 else (U.2.2.1 99 8).2 (sm f 0 ((U.1 15).2 w 2).toNatClampNeg + c / wqz mv f (((U.1 15).2 w 2).toNatClampNeg + sh) % f ((U.1 15).2 w 2).toNatClampNeg)
/-- what an E is there -/
def trz (Y : Ts) (U : Ud) (f : Nat → Nat) (mv : Int32) (od : Nat → Nat) (i0 a0 N0 c : Nat) : Int32 :=
  svz Y (lvl Y (vlz U f mv 0 c) (vlz U f mv 14 c) (evz Y od (vlz U f mv 0 c)) i0) a0 N0 0
def mwz (W T0 : Nat) : Nat → Nat
  | 0 => 0
  | i + 1 => min ((i + 1) * W) T0
theorem mwz_eq {W T0 i : Nat} : mwz W T0 i = min (i * W) T0 := by
  cases i with
  | zero => rw [Nat.zero_mul, Nat.zero_min]; rfl
  | succ i => rfl
section Evaluate
variable {H : mu_H} {m d P a0 N0 i0 S0 K dp W l n at0 s k : Nat} {C : Nat → Nat} {U V V1 Ub : Ud} {Y : Ts} {od rk f sd wt : Nat → Nat} {mk mv al : Int32} {NX : Prop} {M : Nat → Prop} {es rs : Nat → Int32} {kd : Bool}
theorem sv_sdi (h : sdi Ub V W l P S0 f mk (bcn mk) (wqz mv f) at0 (fun q => q < 28)) (h15 : V.1 15 = U.1 15) (h98 : Ub.2.2.1 99 8 = U.2.2.1 99 8) (hsub : ∀ k, k < 28 → ¬ mb mk k = 0 → ¬ mb mv k = 0) (hf : ∀ k, 1 ≤ f k) (hP : P ≤ 14) : SV V Y W l P mk (fun j => vlz U f mv 0 (at0 + j)) (fun j => vlz U f mv 14 (at0 + j)) := by
  intro w hw j hj
  rw [h15]
  have wq : ∀ k, k < 28 → ¬ mb mk k = 0 → ¬ wqz mv f k = 0 := fun k hk hb z => by
    unfold wqz at z
    rw [if_neg (hsub k hk hb)] at z
    have := tqz_1 (mv := mv) (n := 27 - k) hf
    omega
  refine ⟨fun e => ?_, fun pl hpl e => ⟨fun hb => ?_, fun hb => ?_⟩⟩
  · show vlz U f mv 0 (at0 + j) w = _ ∧ vlz U f mv 14 (at0 + j) w = _
    unfold vlz; rw [if_pos e, if_pos e]; exact ⟨rfl, rfl⟩
  · have z := h.2.2.1 pl j (by omega) hb (by omega) hj
    have nm : ¬ (U.1 15).2 w 2 = -1 := by rw [e]; exact nI_neg1 (by omega)
    rw [z]
    show _ = vlz U f mv 0 (at0 + j) w
    unfold sdv vlz
    rw [if_neg (wq pl (by omega) hb), if_neg nm, e, nI_clamp (by omega), h98, Nat.add_zero, Nat.mod_eq_of_lt (show pl < 14 by omega)]
  · have z := h.2.2.1 (pl + 14) j (by omega) hb (by omega) hj
    have nm : ¬ (U.1 15).2 w 2 = -1 := by rw [e]; exact nI_neg1 (by omega)
    rw [z]
    show _ = vlz U f mv 14 (at0 + j) w
    unfold sdv vlz
    rw [if_neg (wq (pl + 14) (by omega) hb), if_neg nm, e, nI_clamp (by omega), h98, show (pl + 14) % 14 = pl by omega]
theorem LR_keep (h : LR U Y a0 N0 i0 od S0 K M rk) (h21 : V.1 21 = U.1 21) (h3 : V.2.2.1 100 3 = U.2.2.1 100 3) : LR V Y a0 N0 i0 od S0 K M rk := by
  unfold LR at *
  rw [h21, h3]
  exact h
theorem LZx_keep {cp : Nat} (h : LZx U S0 K cp dp W mk) (i5 : V.2.1 100 5 = U.2.1 100 5) (i7 : V.2.1 100 7 = U.2.1 100 7) (i17 : V.2.1 100 17 = U.2.1 100 17) (i4 : V.2.1 100 4 = U.2.1 100 4) (n8 : (V.2.2.1 100 8).1 = (U.2.2.1 100 8).1) (n12 : (V.2.2.1 100 12).1 = (U.2.2.1 100 12).1) (n13 : (V.2.2.1 100 13).1 = (U.2.2.1 100 13).1) (n15 : (V.2.2.1 100 15).1 = (U.2.2.1 100 15).1) : LZx V S0 K cp dp W mk := by
  unfold LZx at *
  rw [i5, i7, i17, i4, n8, n12, n13, n15]
  exact h
theorem sds_ckp (h : sds V W P S0 f mk sd wt) (h22 : V1.1 22 = V.1 22) (h98 : V1.2.2.1 99 8 = V.2.2.1 99 8) (hk : ∀ s k, s < S0 → k < W → ckp V1 V W s k) : sds V1 W P S0 f mk sd wt := by
  obtain ⟨s1, s2, s3, s4⟩ := h
  unfold sds
  rw [h22]
  refine ⟨s1, fun k hk' hb => ?_, s3, s4⟩
  obtain ⟨y1, y2, y3, y4, y5⟩ := s2 k hk' hb
  refine ⟨y1, y2, y3, fun q hq hq2 => ?_, y5⟩
  rw [h22] at hq
  obtain ⟨w1, w2⟩ := y4 q hq hq2
  refine ⟨w1, fun j hj => ?_⟩
  rw [(hk (sd k) j y3 hj).2.2, h98]
  exact w2 j hj
theorem sds_same (h : sds V W P S0 f mk sd wt) (h22 : V1.1 22 = V.1 22) (h98 : V1.2.2.1 99 8 = V.2.2.1 99 8) (h8 : V1.2.2.1 100 8 = V.2.2.1 100 8) : sds V1 W P S0 f mk sd wt := by
  unfold sds fck at *
  rw [h22, h98, h8]
  exact h
theorem ckp_of (h8 : V1.2.2.1 100 8 = V.2.2.1 100 8) (h12 : V1.2.2.1 100 12 = V.2.2.1 100 12) (h : ckp V U W s k) : ckp V1 U W s k := by
  unfold ckp cvl at *
  rw [h8, h12]
  exact h
theorem tbz_0 {x : Nat} (hx : x < 64 * n) : tbz (upM V 127 0 (fun _ => 0) (n - 0)) x = false := by
  show btz (if 127 = 127 ∧ 0 ≤ x / 64 ∧ x / 64 < 0 + (n - 0) then (0 : Int64) else V.2.2.2.2.1 127 (x / 64)) (x % 64) = false
  rw [if_pos ⟨rfl, by omega, by omega⟩, btz_0]
theorem tbz_on {c x : Nat} {y : Int64} (hc : c < 2147483648) (hy : y = V.2.2.2.2.1 127 (c / 64)) : tbz (upL V 127 (c / 64) (y ||| ((1 : Int64) <<< ((nI c).toInt64 &&& 63)))) x = (tbz V x || decide (x = c)) := by
  show btz (if 127 = 127 ∧ x / 64 = c / 64 then (y ||| ((1 : Int64) <<< ((nI c).toInt64 &&& 63))) else V.2.2.2.2.1 127 (x / 64)) (x % 64) = _
  by_cases e : x / 64 = c / 64
  · rw [if_pos ⟨rfl, e⟩, btz_or, btz_shl hc (by omega), btz_1, hy]
    unfold tbz
    rw [e]
    congr 1
    by_cases h : x = c
    · subst h; simp
    · by_cases h2 : c % 64 ≤ x % 64
      · have : ¬ x % 64 - c % 64 = 0 := by omega
        simp [h, this]
      · simp [h, h2]
  · rw [if_neg (fun z => e z.2)]
    have : ¬ x = c := fun z => e (by rw [z])
    unfold tbz
    simp [this]
theorem tbz_off {c x : Nat} {y : Int64} (hy : y = V.2.2.2.2.1 127 (c / 64)) : tbz (upL V 127 (c / 64) (y ||| 0)) x = tbz V x := by
  show btz (if 127 = 127 ∧ x / 64 = c / 64 then (y ||| 0) else V.2.2.2.2.1 127 (x / 64)) (x % 64) = _
  unfold tbz
  by_cases e : x / 64 = c / 64
  · rw [if_pos ⟨rfl, e⟩, btz_or, btz_0, Bool.or_false, hy, e]
  · rw [if_neg (fun z => e z.2)]
theorem tb_next {T : Nat → Bool} {b : Bool} {x c : Nat} (h : b = (decide (x < c) && T x)) (hT : T c = true) : (b || decide (x = c)) = (decide (x < c + 1) && T x) := by
  rw [h]
  by_cases e : x = c
  · subst e; simp [hT]
  · by_cases h2 : x < c
    · simp [h2, e, show x < c + 1 by omega]
    · simp [h2, e, show ¬ x < c + 1 by omega]
theorem tb_skip {T : Nat → Bool} {b : Bool} {x c : Nat} (h : b = (decide (x < c) && T x)) (hT : T c = false) : b = (decide (x < c + 1) && T x) := by
  rw [h]
  by_cases e : x = c
  · subst e; simp [hT]
  · by_cases h2 : x < c
    · simp [h2, show x < c + 1 by omega]
    · simp [h2, show ¬ x < c + 1 by omega]
theorem turns_lt {T0 i : Nat} (hW : 1 ≤ W) (h : i < (T0 + W - 1) / W) : i * W < T0 := by
  have h1 : (i + 1) * W ≤ T0 + W - 1 := (Nat.le_div_iff_mul_le (by omega)).mp h
  rw [Nat.succ_mul] at h1
  omega
theorem turns_ge {T0 i : Nat} (hW : 1 ≤ W) (h : ¬ i < (T0 + W - 1) / W) : T0 ≤ i * W := by
  apply Nat.le_of_not_lt
  intro z
  apply h
  refine (Nat.le_div_iff_mul_le (by omega)).mpr ?_
  rw [Nat.succ_mul]
  omega
/-- without next, what moves is what project counts -/
theorem tqz_wn (hb : ∀ k, k < 28 → ¬ mb mk k = 0 → k < P) (hP : P ≤ 14) : ∀ n, n ≤ P → tqz mk f (28 - P + n) = wn mk f P n := by
  have h0 : ∀ n, n ≤ 28 - P → tqz mk f n = 1 := by
    intro n
    induction n with
    | zero => intro _; rfl
    | succ n ih =>
      intro hn
      show tqz mk f n * (if mb mk (27 - n) = 0 then 1 else f ((27 - n) % 14)) = 1
      have : mb mk (27 - n) = 0 := Classical.byContradiction fun z => by have := hb (27 - n) (by omega) z; omega
      rw [ih (by omega), if_pos this]
  intro n
  induction n with
  | zero => intro _; exact h0 _ (Nat.le_refl _)
  | succ n ih =>
    intro hn
    show tqz mk f (28 - P + n) * (if mb mk (27 - (28 - P + n)) = 0 then 1 else f ((27 - (28 - P + n)) % 14)) = wn mk f P n * (if mb mk (P - 1 - n) = 0 then 1 else f (P - 1 - n))
    rw [ih (by omega), show 27 - (28 - P + n) = P - 1 - n by omega, Nat.mod_eq_of_lt (show P - 1 - n < 14 by omega)]
theorem tqz_28 {T0 : Nat} (hT : T0 = tqz mk f 28) (hb : ∀ k, k < 28 → ¬ mb mk k = 0 → k < P) (hP : P ≤ 14) : T0 = wn mk f P P := by
  have := tqz_wn (f := f) hb hP P (Nat.le_refl _)
  rw [show 28 - P + P = 28 by omega] at this
  rw [hT]; exact this
theorem tbz_l (h : V1.2.2.2.2.1 127 = V.2.2.2.2.1 127) (x : Nat) : tbz V1 x = tbz V x := by
  unfold tbz
  rw [h]
theorem sdi_L {on : Nat → Prop} (h : sdi Ub V W l P S0 f mk sd wt at0 on) {g : Nat → Int64} {p b n : Nat} : sdi Ub (upM V p b g n) W l P S0 f mk sd wt at0 on := h
def F257a : Uf := ⟨[22], [(100, 14), (100, 16), (100, 21), (100, 18), (100, 19)], [(100, 8), (100, 9), (100, 10), (100, 11), (100, 12), (100, 13), (100, 15)], [], [127], false⟩
def F257b : Uf := ⟨[], [], [], [], [127], false⟩
/-- PathProver$Space.evaluate(I[J)V -/
abbrev mu_m257 : ev_M := (12, none, [], ev_b257)
theorem mu_g257 : mu_good mu_m257 := mu_goodk ev_k257
def F257 : Uf := ⟨[22], [(100, 14), (100, 16), (100, 21), (100, 18), (100, 19), (100, 20)], [(100, 8), (100, 9), (100, 10), (100, 11), (100, 12), (100, 13), (100, 15), (99, 18)], [], [127, 126], false⟩
theorem sp_evalE (h : um m H) (e : ud m H = U) (hS : spx m U P f) (hf1 : ∀ k, 1 ≤ f k) (hj : jv Y U.1) (hW : JW Y) (hT : TOP Y (U.1 14) od) (hY : TYP Y es) (hN : NUM Y) (hLR : LR U Y a0 N0 i0 od S0 K M rk) (hLZ : LZx U S0 K (sfz Y a0 N0) dp W mk) (hLC : LC (U.1 15) Y P NX a0 N0 i0 (sfz Y a0 N0) dp mk M) (hnx : ¬ NX) (hi0 : i0 < (Y 11).1) (hr0 : rg Y (im Y i0) kd a0 (a0 + N0)) (hs0 : SRT Y es i0 al a0 rs N0) (hal : ¬ al = 2) (hVT : ∀ c, VLS Y (vlz U f mk 0 c) ∧ VLS Y (vlz U f mk 14 c)) (hsx : sdx U W P S0 f mk (bcn mk)) : mu_TV (mu_D (d + 7)) 257 [.inr (.inr (some 99)), .inl (-1), .inr (.inr (some 126))] H (fun H1 => um m H1 ∧ ur m C H H1 ∧ uq F257 U (ud m H1) ∧ (∀ s, s < pd f 0 P → btz ((ud m H1).2.2.2.2.1 126 (s / 64)) (s % 64) = decide (¬ trz Y U f mk od i0 a0 N0 (pj mk f P P s) = 0)) ∧ (∀ y q, y < (pd f 0 P + 63) / 64 → q < 64 → pd f 0 P ≤ y * 64 + q → btz ((ud m H1).2.2.2.2.1 126 y) q = false) ∧ sds (ud m H1) W P S0 f mk (bcn mk) (wqz mk f)) := by
  obtain ⟨⟨s4, s10, s11, s12⟩, hk5, ⟨g8, g8b, g18, g18b⟩, ⟨gP, gpd, gsm⟩, hsp, hmo⟩ := id hS
  have hP : P ≤ 14 := gP
  obtain ⟨⟨kz5, kz7, kz17, kz4⟩, ⟨w1, w2⟩, ⟨kz8, zcl⟩, ⟨kz12, kz12b⟩, ⟨kz13, kz13b⟩, ⟨kz15, kz15b⟩, zall, zdp, zS0⟩ := id hLZ
  have tp1 : tpz Y a0 N0 = 1 := by have z := rg_1 hr0; rw [Nat.add_sub_cancel_left] at z; exact z
  have hmv : ∀ k, k < 28 → ¬ mb mk k = 0 → k % 14 < P := fun k hk hb => (hLC.2.2 k (by omega) hb).2.1
  have hmv2 : ∀ k, k < 28 → ¬ mb mk k = 0 → k < P := fun k hk hb => by
    have z := hLC.2.2 k (by omega) hb
    have : k < 14 := Nat.lt_of_not_le (fun y => hnx (z.2.2 y))
    have := z.2.1
    omega
  obtain ⟨T0, hT0⟩ : ∃ T0, T0 = tqz mk f 28 := ⟨_, rfl⟩
  have hTw := tqz_28 hT0 hmv2 hP
  have hf := fun k hk => Nat.le_trans (show 1 ≤ 2 by decide) (hk5 k hk).2.2.2
  have hwl := wn_le (mk := mk) (n := P) hf (Nat.le_refl P)
  rw [Nat.sub_self] at hwl
  have hT1 : 1 ≤ T0 := by omega
  have hT2 : T0 ≤ 16384 := by omega
  obtain ⟨TN, hTN⟩ : ∃ TN, TN = (T0 + W - 1) / W := ⟨_, rfl⟩
  have hTNb : TN ≤ 17407 := by rw [hTN]; exact Nat.le_trans (Nat.div_le_self _ _) (by omega)
  have hpj : ∀ s, s < pd f 0 P → pj mk f P P s < T0 := fun s hs => by
    have := pj_lt (mk := mk) (n := P) hf (Nat.le_refl P) s (by rw [Nat.sub_self]; exact hs)
    omega
  refine mu_meth (M := mu_m257) rfl rfl ?_
  refine mw_ht (mu_fn_of (show [0, 1, 2].Nodup by decide)) ?_
  refine mw_go mu_g257 (k := 1) (f1 := (1, [(0, .inr (.inr (some 99))), (1, .inl (-1 : Int32)), (2, .inr (.inr (some 126)))], [.inl (-1 : Int32)], H)) (C := []) rfl trivial ?_
  refine mw_if (P := (-1 : Int32) < 0) (a := 4) (b := 8) (fun _ => rfl) trivial (fun h1 => ?_) (fun h1 => absurd (by decide) h1)
  refine mw_go mu_g257 (k := 4) (f1 := (22, [(3, .inl (-1 : Int32)), (0, .inr (.inr (some 99))), (1, .inl (-1 : Int32)), (2, .inr (.inr (some 126)))], [.inl (-1 : Int32)], H)) (C := []) rfl trivial ?_
  refine mw_if (P := (-1 : Int32) < 0) (a := 25) (b := 35) (fun _ => rfl) trivial (fun h2 => ?_) (fun h2 => absurd (by decide) h2)
  refine mw_go mu_g257 (k := 2) (f1 := (29, [(3, .inl (-1 : Int32)), (0, .inr (.inr (some 99))), (1, .inl (-1 : Int32)), (2, .inr (.inr (some 126)))], [.inr (.inr (mu_r H 99 1))], H)) (C := [mu_is H (some 99) 13]) rfl (show mu_is H (some 99) 13 from (h.1.1.is rfl)) ?_
  rw [(h.1.1.r (p := 99) (j := 1) (q := 100) rfl)]
  refine mw_go mu_g257 (k := 1) (f1 := (32, [(3, .inl (-1 : Int32)), (0, .inr (.inr (some 99))), (1, .inl (-1 : Int32)), (2, .inr (.inr (some 126)))], [.inl (mu_i H 100 4)], H)) (C := [mu_is H (some 100) 5]) rfl (show mu_is H (some 100) 5 from (h.1.1.is rfl)) ?_
  rw [(show mu_i H 100 4 = mk from (ud_i (U := U) (m := m) (P := 100) (j := 4) e rfl).trans kz4)]
  refine mw_go mu_g257 (k := 4) (f1 := (52, [(4, .inl mk), (3, .inl (-1 : Int32)), (0, .inr (.inr (some 99))), (1, .inl (-1 : Int32)), (2, .inr (.inr (some 126)))], [.inr (.inr (mu_r H 99 1))], H)) (C := [mu_is H (some 99) 13]) rfl (show mu_is H (some 99) 13 from (h.1.1.is rfl)) ?_
  rw [(h.1.1.r (p := 99) (j := 1) (q := 100) rfl)]
  refine mw_go mu_g257 (k := 1) (f1 := (54, [(4, .inl mk), (3, .inl (-1 : Int32)), (0, .inr (.inr (some 99))), (1, .inl (-1 : Int32)), (2, .inr (.inr (some 126)))], [.inl mk, .inr (.inr (some 100))], H)) (C := []) rfl trivial ?_
  obtain ⟨St, hSt⟩ : ∃ St, St = wgs mk f U.1 28 := ⟨_, rfl⟩
  refine mw_cI (fun _ => rfl) (show mu_is H (some 100) 5 from (h.1.1.is rfl)) (mc_rewind2 (d := (d + 1)) (C := C) (A := (S0 + K + sfz Y a0 N0 + dp)) (T0 := T0) (St := St) (mv := mk) h e hS kz17 w1 w2 kz8 (by unfold clz at zcl; omega) kz12 (by omega) kz4 hsx (by omega) hT0 hSt hf1 hmv (by rw [← hT0]; omega)) (fun x3 Q3 q3 => ?_)
  obtain ⟨rfl, u3, r3, z3, l18, l21, l19, l20, hsi⟩ := q3
  have ht3 : ur m C H Q3 := (ur.refl m C H).trans r3
  obtain ⟨V3, d3⟩ : ∃ V, ud m Q3 = V := ⟨_, rfl⟩
  rw [d3] at z3 l18 l21 l19 l20 hsi
  have qf3 : uq F257 U V3 := (uq.refl F257 U).tr z3 rfl
  rw [← hTN]
  refine mw_go mu_g257 (k := 3) (f1 := (63, [(5, .inl (nI TN)), (4, .inl mk), (3, .inl (-1 : Int32)), (0, .inr (.inr (some 99))), (1, .inl (-1 : Int32)), (2, .inr (.inr (some 126)))], [.inr (.inr (mu_r Q3 99 17))], Q3)) (C := [mu_is Q3 (some 99) 13]) rfl (show mu_is Q3 (some 99) 13 from (u3.1.1.is rfl)) ?_
  rw [(u3.1.1.r (p := 99) (j := 17) (q := 127) rfl)]
  refine mw_go mu_g257 (k := 3) (f1 := (68, [(5, .inl (nI TN)), (4, .inl mk), (3, .inl (-1 : Int32)), (0, .inr (.inr (some 99))), (1, .inl (-1 : Int32)), (2, .inr (.inr (some 126)))], [.inr (.inr (mu_r Q3 99 1)), .inl (0 : Int32), .inr (.inr (some 127))], Q3)) (C := [mu_is Q3 (some 99) 13]) rfl (show mu_is Q3 (some 99) 13 from (u3.1.1.is rfl)) ?_
  rw [(u3.1.1.r (p := 99) (j := 1) (q := 100) rfl)]
  refine mw_go mu_g257 (k := 1) (f1 := (71, [(5, .inl (nI TN)), (4, .inl mk), (3, .inl (-1 : Int32)), (0, .inr (.inr (some 99))), (1, .inl (-1 : Int32)), (2, .inr (.inr (some 126)))], [.inl (mu_i Q3 100 20), .inl (0 : Int32), .inr (.inr (some 127))], Q3)) (C := [mu_is Q3 (some 100) 5]) rfl (show mu_is Q3 (some 100) 5 from (u3.1.1.is rfl)) ?_
  rw [(show mu_i Q3 100 20 = (nI T0) from (ud_i (U := V3) (m := m) (P := 100) (j := 20) d3 rfl).trans l20)]
  refine mw_go mu_g257 (k := 2) (f1 := (74, [(5, .inl (nI TN)), (4, .inl mk), (3, .inl (-1 : Int32)), (0, .inr (.inr (some 99))), (1, .inl (-1 : Int32)), (2, .inr (.inr (some 126)))], [.inl ((nI T0) + (63 : Int32)), .inl (0 : Int32), .inr (.inr (some 127))], Q3)) (C := []) rfl trivial ?_
  rw [(show ((nI T0) + (63 : Int32)) = (nI (T0 + 63)) from (nI_add T0 63))]
  refine mw_go mu_g257 (k := 2) (f1 := (77, [(5, .inl (nI TN)), (4, .inl mk), (3, .inl (-1 : Int32)), (0, .inr (.inr (some 99))), (1, .inl (-1 : Int32)), (2, .inr (.inr (some 126)))], [.inl ((nI (T0 + 63)) >>> ((6 : Int32) &&& 31)), .inl (0 : Int32), .inr (.inr (some 127))], Q3)) (C := []) rfl trivial ?_
  rw [(show ((nI (T0 + 63)) >>> ((6 : Int32) &&& 31)) = (nI ((T0 + 63) / 64)) from (nI_shr6 (a := T0 + 63) (by omega)))]
  refine mw_go mu_g257 (k := 1) (f1 := (78, [(5, .inl (nI TN)), (4, .inl mk), (3, .inl (-1 : Int32)), (0, .inr (.inr (some 99))), (1, .inl (-1 : Int32)), (2, .inr (.inr (some 126)))], [.inr (.inl (0 : Int64)), .inl (nI ((T0 + 63) / 64)), .inl (0 : Int32), .inr (.inr (some 127))], Q3)) (C := []) rfl trivial ?_
  refine mw_cV (fun _ => rfl) trivial ((ar_fillL_ok (d := (d + 4)) (v := (0 : Int64)) (a := 0) (b := (T0 + 63) / 64) ((u3.1.1.a (p := 127) (x := (102, 256)) rfl).1) (by omega) (by rw [show mu_n Q3 (mu_p (some 127)) = 256 from (u3.1.1.a (p := 127) (x := (102, 256)) rfl).2]; omega) (by rw [show mu_n Q3 (mu_p (some 127)) = 256 from (u3.1.1.a (p := 127) (x := (102, 256)) rfl).2]; decide)).imp (fun Hx qx => show um m Hx ∧ ur m C Q3 Hx ∧ ud m Hx = (upM V3 127 0 (fun _ => (0 : Int64)) (((T0 + 63) / 64) - 0)) by rw [qx]; exact u3.fL (C := C) d3 rfl)) (fun Q4 q4 => ?_)
  obtain ⟨u4, r4, d4⟩ := q4
  have ht4 : ur m C H Q4 := ht3.trans r4
  have qf4 : uq F257 U (upM V3 127 0 (fun _ => (0 : Int64)) (((T0 + 63) / 64) - 0)) := qf3.M rfl
  refine mw_go mu_g257 (k := 1) (f1 := (82, [(5, .inl (nI TN)), (4, .inl mk), (3, .inl (-1 : Int32)), (0, .inr (.inr (some 99))), (1, .inl (-1 : Int32)), (2, .inr (.inr (some 126)))], [.inl (-1 : Int32)], Q4)) (C := []) rfl trivial ?_
  refine mw_if (P := (-1 : Int32) < 0) (a := 85) (b := 89) (fun _ => rfl) trivial (fun h5 => ?_) (fun h5 => absurd (by decide) h5)
  refine mw_go mu_g257 (k := 7) (f1 := (109, [(8, .inl (0 : Int32)), (7, .inl (0 : Int32)), (6, .inl (0 : Int32)), (5, .inl (nI TN)), (4, .inl mk), (3, .inl (-1 : Int32)), (0, .inr (.inr (some 99))), (1, .inl (-1 : Int32)), (2, .inr (.inr (some 126)))], [], Q4)) (C := []) rfl trivial ?_
  show mu_W _ _ (109, [(8, .inl (nI 0)), (7, .inl (nI (mwz W T0 0))), (6, .inl (0 : Int32)), (5, .inl (nI TN)), (4, .inl mk), (3, .inl (-1 : Int32)), (0, .inr (.inr (some 99))), (1, .inl (-1 : Int32)), (2, .inr (.inr (some 126)))], [], Q4) _
  refine mw_sub (L' := [(8, .inl (nI 0)), (7, .inl (nI (mwz W T0 0))), (0, .inr (.inr (some 99))), (1, .inl (-1 : Int32)), (2, .inr (.inr (some 126))), (3, .inl (-1 : Int32)), (4, .inl mk), (5, .inl (nI TN)), (6, .inl (0 : Int32))]) (by simp) ?_
  refine mw_down (α := Nat × mu_H) (fun zs => (109, [(8, .inl (nI zs.1)), (7, .inl (nI (mwz W T0 zs.1))), (0, .inr (.inr (some 99))), (1, .inl (-1 : Int32)), (2, .inr (.inr (some 126))), (3, .inl (-1 : Int32)), (4, .inl mk), (5, .inl (nI TN)), (6, .inl (0 : Int32))], [], zs.2)) (fun zs => TN - zs.1) (fun zs => um m zs.2 ∧ ur m C H zs.2 ∧ (uq F257a (upM V3 127 0 (fun _ => (0 : Int64)) (((T0 + 63) / 64) - 0)) (ud m zs.2)) ∧ (zs.1 ≤ TN) ∧ (∀ x, x < 64 * ((T0 + 63) / 64) → tbz (ud m zs.2) x = (decide (x < min (zs.1 * W) T0) && decide (¬ trz Y U f mk od i0 a0 N0 x = 0))) ∧ ((ud m zs.2).2.1 100 20 = nI T0) ∧ (sds (ud m zs.2) W P S0 f mk (bcn mk) (wqz mk f)) ∧ (zs.1 * W < T0 → (ud m zs.2).2.1 100 19 = nI (zs.1 * W) ∧ (ud m zs.2).2.1 100 18 = nI (min W (T0 - zs.1 * W)) ∧ (ud m zs.2).2.1 100 21 = 1 ∧ ∃ Ub : Ud, Ub.2.2.1 99 8 = U.2.2.1 99 8 ∧ sdi Ub (ud m zs.2) W (min W (T0 - zs.1 * W)) P S0 f mk (bcn mk) (wqz mk f) (zs.1 * W) (fun q => q < 28))) (fun zs hza iha => ?_) (0, Q4) ⟨u4, ht4, (show uq F257a (upM V3 127 0 (fun _ => (0 : Int64)) (((T0 + 63) / 64) - 0)) (ud m Q4) from by rw [d4]; exact uq.refl _ _), (show 0 ≤ TN from (by omega)), (show ∀ x, x < 64 * ((T0 + 63) / 64) → tbz (ud m Q4) x = (decide (x < min (0 * W) T0) && decide (¬ trz Y U f mk od i0 a0 N0 x = 0)) from by rw [d4]; exact (fun x hx => by rw [tbz_0 hx]; simp)), (show (ud m Q4).2.1 100 20 = nI T0 from by rw [d4]; exact l20), (show sds (ud m Q4) W P S0 f mk (bcn mk) (wqz mk f) from by rw [d4]; exact (sds_same hsi.1 (show ((upM V3 127 0 (fun _ => (0 : Int64)) (((T0 + 63) / 64) - 0)).1 22) = (V3.1 22) from rfl) (show ((upM V3 127 0 (fun _ => (0 : Int64)) (((T0 + 63) / 64) - 0)).2.2.1 99 8) = (V3.2.2.1 99 8) from rfl) (show ((upM V3 127 0 (fun _ => (0 : Int64)) (((T0 + 63) / 64) - 0)).2.2.1 100 8) = (V3.2.2.1 100 8) from rfl))), (show 0 * W < T0 → (ud m Q4).2.1 100 19 = nI (0 * W) ∧ (ud m Q4).2.1 100 18 = nI (min W (T0 - 0 * W)) ∧ (ud m Q4).2.1 100 21 = 1 ∧ ∃ Ub : Ud, Ub.2.2.1 99 8 = U.2.2.1 99 8 ∧ sdi Ub (ud m Q4) W (min W (T0 - 0 * W)) P S0 f mk (bcn mk) (wqz mk f) (0 * W) (fun q => q < 28) from by rw [d4]; exact (fun _ => ⟨(show (upM V3 127 0 (fun _ => (0 : Int64)) (((T0 + 63) / 64) - 0)).2.1 100 19 = nI (0 * W) from l19.trans (by rw [Nat.zero_mul]; rfl)), by rw [Nat.zero_mul]; exact l18, l21, _, (show (upI (upI (upT U St) 100 20 (nI T0)) 100 19 0).2.2.1 99 8 = U.2.2.1 99 8 from rfl), by rw [Nat.zero_mul]; exact sdi_L hsi⟩))⟩
  obtain ⟨i, Hsa⟩ := zs
  obtain ⟨ua, hta, da, hi, hTa, h20, hX, hE4⟩ := hza
  have ua : um m Hsa := ua
  have hta : ur m C H Hsa := hta
  have zza : uq F257a (upM V3 127 0 (fun _ => (0 : Int64)) (((T0 + 63) / 64) - 0)) (ud m Hsa) := da
  have hi : i ≤ TN := hi
  have hTa : ∀ x, x < 64 * ((T0 + 63) / 64) → tbz (ud m Hsa) x = (decide (x < min (i * W) T0) && decide (¬ trz Y U f mk od i0 a0 N0 x = 0)) := hTa
  have h20 : (ud m Hsa).2.1 100 20 = nI T0 := h20
  have hX : sds (ud m Hsa) W P S0 f mk (bcn mk) (wqz mk f) := hX
  have hE4 : i * W < T0 → (ud m Hsa).2.1 100 19 = nI (i * W) ∧ (ud m Hsa).2.1 100 18 = nI (min W (T0 - i * W)) ∧ (ud m Hsa).2.1 100 21 = 1 ∧ ∃ Ub : Ud, Ub.2.2.1 99 8 = U.2.2.1 99 8 ∧ sdi Ub (ud m Hsa) W (min W (T0 - i * W)) P S0 f mk (bcn mk) (wqz mk f) (i * W) (fun q => q < 28) := hE4
  obtain ⟨Va, da⟩ : ∃ V, ud m Hsa = V := ⟨_, rfl⟩
  rw [da] at zza hTa h20 hX hE4
  have qfa : uq F257 U Va := qf4.tr zza rfl
  show mu_W _ _ (109, [(8, .inl (nI i)), (7, .inl (nI (mwz W T0 i))), (0, .inr (.inr (some 99))), (1, .inl (-1 : Int32)), (2, .inr (.inr (some 126))), (3, .inl (-1 : Int32)), (4, .inl mk), (5, .inl (nI TN)), (6, .inl (0 : Int32))], [], Hsa) _
  refine mw_go mu_g257 (k := 2) (f1 := (113, [(8, .inl (nI i)), (7, .inl (nI (mwz W T0 i))), (0, .inr (.inr (some 99))), (1, .inl (-1 : Int32)), (2, .inr (.inr (some 126))), (3, .inl (-1 : Int32)), (4, .inl mk), (5, .inl (nI TN)), (6, .inl (0 : Int32))], [.inl (nI TN), .inl (nI i)], Hsa)) (C := []) rfl trivial ?_
  refine mw_if (P := (nI i) < (nI TN)) (a := 116) (b := 254) (fun _ => rfl) trivial (fun h6 => ?_) (fun h6 => ?_)
  · -- 116: (nI i) < (nI TN)
    have nh6 : i < TN := (nI_ltI (by omega) (by omega)).mp (show nI i < nI TN from h6)
    have hiW := turns_lt w1 (by rw [← hTN]; exact nh6)
    obtain ⟨e19, e18, e21, Ub, eb98, esd⟩ := hE4 hiW
    obtain ⟨l, hl⟩ : ∃ l, l = min W (T0 - i * W) := ⟨_, rfl⟩
    rw [← hl] at e18 esd
    have hl1 : 1 ≤ l := by omega
    have hlW : l ≤ W := by omega
    rw [show nI (mwz W T0 i) = nI (i * W + 0) from congrArg nI (by rw [mwz_eq]; omega)]
    refine mw_go mu_g257 (k := 2) (f1 := (120, [(8, .inl (nI i)), (7, .inl (nI (i * W + 0))), (0, .inr (.inr (some 99))), (1, .inl (-1 : Int32)), (2, .inr (.inr (some 126))), (3, .inl (-1 : Int32)), (4, .inl mk), (5, .inl (nI TN)), (6, .inl (0 : Int32))], [.inr (.inr (mu_r Hsa 99 1))], Hsa)) (C := [mu_is Hsa (some 99) 13]) rfl (show mu_is Hsa (some 99) 13 from (ua.1.1.is rfl)) ?_
    rw [(ua.1.1.r (p := 99) (j := 1) (q := 100) rfl)]
    refine mw_cV (fun _ => rfl) (show mu_is Hsa (some 100) 5 from (ua.1.1.is rfl)) (mc_runS (d := d) (C := C) (es := es) (rs := rs) (al := al) (kd := kd) (NX := NX) (P := P) (dp := dp) (K := K) (S0 := S0) (W := W) (l := l) (mk := mk) (od := od) (M := M) (rk := rk) (cp := sfz Y a0 N0) (vn := fun j => vlz U f mk 0 (i * W + j)) (vx := fun j => vlz U f mk 14 (i * W + j)) ua da (show Va.2.2.2.1 100 0 = some 99 from ((zza.r 100 0 rfl).trans ((z3.r 100 0 rfl).trans hsp))) (show Va.2.2.2.1 99 0 = some m from ((zza.r 99 0 rfl).trans ((z3.r 99 0 rfl).trans hmo))) (jv_to hj (show (Va.1 0) = (U.1 0) from ((zza.t 0 rfl).trans (z3.t 0 rfl))) (show (Va.1 1) = (U.1 1) from ((zza.t 1 rfl).trans (z3.t 1 rfl))) (show (Va.1 2) = (U.1 2) from ((zza.t 2 rfl).trans (z3.t 2 rfl))) (show (Va.1 3) = (U.1 3) from ((zza.t 3 rfl).trans (z3.t 3 rfl))) (show (Va.1 4) = (U.1 4) from ((zza.t 4 rfl).trans (z3.t 4 rfl))) (show (Va.1 5) = (U.1 5) from ((zza.t 5 rfl).trans (z3.t 5 rfl))) (show (Va.1 6) = (U.1 6) from ((zza.t 6 rfl).trans (z3.t 6 rfl))) (show (Va.1 7) = (U.1 7) from ((zza.t 7 rfl).trans (z3.t 7 rfl))) (show (Va.1 8) = (U.1 8) from ((zza.t 8 rfl).trans (z3.t 8 rfl))) (show (Va.1 9) = (U.1 9) from ((zza.t 9 rfl).trans (z3.t 9 rfl))) (show (Va.1 10) = (U.1 10) from ((zza.t 10 rfl).trans (z3.t 10 rfl))) (show (Va.1 11) = (U.1 11) from ((zza.t 11 rfl).trans (z3.t 11 rfl))) (show (Va.1 12) = (U.1 12) from ((zza.t 12 rfl).trans (z3.t 12 rfl))) (show (Va.1 13) = (U.1 13) from ((zza.t 13 rfl).trans (z3.t 13 rfl))) (show (Va.1 15) = (U.1 15) from ((zza.t 15 rfl).trans (z3.t 15 rfl))) (show (Va.1 16) = (U.1 16) from ((zza.t 16 rfl).trans (z3.t 16 rfl))) (show (Va.1 17) = (U.1 17) from ((zza.t 17 rfl).trans (z3.t 17 rfl)))) hW (by rw [(show (Va.1 14) = (U.1 14) from ((zza.t 14 rfl).trans (z3.t 14 rfl)))]; exact hT) hY hN (LR_keep hLR (show (Va.1 21) = (U.1 21) from ((zza.t 21 rfl).trans (z3.t 21 rfl))) (show (Va.2.2.1 100 3) = (U.2.2.1 100 3) from ((zza.a 100 3 rfl).trans (z3.a 100 3 rfl)))) (LZx_keep hLZ (show (Va.2.1 100 5) = (U.2.1 100 5) from ((zza.i 100 5 rfl).trans (z3.i 100 5 rfl))) (show (Va.2.1 100 7) = (U.2.1 100 7) from ((zza.i 100 7 rfl).trans (z3.i 100 7 rfl))) (show (Va.2.1 100 17) = (U.2.1 100 17) from (((zza.i 100 17 rfl).trans ((z3.i 100 17 rfl).trans kz17)).trans kz17.symm)) (show (Va.2.1 100 4) = (U.2.1 100 4) from (((zza.i 100 4 rfl).trans ((z3.i 100 4 rfl).trans kz4)).trans kz4.symm)) (show (Va.2.2.1 100 8).1 = (U.2.2.1 100 8).1 from ((zza.n 100 8 rfl).trans (z3.n 100 8 rfl))) (show (Va.2.2.1 100 12).1 = (U.2.2.1 100 12).1 from ((zza.n 100 12 rfl).trans (z3.n 100 12 rfl))) (show (Va.2.2.1 100 13).1 = (U.2.2.1 100 13).1 from ((zza.n 100 13 rfl).trans (z3.n 100 13 rfl))) (show (Va.2.2.1 100 15).1 = (U.2.2.1 100 15).1 from ((zza.n 100 15 rfl).trans (z3.n 100 15 rfl)))) (by rw [(show (Va.1 15) = (U.1 15) from ((zza.t 15 rfl).trans (z3.t 15 rfl)))]; exact hLC) hP hi0 hr0 hs0 hal (fun j hj => (hVT (i * W + j)).1) (fun j hj => (hVT (i * W + j)).2) (fun k hk hb => ⟨(esd.1.2.1 k hk hb).2.1, (esd.1.2.1 k hk hb).2.2.1⟩) (sv_sdi esd (show (Va.1 15) = (U.1 15) from ((zza.t 15 rfl).trans (z3.t 15 rfl))) eb98 (fun _ _ z => z) hf1 hP) (show Va.2.1 100 18 = nI l from e18) hl1 hlW (show Va.2.1 100 21 = 1 from e21)) (fun Q7 q7 => ?_)
    obtain ⟨u7, r7, z7, y21, ⟨V0, it, hri⟩, -, -, hck⟩ := q7
    have ht7 : ur m C H Q7 := hta.trans r7
    obtain ⟨V7, d7⟩ : ∃ V, ud m Q7 = V := ⟨_, rfl⟩
    rw [d7] at z7 y21 hri hck
    have qf7 : uq F257 U V7 := qfa.tr z7 rfl
    refine mw_go mu_g257 (k := 2) (f1 := (127, [(8, .inl (nI i)), (7, .inl (nI (i * W + 0))), (0, .inr (.inr (some 99))), (1, .inl (-1 : Int32)), (2, .inr (.inr (some 126))), (3, .inl (-1 : Int32)), (4, .inl mk), (5, .inl (nI TN)), (6, .inl (0 : Int32))], [.inr (.inr (mu_r Q7 99 1))], Q7)) (C := [mu_is Q7 (some 99) 13]) rfl (show mu_is Q7 (some 99) 13 from (u7.1.1.is rfl)) ?_
    rw [(u7.1.1.r (p := 99) (j := 1) (q := 100) rfl)]
    refine mw_cA (fun _ => rfl) (show mu_is Q7 (some 100) 5 from (u7.1.1.is rfl)) (mc_results (d := (d + 2)) (C := C) u7 d7 hri.1 (by rw [tp1]; decide)) (fun x8 Q8 q8 => ?_)
    obtain ⟨rfl, u8, r8, z8, hres⟩ := q8
    have ht8 : ur m C H Q8 := ht7.trans r8
    obtain ⟨V8, d8⟩ : ∃ V, ud m Q8 = V := ⟨_, rfl⟩
    rw [d8] at z8 hres
    have qf8 : uq F257 U V8 := qf7.tr z8 rfl
    have hres2 : ∀ k, k < l → (V8.2.2.1 100 9).2 k = trz Y U f mk od i0 a0 N0 (i * W + k) := fun k hk => (hres k hk).trans (hri.2.2.1 0 k (by rw [tp1]; decide) hk)
    refine mw_go mu_g257 (k := 3) (f1 := (135, [(10, .inl (0 : Int32)), (9, .inr (.inr (some 107))), (8, .inl (nI i)), (7, .inl (nI (i * W + 0))), (0, .inr (.inr (some 99))), (1, .inl (-1 : Int32)), (2, .inr (.inr (some 126))), (3, .inl (-1 : Int32)), (4, .inl mk), (5, .inl (nI TN)), (6, .inl (0 : Int32))], [], Q8)) (C := []) rfl trivial ?_
    show mu_W _ _ (135, [(10, .inl (nI 0)), (9, .inr (.inr (some 107))), (8, .inl (nI i)), (7, .inl (nI (i * W + 0))), (0, .inr (.inr (some 99))), (1, .inl (-1 : Int32)), (2, .inr (.inr (some 126))), (3, .inl (-1 : Int32)), (4, .inl mk), (5, .inl (nI TN)), (6, .inl (0 : Int32))], [], Q8) _
    refine mw_sub (L' := [(10, .inl (nI 0)), (7, .inl (nI (i * W + 0))), (0, .inr (.inr (some 99))), (1, .inl (-1 : Int32)), (2, .inr (.inr (some 126))), (3, .inl (-1 : Int32)), (4, .inl mk), (5, .inl (nI TN)), (6, .inl (0 : Int32)), (8, .inl (nI i)), (9, .inr (.inr (some 107)))]) (by simp) ?_
    refine mw_down (α := Nat × mu_H) (fun zs => (135, [(10, .inl (nI zs.1)), (7, .inl (nI (i * W + zs.1))), (0, .inr (.inr (some 99))), (1, .inl (-1 : Int32)), (2, .inr (.inr (some 126))), (3, .inl (-1 : Int32)), (4, .inl mk), (5, .inl (nI TN)), (6, .inl (0 : Int32)), (8, .inl (nI i)), (9, .inr (.inr (some 107)))], [], zs.2)) (fun zs => l - zs.1) (fun zs => um m zs.2 ∧ ur m C H zs.2 ∧ (uq F257b V8 (ud m zs.2)) ∧ (zs.1 ≤ l) ∧ (∀ x, x < 64 * ((T0 + 63) / 64) → tbz (ud m zs.2) x = (decide (x < i * W + zs.1) && decide (¬ trz Y U f mk od i0 a0 N0 x = 0)))) (fun zs hzb ihb => ?_) (0, Q8) ⟨u8, ht8, (show uq F257b V8 (ud m Q8) from by rw [d8]; exact uq.refl _ _), (show 0 ≤ l from (by omega)), (show ∀ x, x < 64 * ((T0 + 63) / 64) → tbz (ud m Q8) x = (decide (x < i * W + 0) && decide (¬ trz Y U f mk od i0 a0 N0 x = 0)) from by rw [d8]; exact (fun x hx => (tbz_l (show V8.2.2.2.2.1 127 = Va.2.2.2.2.1 127 from ((z8.l 127 rfl).trans (z7.l 127 rfl))) x).trans ((hTa x hx).trans (by rw [show min (i * W) T0 = i * W + 0 by omega]))))⟩
    obtain ⟨k, Hsb⟩ := zs
    obtain ⟨ub, htb, db, hk, hTb⟩ := hzb
    have ub : um m Hsb := ub
    have htb : ur m C H Hsb := htb
    have zzb : uq F257b V8 (ud m Hsb) := db
    have hk : k ≤ l := hk
    have hTb : ∀ x, x < 64 * ((T0 + 63) / 64) → tbz (ud m Hsb) x = (decide (x < i * W + k) && decide (¬ trz Y U f mk od i0 a0 N0 x = 0)) := hTb
    obtain ⟨Vb, db⟩ : ∃ V, ud m Hsb = V := ⟨_, rfl⟩
    rw [db] at zzb hTb
    have qfb : uq F257 U Vb := qf8.tr zzb rfl
    show mu_W _ _ (135, [(10, .inl (nI k)), (7, .inl (nI (i * W + k))), (0, .inr (.inr (some 99))), (1, .inl (-1 : Int32)), (2, .inr (.inr (some 126))), (3, .inl (-1 : Int32)), (4, .inl mk), (5, .inl (nI TN)), (6, .inl (0 : Int32)), (8, .inl (nI i)), (9, .inr (.inr (some 107)))], [], Hsb) _
    refine mw_go mu_g257 (k := 3) (f1 := (141, [(10, .inl (nI k)), (7, .inl (nI (i * W + k))), (0, .inr (.inr (some 99))), (1, .inl (-1 : Int32)), (2, .inr (.inr (some 126))), (3, .inl (-1 : Int32)), (4, .inl mk), (5, .inl (nI TN)), (6, .inl (0 : Int32)), (8, .inl (nI i)), (9, .inr (.inr (some 107)))], [.inr (.inr (mu_r Hsb 99 1)), .inl (nI k)], Hsb)) (C := [mu_is Hsb (some 99) 13]) rfl (show mu_is Hsb (some 99) 13 from (ub.1.1.is rfl)) ?_
    rw [(ub.1.1.r (p := 99) (j := 1) (q := 100) rfl)]
    refine mw_go mu_g257 (k := 1) (f1 := (144, [(10, .inl (nI k)), (7, .inl (nI (i * W + k))), (0, .inr (.inr (some 99))), (1, .inl (-1 : Int32)), (2, .inr (.inr (some 126))), (3, .inl (-1 : Int32)), (4, .inl mk), (5, .inl (nI TN)), (6, .inl (0 : Int32)), (8, .inl (nI i)), (9, .inr (.inr (some 107)))], [.inl (mu_i Hsb 100 18), .inl (nI k)], Hsb)) (C := [mu_is Hsb (some 100) 5]) rfl (show mu_is Hsb (some 100) 5 from (ub.1.1.is rfl)) ?_
    rw [(show mu_i Hsb 100 18 = (nI l) from (ud_i (U := Vb) (m := m) (P := 100) (j := 18) db rfl).trans ((zzb.i 100 18 rfl).trans ((z8.i 100 18 rfl).trans ((z7.i 100 18 rfl).trans e18))))]
    refine mw_if (P := (nI k) < (nI l)) (a := 147) (b := 241) (fun _ => rfl) trivial (fun h9 => ?_) (fun h9 => ?_)
    · -- 147: (nI k) < (nI l)
      have nh9 : k < l := (nI_ltI (by omega) (by omega)).mp (show nI k < nI l from h9)
      refine mw_go mu_g257 (k := 1) (f1 := (148, [(10, .inl (nI k)), (7, .inl (nI (i * W + k))), (0, .inr (.inr (some 99))), (1, .inl (-1 : Int32)), (2, .inr (.inr (some 126))), (3, .inl (-1 : Int32)), (4, .inl mk), (5, .inl (nI TN)), (6, .inl (0 : Int32)), (8, .inl (nI i)), (9, .inr (.inr (some 107)))], [.inl (-1 : Int32)], Hsb)) (C := []) rfl trivial ?_
      refine mw_if (P := (-1 : Int32) < 0) (a := 151) (b := 167) (fun _ => rfl) trivial (fun h10 => ?_) (fun h10 => absurd (by decide) h10)
      refine mw_go mu_g257 (k := 3) (f1 := (156, [(10, .inl (nI k)), (7, .inl (nI (i * W + k))), (0, .inr (.inr (some 99))), (1, .inl (-1 : Int32)), (2, .inr (.inr (some 126))), (3, .inl (-1 : Int32)), (4, .inl mk), (5, .inl (nI TN)), (6, .inl (0 : Int32)), (8, .inl (nI i)), (9, .inr (.inr (some 107)))], [.inl (mu_i Hsb 107 (nI k).toNatClampNeg)], Hsb)) (C := [mu_isr Hsb (some 107) 100, vp_in (nI k) (mu_n Hsb 107)]) rfl (show (mu_isr Hsb (some 107) 100) ∧ (vp_in (nI k) (mu_n Hsb 107)) from ⟨((ub.iA db rfl rfl ((ud_q (m := m) (P := 100) (j := 9) db rfl).symm.trans (ub.1.1.r (p := 100) (j := 9) (q := 107) rfl)))).r, (by rw [show mu_n Hsb 107 = 1024 from (ub.1.1.a (p := 107) (x := (100, 1024)) rfl).2]; exact vp_in_nI (n := k) (by omega) (by decide))⟩) ?_
      rw [(show (mu_i Hsb 107 (nI k).toNatClampNeg) = (trz Y U f mk od i0 a0 N0 (i * W + k)) from ((congrArg (mu_i Hsb 107) (show (nI k).toNatClampNeg = k from nI_clamp (by omega))).trans (ub.gA db rfl rfl ((ud_q (m := m) (P := 100) (j := 9) db rfl).symm.trans (ub.1.1.r (p := 100) (j := 9) (q := 107) rfl)))).trans ((congrArg (fun z => z.2 k) (show Vb.2.2.1 100 9 = (V8.2.2.1 100 9) from (zzb.a 100 9 rfl))).trans (hres2 k (by omega))))]
      refine mw_if (P := (trz Y U f mk od i0 a0 N0 (i * W + k)) = 0) (a := 163) (b := 159) (fun _ => rfl) trivial (fun h11 => ?_) (fun h11 => ?_)
      · -- 163: (trz Y U f mk od i0 a0 N0 (i * W + k)) = 0
        refine mw_go mu_g257 (k := 5) (f1 := (210, [(11, .inl (0 : Int32)), (10, .inl (nI k)), (7, .inl (nI (i * W + k))), (0, .inr (.inr (some 99))), (1, .inl (-1 : Int32)), (2, .inr (.inr (some 126))), (3, .inl (-1 : Int32)), (4, .inl mk), (5, .inl (nI TN)), (6, .inl (0 : Int32)), (8, .inl (nI i)), (9, .inr (.inr (some 107)))], [.inr (.inr (mu_r Hsb 99 17))], Hsb)) (C := [mu_is Hsb (some 99) 13]) rfl (show mu_is Hsb (some 99) 13 from (ub.1.1.is rfl)) ?_
        rw [(ub.1.1.r (p := 99) (j := 17) (q := 127) rfl)]
        refine mw_go mu_g257 (k := 3) (f1 := (215, [(11, .inl (0 : Int32)), (10, .inl (nI k)), (7, .inl (nI (i * W + k))), (0, .inr (.inr (some 99))), (1, .inl (-1 : Int32)), (2, .inr (.inr (some 126))), (3, .inl (-1 : Int32)), (4, .inl mk), (5, .inl (nI TN)), (6, .inl (0 : Int32)), (8, .inl (nI i)), (9, .inr (.inr (some 107)))], [.inl ((nI (i * W + k)) >>> ((6 : Int32) &&& 31)), .inr (.inr (some 127))], Hsb)) (C := []) rfl trivial ?_
        rw [(show ((nI (i * W + k)) >>> ((6 : Int32) &&& 31)) = (nI ((i * W + k) / 64)) from (nI_shr6 (a := i * W + k) (by omega)))]
        refine mw_go mu_g257 (k := 2) (f1 := (217, [(11, .inl (0 : Int32)), (10, .inl (nI k)), (7, .inl (nI (i * W + k))), (0, .inr (.inr (some 99))), (1, .inl (-1 : Int32)), (2, .inr (.inr (some 126))), (3, .inl (-1 : Int32)), (4, .inl mk), (5, .inl (nI TN)), (6, .inl (0 : Int32)), (8, .inl (nI i)), (9, .inr (.inr (some 107)))], [.inr (.inl (mu_l Hsb 127 (nI ((i * W + k) / 64)).toNatClampNeg)), .inl (nI ((i * W + k) / 64)), .inr (.inr (some 127))], Hsb)) (C := [mu_isr Hsb (some 127) 102, vp_in (nI ((i * W + k) / 64)) (mu_n Hsb 127)]) rfl (show (mu_isr Hsb (some 127) 102) ∧ (vp_in (nI ((i * W + k) / 64)) (mu_n Hsb 127)) from ⟨((ub.1.1.a (p := 127) (x := (102, 256)) rfl).1).r, (by rw [show mu_n Hsb 127 = 256 from (ub.1.1.a (p := 127) (x := (102, 256)) rfl).2]; exact vp_in_nI (n := (i * W + k) / 64) (by omega) (by decide))⟩) ?_
        rw [(show (mu_l Hsb 127 (nI ((i * W + k) / 64)).toNatClampNeg) = (Vb.2.2.2.2.1 127) ((i * W + k) / 64) from (congrArg (mu_l Hsb 127) (show (nI ((i * W + k) / 64)).toNatClampNeg = (i * W + k) / 64 from nI_clamp (by omega))).trans ((ud_l (m := m) (p := 127) (i := ((i * W + k) / 64)) db rfl).trans (congrFun (show Vb.2.2.2.2.1 127 = (Vb.2.2.2.2.1 127) from rfl) ((i * W + k) / 64))))]
        refine mw_go mu_g257 (k := 1) (f1 := (219, [(11, .inl (0 : Int32)), (10, .inl (nI k)), (7, .inl (nI (i * W + k))), (0, .inr (.inr (some 99))), (1, .inl (-1 : Int32)), (2, .inr (.inr (some 126))), (3, .inl (-1 : Int32)), (4, .inl mk), (5, .inl (nI TN)), (6, .inl (0 : Int32)), (8, .inl (nI i)), (9, .inr (.inr (some 107)))], [.inl (0 : Int32), .inr (.inl ((Vb.2.2.2.2.1 127) ((i * W + k) / 64))), .inl (nI ((i * W + k) / 64)), .inr (.inr (some 127))], Hsb)) (C := []) rfl trivial ?_
        refine mw_if (P := (0 : Int32) = 0) (a := 229) (b := 222) (fun _ => rfl) trivial (fun h12 => ?_) (fun h12 => absurd (by decide) h12)
        refine mw_go mu_g257 (k := 3) (f1 := (232, [(11, .inl (0 : Int32)), (10, .inl (nI k)), (7, .inl (nI (i * W + k))), (0, .inr (.inr (some 99))), (1, .inl (-1 : Int32)), (2, .inr (.inr (some 126))), (3, .inl (-1 : Int32)), (4, .inl mk), (5, .inl (nI TN)), (6, .inl (0 : Int32)), (8, .inl (nI i)), (9, .inr (.inr (some 107)))], [], (mu_sl Hsb 127 (nI ((i * W + k) / 64)).toNatClampNeg (((Vb.2.2.2.2.1 127) ((i * W + k) / 64)) ||| (0 : Int64))))) (C := [mu_is Hsb (some 127) 102, vp_in (nI ((i * W + k) / 64)) (mu_n Hsb 127)]) rfl (show (mu_is Hsb (some 127) 102) ∧ (vp_in (nI ((i * W + k) / 64)) (mu_n Hsb 127)) from ⟨((ub.1.1.a (p := 127) (x := (102, 256)) rfl).1), (by rw [show mu_n Hsb 127 = 256 from (ub.1.1.a (p := 127) (x := (102, 256)) rfl).2]; exact vp_in_nI (n := (i * W + k) / 64) (by omega) (by decide))⟩) ?_
        rw [(show (nI ((i * W + k) / 64)).toNatClampNeg = (i * W + k) / 64 from nI_clamp (by omega))]
        obtain ⟨u13, r13, d13⟩ : um m (mu_sl Hsb 127 ((i * W + k) / 64) (((Vb.2.2.2.2.1 127) ((i * W + k) / 64)) ||| (0 : Int64))) ∧ ur m C Hsb (mu_sl Hsb 127 ((i * W + k) / 64) (((Vb.2.2.2.2.1 127) ((i * W + k) / 64)) ||| (0 : Int64))) ∧ ud m (mu_sl Hsb 127 ((i * W + k) / 64) (((Vb.2.2.2.2.1 127) ((i * W + k) / 64)) ||| (0 : Int64))) = (upL Vb 127 ((i * W + k) / 64) (((Vb.2.2.2.2.1 127) ((i * W + k) / 64)) ||| (0 : Int64))) := ub.sL (C := C) db rfl
        generalize (mu_sl Hsb 127 ((i * W + k) / 64) (((Vb.2.2.2.2.1 127) ((i * W + k) / 64)) ||| (0 : Int64))) = Q13 at u13 r13 d13 ⊢
        have qf13 : uq F257 U (upL Vb 127 ((i * W + k) / 64) (((Vb.2.2.2.2.1 127) ((i * W + k) / 64)) ||| (0 : Int64))) := qfb.L rfl
        have ht13 : ur m C H Q13 := htb.trans r13
        refine mw_go mu_g257 (k := 1) (f1 := (235, [(7, .inl ((nI (i * W + k)) + 1)), (11, .inl (0 : Int32)), (10, .inl (nI k)), (0, .inr (.inr (some 99))), (1, .inl (-1 : Int32)), (2, .inr (.inr (some 126))), (3, .inl (-1 : Int32)), (4, .inl mk), (5, .inl (nI TN)), (6, .inl (0 : Int32)), (8, .inl (nI i)), (9, .inr (.inr (some 107)))], [], Q13)) (C := []) rfl trivial ?_
        rw [(show ((nI (i * W + k)) + 1) = (nI ((i * W + k) + 1)) from (nI_add (i * W + k) 1))]
        refine mw_go mu_g257 (k := 1) (f1 := (238, [(10, .inl ((nI k) + 1)), (7, .inl (nI ((i * W + k) + 1))), (11, .inl (0 : Int32)), (0, .inr (.inr (some 99))), (1, .inl (-1 : Int32)), (2, .inr (.inr (some 126))), (3, .inl (-1 : Int32)), (4, .inl mk), (5, .inl (nI TN)), (6, .inl (0 : Int32)), (8, .inl (nI i)), (9, .inr (.inr (some 107)))], [], Q13)) (C := []) rfl trivial ?_
        rw [(show ((nI k) + 1) = (nI (k + 1)) from (nI_add k 1))]
        refine mw_go mu_g257 (k := 1) (f1 := (135, [(10, .inl (nI (k + 1))), (7, .inl (nI ((i * W + k) + 1))), (11, .inl (0 : Int32)), (0, .inr (.inr (some 99))), (1, .inl (-1 : Int32)), (2, .inr (.inr (some 126))), (3, .inl (-1 : Int32)), (4, .inl mk), (5, .inl (nI TN)), (6, .inl (0 : Int32)), (8, .inl (nI i)), (9, .inr (.inr (some 107)))], [], Q13)) (C := []) rfl trivial ?_
        show mu_W _ _ (135, [(10, .inl (nI (k + 1))), (7, .inl (nI (i * W + (k + 1)))), (11, .inl (0 : Int32)), (0, .inr (.inr (some 99))), (1, .inl (-1 : Int32)), (2, .inr (.inr (some 126))), (3, .inl (-1 : Int32)), (4, .inl mk), (5, .inl (nI TN)), (6, .inl (0 : Int32)), (8, .inl (nI i)), (9, .inr (.inr (some 107)))], [], Q13) _
        exact mw_sub (by simp) (ihb (k + 1, Q13) ⟨u13, ht13, (show uq F257b V8 (ud m Q13) from by rw [d13]; exact (zzb.L rfl)), (show (k + 1) ≤ l from (by omega)), (show ∀ x, x < 64 * ((T0 + 63) / 64) → tbz (ud m Q13) x = (decide (x < i * W + (k + 1)) && decide (¬ trz Y U f mk od i0 a0 N0 x = 0)) from by rw [d13]; exact (fun x hx => by rw [tbz_off rfl]; exact tb_skip (T := fun x => decide (¬ trz Y U f mk od i0 a0 N0 x = 0)) (hTb x hx) (by simp [show trz Y U f mk od i0 a0 N0 (i * W + k) = 0 from h11])))⟩ (by show l - (k + 1) < l - k; omega))
      · -- 159: not (trz Y U f mk od i0 a0 N0 (i * W + k)) = 0
        refine mw_go mu_g257 (k := 5) (f1 := (210, [(11, .inl (1 : Int32)), (10, .inl (nI k)), (7, .inl (nI (i * W + k))), (0, .inr (.inr (some 99))), (1, .inl (-1 : Int32)), (2, .inr (.inr (some 126))), (3, .inl (-1 : Int32)), (4, .inl mk), (5, .inl (nI TN)), (6, .inl (0 : Int32)), (8, .inl (nI i)), (9, .inr (.inr (some 107)))], [.inr (.inr (mu_r Hsb 99 17))], Hsb)) (C := [mu_is Hsb (some 99) 13]) rfl (show mu_is Hsb (some 99) 13 from (ub.1.1.is rfl)) ?_
        rw [(ub.1.1.r (p := 99) (j := 17) (q := 127) rfl)]
        refine mw_go mu_g257 (k := 3) (f1 := (215, [(11, .inl (1 : Int32)), (10, .inl (nI k)), (7, .inl (nI (i * W + k))), (0, .inr (.inr (some 99))), (1, .inl (-1 : Int32)), (2, .inr (.inr (some 126))), (3, .inl (-1 : Int32)), (4, .inl mk), (5, .inl (nI TN)), (6, .inl (0 : Int32)), (8, .inl (nI i)), (9, .inr (.inr (some 107)))], [.inl ((nI (i * W + k)) >>> ((6 : Int32) &&& 31)), .inr (.inr (some 127))], Hsb)) (C := []) rfl trivial ?_
        rw [(show ((nI (i * W + k)) >>> ((6 : Int32) &&& 31)) = (nI ((i * W + k) / 64)) from (nI_shr6 (a := i * W + k) (by omega)))]
        refine mw_go mu_g257 (k := 2) (f1 := (217, [(11, .inl (1 : Int32)), (10, .inl (nI k)), (7, .inl (nI (i * W + k))), (0, .inr (.inr (some 99))), (1, .inl (-1 : Int32)), (2, .inr (.inr (some 126))), (3, .inl (-1 : Int32)), (4, .inl mk), (5, .inl (nI TN)), (6, .inl (0 : Int32)), (8, .inl (nI i)), (9, .inr (.inr (some 107)))], [.inr (.inl (mu_l Hsb 127 (nI ((i * W + k) / 64)).toNatClampNeg)), .inl (nI ((i * W + k) / 64)), .inr (.inr (some 127))], Hsb)) (C := [mu_isr Hsb (some 127) 102, vp_in (nI ((i * W + k) / 64)) (mu_n Hsb 127)]) rfl (show (mu_isr Hsb (some 127) 102) ∧ (vp_in (nI ((i * W + k) / 64)) (mu_n Hsb 127)) from ⟨((ub.1.1.a (p := 127) (x := (102, 256)) rfl).1).r, (by rw [show mu_n Hsb 127 = 256 from (ub.1.1.a (p := 127) (x := (102, 256)) rfl).2]; exact vp_in_nI (n := (i * W + k) / 64) (by omega) (by decide))⟩) ?_
        rw [(show (mu_l Hsb 127 (nI ((i * W + k) / 64)).toNatClampNeg) = (Vb.2.2.2.2.1 127) ((i * W + k) / 64) from (congrArg (mu_l Hsb 127) (show (nI ((i * W + k) / 64)).toNatClampNeg = (i * W + k) / 64 from nI_clamp (by omega))).trans ((ud_l (m := m) (p := 127) (i := ((i * W + k) / 64)) db rfl).trans (congrFun (show Vb.2.2.2.2.1 127 = (Vb.2.2.2.2.1 127) from rfl) ((i * W + k) / 64))))]
        refine mw_go mu_g257 (k := 1) (f1 := (219, [(11, .inl (1 : Int32)), (10, .inl (nI k)), (7, .inl (nI (i * W + k))), (0, .inr (.inr (some 99))), (1, .inl (-1 : Int32)), (2, .inr (.inr (some 126))), (3, .inl (-1 : Int32)), (4, .inl mk), (5, .inl (nI TN)), (6, .inl (0 : Int32)), (8, .inl (nI i)), (9, .inr (.inr (some 107)))], [.inl (1 : Int32), .inr (.inl ((Vb.2.2.2.2.1 127) ((i * W + k) / 64))), .inl (nI ((i * W + k) / 64)), .inr (.inr (some 127))], Hsb)) (C := []) rfl trivial ?_
        refine mw_if (P := (1 : Int32) = 0) (a := 229) (b := 222) (fun _ => rfl) trivial (fun h14 => absurd h14 (by decide)) (fun h14 => ?_)
        refine mw_go mu_g257 (k := 6) (f1 := (232, [(11, .inl (1 : Int32)), (10, .inl (nI k)), (7, .inl (nI (i * W + k))), (0, .inr (.inr (some 99))), (1, .inl (-1 : Int32)), (2, .inr (.inr (some 126))), (3, .inl (-1 : Int32)), (4, .inl mk), (5, .inl (nI TN)), (6, .inl (0 : Int32)), (8, .inl (nI i)), (9, .inr (.inr (some 107)))], [], (mu_sl Hsb 127 (nI ((i * W + k) / 64)).toNatClampNeg (((Vb.2.2.2.2.1 127) ((i * W + k) / 64)) ||| ((1 : Int64) <<< ((nI (i * W + k)).toInt64 &&& 63)))))) (C := [mu_is Hsb (some 127) 102, vp_in (nI ((i * W + k) / 64)) (mu_n Hsb 127)]) rfl (show (mu_is Hsb (some 127) 102) ∧ (vp_in (nI ((i * W + k) / 64)) (mu_n Hsb 127)) from ⟨((ub.1.1.a (p := 127) (x := (102, 256)) rfl).1), (by rw [show mu_n Hsb 127 = 256 from (ub.1.1.a (p := 127) (x := (102, 256)) rfl).2]; exact vp_in_nI (n := (i * W + k) / 64) (by omega) (by decide))⟩) ?_
        rw [(show (nI ((i * W + k) / 64)).toNatClampNeg = (i * W + k) / 64 from nI_clamp (by omega))]
        obtain ⟨u15, r15, d15⟩ : um m (mu_sl Hsb 127 ((i * W + k) / 64) (((Vb.2.2.2.2.1 127) ((i * W + k) / 64)) ||| ((1 : Int64) <<< ((nI (i * W + k)).toInt64 &&& 63)))) ∧ ur m C Hsb (mu_sl Hsb 127 ((i * W + k) / 64) (((Vb.2.2.2.2.1 127) ((i * W + k) / 64)) ||| ((1 : Int64) <<< ((nI (i * W + k)).toInt64 &&& 63)))) ∧ ud m (mu_sl Hsb 127 ((i * W + k) / 64) (((Vb.2.2.2.2.1 127) ((i * W + k) / 64)) ||| ((1 : Int64) <<< ((nI (i * W + k)).toInt64 &&& 63)))) = (upL Vb 127 ((i * W + k) / 64) (((Vb.2.2.2.2.1 127) ((i * W + k) / 64)) ||| ((1 : Int64) <<< ((nI (i * W + k)).toInt64 &&& 63)))) := ub.sL (C := C) db rfl
        generalize (mu_sl Hsb 127 ((i * W + k) / 64) (((Vb.2.2.2.2.1 127) ((i * W + k) / 64)) ||| ((1 : Int64) <<< ((nI (i * W + k)).toInt64 &&& 63)))) = Q15 at u15 r15 d15 ⊢
        have qf15 : uq F257 U (upL Vb 127 ((i * W + k) / 64) (((Vb.2.2.2.2.1 127) ((i * W + k) / 64)) ||| ((1 : Int64) <<< ((nI (i * W + k)).toInt64 &&& 63)))) := qfb.L rfl
        have ht15 : ur m C H Q15 := htb.trans r15
        refine mw_go mu_g257 (k := 1) (f1 := (235, [(7, .inl ((nI (i * W + k)) + 1)), (11, .inl (1 : Int32)), (10, .inl (nI k)), (0, .inr (.inr (some 99))), (1, .inl (-1 : Int32)), (2, .inr (.inr (some 126))), (3, .inl (-1 : Int32)), (4, .inl mk), (5, .inl (nI TN)), (6, .inl (0 : Int32)), (8, .inl (nI i)), (9, .inr (.inr (some 107)))], [], Q15)) (C := []) rfl trivial ?_
        rw [(show ((nI (i * W + k)) + 1) = (nI ((i * W + k) + 1)) from (nI_add (i * W + k) 1))]
        refine mw_go mu_g257 (k := 1) (f1 := (238, [(10, .inl ((nI k) + 1)), (7, .inl (nI ((i * W + k) + 1))), (11, .inl (1 : Int32)), (0, .inr (.inr (some 99))), (1, .inl (-1 : Int32)), (2, .inr (.inr (some 126))), (3, .inl (-1 : Int32)), (4, .inl mk), (5, .inl (nI TN)), (6, .inl (0 : Int32)), (8, .inl (nI i)), (9, .inr (.inr (some 107)))], [], Q15)) (C := []) rfl trivial ?_
        rw [(show ((nI k) + 1) = (nI (k + 1)) from (nI_add k 1))]
        refine mw_go mu_g257 (k := 1) (f1 := (135, [(10, .inl (nI (k + 1))), (7, .inl (nI ((i * W + k) + 1))), (11, .inl (1 : Int32)), (0, .inr (.inr (some 99))), (1, .inl (-1 : Int32)), (2, .inr (.inr (some 126))), (3, .inl (-1 : Int32)), (4, .inl mk), (5, .inl (nI TN)), (6, .inl (0 : Int32)), (8, .inl (nI i)), (9, .inr (.inr (some 107)))], [], Q15)) (C := []) rfl trivial ?_
        show mu_W _ _ (135, [(10, .inl (nI (k + 1))), (7, .inl (nI (i * W + (k + 1)))), (11, .inl (1 : Int32)), (0, .inr (.inr (some 99))), (1, .inl (-1 : Int32)), (2, .inr (.inr (some 126))), (3, .inl (-1 : Int32)), (4, .inl mk), (5, .inl (nI TN)), (6, .inl (0 : Int32)), (8, .inl (nI i)), (9, .inr (.inr (some 107)))], [], Q15) _
        exact mw_sub (by simp) (ihb (k + 1, Q15) ⟨u15, ht15, (show uq F257b V8 (ud m Q15) from by rw [d15]; exact (zzb.L rfl)), (show (k + 1) ≤ l from (by omega)), (show ∀ x, x < 64 * ((T0 + 63) / 64) → tbz (ud m Q15) x = (decide (x < i * W + (k + 1)) && decide (¬ trz Y U f mk od i0 a0 N0 x = 0)) from by rw [d15]; exact (fun x hx => by rw [tbz_on (by omega) rfl]; exact tb_next (T := fun x => decide (¬ trz Y U f mk od i0 a0 N0 x = 0)) (hTb x hx) (by simp [show ¬ trz Y U f mk od i0 a0 N0 (i * W + k) = 0 from h11])))⟩ (by show l - (k + 1) < l - k; omega))
    · -- 241: not (nI k) < (nI l)
      have nh9 : ¬ k < l := fun z => h9 (show nI k < nI l from (nI_ltI (by omega) (by omega)).mpr z)
      have hsm : (i + 1) * W = i * W + W := Nat.succ_mul i W
      rw [show nI (i * W + k) = nI (mwz W T0 (i + 1)) from congrArg nI (by rw [mwz_eq]; omega)]
      by_cases hlast : T0 ≤ i * W + l
      · -- turn 0
        refine mw_go mu_g257 (k := 2) (f1 := (245, [(10, .inl (nI k)), (7, .inl (nI (mwz W T0 (i + 1)))), (0, .inr (.inr (some 99))), (1, .inl (-1 : Int32)), (2, .inr (.inr (some 126))), (3, .inl (-1 : Int32)), (4, .inl mk), (5, .inl (nI TN)), (6, .inl (0 : Int32)), (8, .inl (nI i)), (9, .inr (.inr (some 107)))], [.inr (.inr (mu_r Hsb 99 1))], Hsb)) (C := [mu_is Hsb (some 99) 13]) rfl (show mu_is Hsb (some 99) 13 from (ub.1.1.is rfl)) ?_
        rw [(ub.1.1.r (p := 99) (j := 1) (q := 100) rfl)]
        have hsdV : sds Vb W P S0 f mk (bcn mk) (wqz mk f) := sds_ckp (V := Va) hX (show Vb.1 22 = Va.1 22 from (((zzb.t 22 rfl).trans (z8.t 22 rfl)).trans (z7.t 22 rfl))) (show Vb.2.2.1 99 8 = Va.2.2.1 99 8 from (((zzb.a 99 8 rfl).trans (z8.a 99 8 rfl)).trans (z7.a 99 8 rfl))) (fun s k hs hk => ckp_of (V := V7) (show Vb.2.2.1 100 8 = V7.2.2.1 100 8 from ((zzb.a 100 8 rfl).trans (z8.a 100 8 rfl))) (show Vb.2.2.1 100 12 = V7.2.2.1 100 12 from ((zzb.a 100 12 rfl).trans (z8.a 100 12 rfl))) (hck s k hs hk))
        refine mw_cV (fun _ => rfl) (show mu_is Hsb (some 100) 5 from (ub.1.1.is rfl)) (mc_turn0 (d := (d + 1)) (C := C) ub db (show Vb.2.1 100 19 = nI (i * W) from ((zzb.i 100 19 rfl).trans ((z8.i 100 19 rfl).trans ((z7.i 100 19 rfl).trans e19)))) (show Vb.2.1 100 18 = nI l from ((zzb.i 100 18 rfl).trans ((z8.i 100 18 rfl).trans ((z7.i 100 18 rfl).trans e18)))) (show Vb.2.1 100 20 = nI T0 from ((zzb.i 100 20 rfl).trans ((z8.i 100 20 rfl).trans ((z7.i 100 20 rfl).trans h20)))) hlast (by omega)) (fun Q16 q16 => ?_)
        obtain ⟨u16, r16, d16⟩ := q16
        have ht16 : ur m C H Q16 := htb.trans r16
        have qf16 : uq F257 U (upI Vb 100 19 (nI (i * W + l))) := qfb.I rfl
        refine mw_go mu_g257 (k := 1) (f1 := (251, [(8, .inl ((nI i) + 1)), (10, .inl (nI k)), (7, .inl (nI (mwz W T0 (i + 1)))), (0, .inr (.inr (some 99))), (1, .inl (-1 : Int32)), (2, .inr (.inr (some 126))), (3, .inl (-1 : Int32)), (4, .inl mk), (5, .inl (nI TN)), (6, .inl (0 : Int32)), (9, .inr (.inr (some 107)))], [], Q16)) (C := []) rfl trivial ?_
        rw [(show ((nI i) + 1) = (nI (i + 1)) from (nI_add i 1))]
        refine mw_go mu_g257 (k := 1) (f1 := (109, [(8, .inl (nI (i + 1))), (10, .inl (nI k)), (7, .inl (nI (mwz W T0 (i + 1)))), (0, .inr (.inr (some 99))), (1, .inl (-1 : Int32)), (2, .inr (.inr (some 126))), (3, .inl (-1 : Int32)), (4, .inl mk), (5, .inl (nI TN)), (6, .inl (0 : Int32)), (9, .inr (.inr (some 107)))], [], Q16)) (C := []) rfl trivial ?_
        exact mw_sub (by simp) (iha (i + 1, Q16) ⟨u16, ht16, (show uq F257a (upM V3 127 0 (fun _ => (0 : Int64)) (((T0 + 63) / 64) - 0)) (ud m Q16) from by rw [d16]; exact ((((zza.tr z7 rfl).tr z8 rfl).tr zzb rfl).I rfl)), (show (i + 1) ≤ TN from (by omega)), (show ∀ x, x < 64 * ((T0 + 63) / 64) → tbz (ud m Q16) x = (decide (x < min ((i + 1) * W) T0) && decide (¬ trz Y U f mk od i0 a0 N0 x = 0)) from by rw [d16]; exact (fun x hx => (tbz_l (show (upI Vb 100 19 (nI (i * W + l))).2.2.2.2.1 127 = Vb.2.2.2.2.1 127 from rfl) x).trans ((hTb x hx).trans (by rw [show min ((i + 1) * W) T0 = i * W + k by omega])))), (show (ud m Q16).2.1 100 20 = nI T0 from by rw [d16]; exact ((zzb.i 100 20 rfl).trans ((z8.i 100 20 rfl).trans ((z7.i 100 20 rfl).trans h20)))), (show sds (ud m Q16) W P S0 f mk (bcn mk) (wqz mk f) from by rw [d16]; exact (sds_same hsdV rfl rfl rfl)), (show (i + 1) * W < T0 → (ud m Q16).2.1 100 19 = nI ((i + 1) * W) ∧ (ud m Q16).2.1 100 18 = nI (min W (T0 - (i + 1) * W)) ∧ (ud m Q16).2.1 100 21 = 1 ∧ ∃ Ub : Ud, Ub.2.2.1 99 8 = U.2.2.1 99 8 ∧ sdi Ub (ud m Q16) W (min W (T0 - (i + 1) * W)) P S0 f mk (bcn mk) (wqz mk f) ((i + 1) * W) (fun q => q < 28) from by rw [d16]; exact (fun z => absurd z (by omega)))⟩ (by show TN - (i + 1) < TN - i; omega))
      · -- turn 1
        refine mw_go mu_g257 (k := 2) (f1 := (245, [(10, .inl (nI k)), (7, .inl (nI (mwz W T0 (i + 1)))), (0, .inr (.inr (some 99))), (1, .inl (-1 : Int32)), (2, .inr (.inr (some 126))), (3, .inl (-1 : Int32)), (4, .inl mk), (5, .inl (nI TN)), (6, .inl (0 : Int32)), (8, .inl (nI i)), (9, .inr (.inr (some 107)))], [.inr (.inr (mu_r Hsb 99 1))], Hsb)) (C := [mu_is Hsb (some 99) 13]) rfl (show mu_is Hsb (some 99) 13 from (ub.1.1.is rfl)) ?_
        rw [(ub.1.1.r (p := 99) (j := 1) (q := 100) rfl)]
        have hsdV : sds Vb W P S0 f mk (bcn mk) (wqz mk f) := sds_ckp (V := Va) hX (show Vb.1 22 = Va.1 22 from (((zzb.t 22 rfl).trans (z8.t 22 rfl)).trans (z7.t 22 rfl))) (show Vb.2.2.1 99 8 = Va.2.2.1 99 8 from (((zzb.a 99 8 rfl).trans (z8.a 99 8 rfl)).trans (z7.a 99 8 rfl))) (fun s k hs hk => ckp_of (V := V7) (show Vb.2.2.1 100 8 = V7.2.2.1 100 8 from ((zzb.a 100 8 rfl).trans (z8.a 100 8 rfl))) (show Vb.2.2.1 100 12 = V7.2.2.1 100 12 from ((zzb.a 100 12 rfl).trans (z8.a 100 12 rfl))) (hck s k hs hk))
        refine mw_cV (fun _ => rfl) (show mu_is Hsb (some 100) 5 from (ub.1.1.is rfl)) (mc_turn1 (d := (d + 1)) (C := C) (A := (S0 + K + sfz Y a0 N0 + dp)) ub db (spx_keep hS (show (Vb.2.1 99 4) = (U.2.1 99 4) from ((zzb.i 99 4 rfl).trans ((z8.i 99 4 rfl).trans ((z7.i 99 4 rfl).trans ((zza.i 99 4 rfl).trans (z3.i 99 4 rfl)))))) (show (Vb.2.1 99 10) = (U.2.1 99 10) from ((zzb.i 99 10 rfl).trans ((z8.i 99 10 rfl).trans ((z7.i 99 10 rfl).trans ((zza.i 99 10 rfl).trans (z3.i 99 10 rfl)))))) (show (Vb.2.1 99 11) = (U.2.1 99 11) from ((zzb.i 99 11 rfl).trans ((z8.i 99 11 rfl).trans ((z7.i 99 11 rfl).trans ((zza.i 99 11 rfl).trans (z3.i 99 11 rfl)))))) (show (Vb.2.1 99 12) = (U.2.1 99 12) from ((zzb.i 99 12 rfl).trans ((z8.i 99 12 rfl).trans ((z7.i 99 12 rfl).trans ((zza.i 99 12 rfl).trans (z3.i 99 12 rfl)))))) (show (Vb.2.2.1 99 5) = (U.2.2.1 99 5) from ((zzb.a 99 5 rfl).trans ((z8.a 99 5 rfl).trans ((z7.a 99 5 rfl).trans ((zza.a 99 5 rfl).trans (z3.a 99 5 rfl)))))) (show (Vb.2.2.1 99 7) = (U.2.2.1 99 7) from ((zzb.a 99 7 rfl).trans ((z8.a 99 7 rfl).trans ((z7.a 99 7 rfl).trans ((zza.a 99 7 rfl).trans (z3.a 99 7 rfl)))))) (show (Vb.2.2.1 99 6) = (U.2.2.1 99 6) from ((zzb.a 99 6 rfl).trans ((z8.a 99 6 rfl).trans ((z7.a 99 6 rfl).trans ((zza.a 99 6 rfl).trans (z3.a 99 6 rfl)))))) (show (Vb.2.2.1 99 8).1 = (U.2.2.1 99 8).1 from ((zzb.n 99 8 rfl).trans ((z8.n 99 8 rfl).trans ((z7.n 99 8 rfl).trans ((zza.n 99 8 rfl).trans (z3.n 99 8 rfl)))))) (show (Vb.2.2.1 99 18).1 = (U.2.2.1 99 18).1 from ((zzb.n 99 18 rfl).trans ((z8.n 99 18 rfl).trans ((z7.n 99 18 rfl).trans ((zza.n 99 18 rfl).trans (z3.n 99 18 rfl)))))) (show (Vb.2.2.2.1 100 0) = (U.2.2.2.1 100 0) from (((zzb.r 100 0 rfl).trans ((z8.r 100 0 rfl).trans ((z7.r 100 0 rfl).trans ((zza.r 100 0 rfl).trans ((z3.r 100 0 rfl).trans hsp))))).trans hsp.symm)) (show (Vb.2.2.2.1 99 0) = (U.2.2.2.1 99 0) from (((zzb.r 99 0 rfl).trans ((z8.r 99 0 rfl).trans ((z7.r 99 0 rfl).trans ((zza.r 99 0 rfl).trans ((z3.r 99 0 rfl).trans hmo))))).trans hmo.symm))) (show Vb.2.1 100 17 = nI W from ((zzb.i 100 17 rfl).trans ((z8.i 100 17 rfl).trans ((z7.i 100 17 rfl).trans ((zza.i 100 17 rfl).trans ((z3.i 100 17 rfl).trans kz17)))))) w1 w2 (by rw [(show (Vb.2.2.1 100 8).1 = (U.2.2.1 100 8).1 from ((zzb.n 100 8 rfl).trans ((z8.n 100 8 rfl).trans ((z7.n 100 8 rfl).trans ((zza.n 100 8 rfl).trans (z3.n 100 8 rfl))))))]; exact kz8) (by rw [(show (Vb.2.2.1 100 8).1 = (U.2.2.1 100 8).1 from ((zzb.n 100 8 rfl).trans ((z8.n 100 8 rfl).trans ((z7.n 100 8 rfl).trans ((zza.n 100 8 rfl).trans (z3.n 100 8 rfl))))))]; unfold clz at zcl; omega) (by rw [(show (Vb.2.2.1 100 12).1 = (U.2.2.1 100 12).1 from ((zzb.n 100 12 rfl).trans ((z8.n 100 12 rfl).trans ((z7.n 100 12 rfl).trans ((zza.n 100 12 rfl).trans (z3.n 100 12 rfl))))))]; exact kz12) (by rw [(show (Vb.2.2.1 100 12).1 = (U.2.2.1 100 12).1 from ((zzb.n 100 12 rfl).trans ((z8.n 100 12 rfl).trans ((z7.n 100 12 rfl).trans ((zza.n 100 12 rfl).trans (z3.n 100 12 rfl))))))]; omega) (show Vb.2.1 100 4 = mk from ((zzb.i 100 4 rfl).trans ((z8.i 100 4 rfl).trans ((z7.i 100 4 rfl).trans ((zza.i 100 4 rfl).trans ((z3.i 100 4 rfl).trans kz4)))))) hsdV (by omega) (show Vb.2.1 100 19 = nI (i * W) from ((zzb.i 100 19 rfl).trans ((z8.i 100 19 rfl).trans ((z7.i 100 19 rfl).trans e19)))) (show Vb.2.1 100 18 = nI l from ((zzb.i 100 18 rfl).trans ((z8.i 100 18 rfl).trans ((z7.i 100 18 rfl).trans e18)))) (show Vb.2.1 100 20 = nI T0 from ((zzb.i 100 20 rfl).trans ((z8.i 100 20 rfl).trans ((z7.i 100 20 rfl).trans h20)))) (by omega) (by omega)) (fun Q17 q17 => ?_)
        obtain ⟨u17, r17, z17, t18, t21, t19, t20, tsi⟩ := q17
        have ht17 : ur m C H Q17 := htb.trans r17
        obtain ⟨V17, d17⟩ : ∃ V, ud m Q17 = V := ⟨_, rfl⟩
        rw [d17] at z17 t18 t21 t19 t20 tsi
        have qf17 : uq F257 U V17 := qfb.tr z17 rfl
        have tb98 : (upI Vb 100 19 (nI (i * W + l))).2.2.1 99 8 = U.2.2.1 99 8 := (show (Vb.2.2.1 99 8) = (U.2.2.1 99 8) from ((zzb.a 99 8 rfl).trans ((z8.a 99 8 rfl).trans ((z7.a 99 8 rfl).trans ((zza.a 99 8 rfl).trans (z3.a 99 8 rfl))))))
        refine mw_go mu_g257 (k := 1) (f1 := (251, [(8, .inl ((nI i) + 1)), (10, .inl (nI k)), (7, .inl (nI (mwz W T0 (i + 1)))), (0, .inr (.inr (some 99))), (1, .inl (-1 : Int32)), (2, .inr (.inr (some 126))), (3, .inl (-1 : Int32)), (4, .inl mk), (5, .inl (nI TN)), (6, .inl (0 : Int32)), (9, .inr (.inr (some 107)))], [], Q17)) (C := []) rfl trivial ?_
        rw [(show ((nI i) + 1) = (nI (i + 1)) from (nI_add i 1))]
        refine mw_go mu_g257 (k := 1) (f1 := (109, [(8, .inl (nI (i + 1))), (10, .inl (nI k)), (7, .inl (nI (mwz W T0 (i + 1)))), (0, .inr (.inr (some 99))), (1, .inl (-1 : Int32)), (2, .inr (.inr (some 126))), (3, .inl (-1 : Int32)), (4, .inl mk), (5, .inl (nI TN)), (6, .inl (0 : Int32)), (9, .inr (.inr (some 107)))], [], Q17)) (C := []) rfl trivial ?_
        exact mw_sub (by simp) (iha (i + 1, Q17) ⟨u17, ht17, (show uq F257a (upM V3 127 0 (fun _ => (0 : Int64)) (((T0 + 63) / 64) - 0)) (ud m Q17) from by rw [d17]; exact ((((zza.tr z7 rfl).tr z8 rfl).tr zzb rfl).tr z17 rfl)), (show (i + 1) ≤ TN from (by omega)), (show ∀ x, x < 64 * ((T0 + 63) / 64) → tbz (ud m Q17) x = (decide (x < min ((i + 1) * W) T0) && decide (¬ trz Y U f mk od i0 a0 N0 x = 0)) from by rw [d17]; exact (fun x hx => (tbz_l (show V17.2.2.2.2.1 127 = Vb.2.2.2.2.1 127 from (z17.l 127 rfl)) x).trans ((hTb x hx).trans (by rw [show min ((i + 1) * W) T0 = i * W + k by omega])))), (show (ud m Q17).2.1 100 20 = nI T0 from by rw [d17]; exact t20), (show sds (ud m Q17) W P S0 f mk (bcn mk) (wqz mk f) from by rw [d17]; exact tsi.1), (show (i + 1) * W < T0 → (ud m Q17).2.1 100 19 = nI ((i + 1) * W) ∧ (ud m Q17).2.1 100 18 = nI (min W (T0 - (i + 1) * W)) ∧ (ud m Q17).2.1 100 21 = 1 ∧ ∃ Ub : Ud, Ub.2.2.1 99 8 = U.2.2.1 99 8 ∧ sdi Ub (ud m Q17) W (min W (T0 - (i + 1) * W)) P S0 f mk (bcn mk) (wqz mk f) ((i + 1) * W) (fun q => q < 28) from by rw [d17]; exact (fun _ => by rw [hsm, show i * W + W = i * W + l by omega]; exact ⟨t19, t18, t21, _, tb98, tsi⟩))⟩ (by show TN - (i + 1) < TN - i; omega))
  · -- 254: not (nI i) < (nI TN)
    have nh6 : ¬ i < TN := fun z => h6 (show nI i < nI TN from (nI_ltI (by omega) (by omega)).mpr z)
    refine mw_go mu_g257 (k := 3) (f1 := (258, [(8, .inl (nI i)), (7, .inl (nI (mwz W T0 i))), (0, .inr (.inr (some 99))), (1, .inl (-1 : Int32)), (2, .inr (.inr (some 126))), (3, .inl (-1 : Int32)), (4, .inl mk), (5, .inl (nI TN)), (6, .inl (0 : Int32))], [.inr (.inr (some 126)), .inl mk, .inr (.inr (some 99))], Hsa)) (C := []) rfl trivial ?_
    refine mw_cV (fun _ => rfl) (show mu_is Hsa (some 99) 13 from (ua.1.1.is rfl)) (sp_spread126 (d := (d + 4)) (C := C) (mk := mk) ua da (spx_keep hS (show (Va.2.1 99 4) = (U.2.1 99 4) from ((zza.i 99 4 rfl).trans (z3.i 99 4 rfl))) (show (Va.2.1 99 10) = (U.2.1 99 10) from ((zza.i 99 10 rfl).trans (z3.i 99 10 rfl))) (show (Va.2.1 99 11) = (U.2.1 99 11) from ((zza.i 99 11 rfl).trans (z3.i 99 11 rfl))) (show (Va.2.1 99 12) = (U.2.1 99 12) from ((zza.i 99 12 rfl).trans (z3.i 99 12 rfl))) (show (Va.2.2.1 99 5) = (U.2.2.1 99 5) from ((zza.a 99 5 rfl).trans (z3.a 99 5 rfl))) (show (Va.2.2.1 99 7) = (U.2.2.1 99 7) from ((zza.a 99 7 rfl).trans (z3.a 99 7 rfl))) (show (Va.2.2.1 99 6) = (U.2.2.1 99 6) from ((zza.a 99 6 rfl).trans (z3.a 99 6 rfl))) (show (Va.2.2.1 99 8).1 = (U.2.2.1 99 8).1 from ((zza.n 99 8 rfl).trans (z3.n 99 8 rfl))) (show (Va.2.2.1 99 18).1 = (U.2.2.1 99 18).1 from ((zza.n 99 18 rfl).trans (z3.n 99 18 rfl))) (show (Va.2.2.2.1 100 0) = (U.2.2.2.1 100 0) from (((zza.r 100 0 rfl).trans ((z3.r 100 0 rfl).trans hsp)).trans hsp.symm)) (show (Va.2.2.2.1 99 0) = (U.2.2.2.1 99 0) from (((zza.r 99 0 rfl).trans ((z3.r 99 0 rfl).trans hmo)).trans hmo.symm)))) (fun Q18 q18 => ?_)
    obtain ⟨u18, r18, z18, hsp126⟩ := q18
    have ht18 : ur m C H Q18 := hta.trans r18
    obtain ⟨V18, d18⟩ : ∃ V, ud m Q18 = V := ⟨_, rfl⟩
    rw [d18] at z18 hsp126
    have qf18 : uq F257 U V18 := qfa.tr z18 rfl
    have hge : T0 ≤ i * W := turns_ge w1 (by rw [← hTN]; exact nh6)
    refine mw_of (fun _ => mu_ret rfl trivial ⟨Q18, rfl, u18, ht18, (by rw [d18]; exact qf18), ?_⟩)
    rw [d18]
    refine ⟨fun s hs => ?_, fun y q hy hq hs => ?_, sds_same hX (show (V18.1 22) = (Va.1 22) from (z18.t 22 rfl)) (show (V18.2.2.1 99 8) = (Va.2.2.1 99 8) from (z18.a 99 8 rfl)) (show (V18.2.2.1 100 8) = (Va.2.2.1 100 8) from (z18.a 100 8 rfl))⟩
    · have hpl := hpj s hs
      have z := hsp126 (s / 64) (s % 64) (by omega) (by omega)
      rw [show s / 64 * 64 + s % 64 = s by omega] at z
      rw [z, hTa _ (by omega), show min (i * W) T0 = T0 by omega]
      simp [hs, hpl]
    · rw [hsp126 y q hy hq]; simp; omega
end Evaluate
