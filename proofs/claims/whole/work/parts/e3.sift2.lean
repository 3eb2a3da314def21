/-! THE MACHINE takes a list, over LDW -/
/-- a list may be taken: what is posed lies in its slots; what NAMES stand for too, once it has been reckoned -/
def LSKw (U : Ud) (Y : Ts) (P : Nat) (f od : Nat → Nat) (a0 N0 i0 s rem : Nat) : Prop := ∃ S0 K dp W mk M rk wt, LR U Y a0 N0 i0 od S0 K M rk ∧ LZx U S0 K (sfz Y a0 N0) dp W mk ∧ LC (U.1 15) Y P (NXW Y (U.1 15) P a0 N0 i0) a0 N0 i0 (sfz Y a0 N0) dp mk M ∧ sds U W P S0 f mk (bcn mk) wt ∧ (∀ k, 14 ≤ k → k < 28 → ¬ mb mk k = 0 → wt k = pd f (k % 14 + 1) (P - 1 - k % 14)) ∧ (∀ q j, q < 14 → ¬ mb mk q = 0 → j < W → cvl U W (bcn mk q) j = (U.2.2.1 99 8).2 (sm f 0 q + dgz f P s q)) ∧ (U.2.1 100 21 = 1 ∨ (U.2.1 100 21 = 0 ∧ ∀ q, q < (Y 13).1 → M (od q) → ∀ j, j < W → j < rem → cvl U W (S0 + rk q) j = evz Y od (vst U f P s) (od q)))
/-- a part of it is taken -/
def RDTw (U : Ud) (Y : Ts) (P : Nat) (f od : Nat → Nat) (a0 N0 i0 s n l : Nat) (ls : Nat → Nat) : Prop := ∃ S0 K dp W mk M rk wt, LR U Y a0 N0 i0 od S0 K M rk ∧ LZx U S0 K (sfz Y a0 N0) dp W mk ∧ LC (U.1 15) Y P (NXW Y (U.1 15) P a0 N0 i0) a0 N0 i0 (sfz Y a0 N0) dp mk M ∧ sds U W P S0 f mk (bcn mk) wt ∧ (∀ k, 14 ≤ k → k < 28 → ¬ mb mk k = 0 → wt k = pd f (k % 14 + 1) (P - 1 - k % 14)) ∧ (∀ q j, q < 14 → ¬ mb mk q = 0 → j < W → cvl U W (bcn mk q) j = (U.2.2.1 99 8).2 (sm f 0 q + dgz f P s q)) ∧ (U.2.1 100 21 = 1 ∨ (U.2.1 100 21 = 0 ∧ ∀ q, q < (Y 13).1 → M (od q) → ∀ j, j < l → cvl U W (S0 + rk q) j = evz Y od (vst U f P s) (od q))) ∧ (U.2.1 100 18 = nI l ∧ 1 ≤ l ∧ l = min W n) ∧ SV U Y W l P mk (fun _ => vst U f P s) (fun j => vst U f P (ls j))
section TakeListW
variable {H : mu_H} {U V : Ud} {m d P a0 N0 i0 s l n k st rem : Nat} {C : Nat → Nat} {Y : Ts} {f od ls : Nat → Nat} {es rs : Nat → Int32} {al : Int32} {kd : Bool}
theorem LSKw.ldw (h : LSKw U Y P f od a0 N0 i0 s rem) (hf : ∀ k, 1 ≤ f k) : LDW U Y P f od a0 N0 i0 := by
  obtain ⟨S0, K, dp, W, mk, M, rk, wt, l1, l2, l3, l4, -⟩ := h
  exact ⟨S0, K, dp, W, mk, M, rk, l1, l2, l3, sds_x l4 hf⟩
theorem LSKw.keep (h : LSKw U Y P f od a0 N0 i0 s rem) (h21 : V.1 21 = U.1 21) (h22 : V.1 22 = U.1 22) (h15 : V.1 15 = U.1 15) (a3 : V.2.2.1 100 3 = U.2.2.1 100 3) (i5 : V.2.1 100 5 = U.2.1 100 5) (i7 : V.2.1 100 7 = U.2.1 100 7) (i17 : V.2.1 100 17 = U.2.1 100 17) (i4 : V.2.1 100 4 = U.2.1 100 4) (a8 : V.2.2.1 100 8 = U.2.2.1 100 8) (a12 : V.2.2.1 100 12 = U.2.2.1 100 12) (n13 : (V.2.2.1 100 13).1 = (U.2.2.1 100 13).1) (n15 : (V.2.2.1 100 15).1 = (U.2.2.1 100 15).1) (a98 : V.2.2.1 99 8 = U.2.2.1 99 8) (i21 : V.2.1 100 21 = U.2.1 100 21) : LSKw V Y P f od a0 N0 i0 s rem := by
  obtain ⟨S0, K, dp, W, mk, M, rk, wt, l1, l2, l3, l4, l5, l6, l7⟩ := h
  refine ⟨S0, K, dp, W, mk, M, rk, wt, LR_keep l1 h21 a3, LZx_keep l2 i5 i7 i17 i4 (by rw [a8]) (by rw [a12]) n13 n15, by rw [h15]; exact l3, sds_same l4 h22 a98 a8, l5, fun q j h1 h2 h3 => by rw [cvl_same a8 a12, a98]; exact l6 q j h1 h2 h3, ?_⟩
  rw [i21, vst_same h15 a98]
  rcases l7 with y | ⟨y, y2⟩
  · exact Or.inl y
  · exact Or.inr ⟨y, fun q h1 h2 j h3 h4 => by rw [cvl_same a8 a12]; exact y2 q h1 h2 j h3 h4⟩
theorem mc_begin2w (h : um m H) (e : ud m H = U) (hK : KNV m U Y P f od es) (hM : MCS U) (hl : LDW U Y P f od a0 N0 i0) (hp : PSV U P f s) : mu_TV (mu_D (d + 4)) 230 [.inr (.inr (some 100))] H (fun H1 => um m H1 ∧ ur m C H H1 ∧ uq F230 U (ud m H1) ∧ KNV m (ud m H1) Y P f od es ∧ MCS (ud m H1) ∧ PSV (ud m H1) P f s ∧ ∀ rem, LSKw (ud m H1) Y P f od a0 N0 i0 s rem) := by
  obtain ⟨S0, K, dp, W, mk, M, rk, l1, l2, l3, l4⟩ := hl
  obtain ⟨⟨z5, z7, z17, z4⟩, ⟨zW1, zW2⟩, ⟨z8, zcl⟩, ⟨z12, z12b⟩, ⟨z13, z13b⟩, ⟨z15, z15b⟩, zall, zdp, zS⟩ := id l2
  have hP := hK.P14
  have hfb : ∀ k, k < P → f k ≤ 16384 := fun k hk => Nat.le_trans (fk_pd hk hP hK.2.1) hK.1.2.2.2.1.2.1
  refine (mc_beginList (C := C) (d := d) (A := S0 + K + sfz Y a0 N0 + dp) h e hK.1 z17 zW1 zW2 z8 (by rcases zcl with z | z | z <;> omega) z12 (by omega) z4 l4 (by omega)).imp (fun H1 q => ?_)
  obtain ⟨q1, q2, q3, q4, q5⟩ := q
  obtain ⟨wt, w1, w2, w3⟩ := bgi_sds hK.1 hfb q5
  obtain ⟨b1, b2, b3, b4, b5⟩ := q5
  have e98 : (ud m H1).2.2.1 99 8 = U.2.2.1 99 8 := q3.a 99 8 rfl
  have e15 : (ud m H1).1 15 = U.1 15 := q3.t 15 rfl
  refine ⟨q1, q2, q3, hK.q q3 rfl, mcs_keep hM w1.1 (q3.n 100 3 rfl) (q3.n 100 8 rfl) (q3.n 100 12 rfl) (q3.n 100 13 rfl) (q3.n 100 15 rfl), fun r hr => by rw [b2 r 2 (by decide) (by decide), e98]; exact hp r hr, fun rem => ⟨S0, K, dp, W, mk, M, rk, wt, LR_keep l1 (q3.t 21 rfl) (q3.a 100 3 rfl), LZx_keep l2 (q3.i 100 5 rfl) (q3.i 100 7 rfl) (q3.i 100 17 rfl) (q3.i 100 4 rfl) (q3.n 100 8 rfl) (q3.n 100 12 rfl) (q3.n 100 13 rfl) (q3.n 100 15 rfl), by rw [e15]; exact l3, w1, fun k k1 k2 k3 => w3 k k1 k2 (l3.2.2 k (by omega) k3).2.1, fun q j h1 h2 h3 => ?_, Or.inl q4⟩⟩
  rw [b4 q j (by omega) h1 h2 h3, e98]
  have hq := (l3.2.2 q (by omega) h2).2.1
  rw [Nat.mod_eq_of_lt h1] at hq
  exact hp q hq
theorem mc_take2w (h : um m H) (e : ud m H = U) (hK : KNV m U Y P f od es) (hM : MCS U) (hl : LSKw U Y P f od a0 N0 i0 s rem) (hp : PSV U P f s) (hls : ∀ i, i < n → (U.2.2.1 129 10).2 (st + i) = nI (ls i) ∧ ls i < 16384) (hri : ∀ i j, i < j → j < n → ls i < ls j) (hn1 : 1 ≤ n) (hnr : n ≤ rem) (hst : st + n ≤ (U.2.2.1 129 10).1) (hln : (U.2.2.1 129 10).1 ≤ 16777216) : mu_TI (mu_D (d + 5)) 231 [.inr (.inr (some 100)), .inr (.inr (U.2.2.2.1 129 10)), .inl (nI st), .inl (nI n)] H (fun x H1 => ∃ l, (x = nI l ∧ 1 ≤ l ∧ l ≤ n ∧ l ≤ 1024) ∧ um m H1 ∧ ur m C H H1 ∧ uq F231 U (ud m H1) ∧ KNV m (ud m H1) Y P f od es ∧ MCS (ud m H1) ∧ PSV (ud m H1) P f s ∧ RDTw (ud m H1) Y P f od a0 N0 i0 s n l ls) := by
  obtain ⟨S0, K, dp, W, mk, M, rk, wt, l1, l2, l3, l4, l5, l6, l7⟩ := hl
  obtain ⟨⟨z5, z7, z17, z4⟩, ⟨zW1, zW2⟩, ⟨z8, zcl⟩, ⟨z12, z12b⟩, ⟨z13, z13b⟩, ⟨z15, z15b⟩, zall, zdp, zS⟩ := id l2
  have hP := hK.P14
  obtain ⟨l, hl⟩ : ∃ l, l = min W n := ⟨_, rfl⟩
  refine (mc_takeList (C := C) (d := d) (A := S0 + K + sfz Y a0 N0 + dp) h e hK.1 z17 zW1 zW2 z8 (by rcases zcl with z | z | z <;> omega) z12 (by omega) z4 l4 (by omega) hls hri hn1 hst hln hl l5).imp (fun x H1 q => ?_)
  obtain ⟨q1, q2, q3, q4, q5, t1, t2, t3, t4⟩ := q
  have e98 : (ud m H1).2.2.1 99 8 = U.2.2.1 99 8 := q4.a 99 8 rfl
  have e15 : (ud m H1).1 15 = U.1 15 := q4.t 15 rfl
  have e21 : (ud m H1).2.1 100 21 = U.2.1 100 21 := q4.i 100 21 rfl
  have now : ∀ q j, q < 14 → ¬ mb mk q = 0 → j < W → cvl (ud m H1) W (bcn mk q) j = (U.2.2.1 99 8).2 (sm f 0 q + dgz f P s q) := fun q j h1 h2 h3 => by
    rw [t4 (bcn mk q) j (fun q' y1 y2 y3 y4 => by have := l4.2.2.2 q q' (by omega) y2 h2 y3 y4; omega) h3]
    exact l6 q j h1 h2 h3
  refine ⟨l, ⟨q1, by omega, by omega, by omega⟩, q2, q3, q4, hK.q q4 rfl, mcs_keep hM t1.1 (q4.n 100 3 rfl) (q4.n 100 8 rfl) (q4.n 100 12 rfl) (q4.n 100 13 rfl) (q4.n 100 15 rfl), fun r hr => by rw [t2 r 2 (by decide), e98]; exact hp r hr, S0, K, dp, W, mk, M, rk, wt, LR_keep l1 (q4.t 21 rfl) (q4.a 100 3 rfl), LZx_keep l2 (q4.i 100 5 rfl) (q4.i 100 7 rfl) (q4.i 100 17 rfl) (q4.i 100 4 rfl) (q4.n 100 8 rfl) (q4.n 100 12 rfl) (q4.n 100 13 rfl) (q4.n 100 15 rfl), by rw [e15]; exact l3, t1, l5, fun q j h1 h2 h3 => by rw [e98]; exact now q j h1 h2 h3, ?_, ⟨q5, by omega, hl⟩, ?_⟩
  · rw [e21, vst_same e15 e98]
    rcases l7 with y | ⟨y, y2⟩
    · exact Or.inl y
    · refine Or.inr ⟨y, fun q h1 h2 j h3 => ?_⟩
      rw [t4 (S0 + rk q) j (fun q' y1 y2 y3 y4 => by have := (l4.2.1 q' y2 y3).2.2.1; omega) (by omega)]
      exact y2 q h1 h2 j (by omega) (by omega)
  · intro w hw j hj
    rw [e15, vst_same e15 e98]
    have e2 := vst_same (f := f) (P := P) (s := ls j) e15 e98
    refine ⟨fun z => ⟨vst_m1 z, by show vst (ud m H1) f P (ls j) w = _; rw [e2]; exact vst_m1 z⟩, fun pl hpl hpv => ⟨fun hb => ?_, fun hb => ?_⟩⟩
    · rw [now pl j (by omega) hb (by omega)]
      exact (vst_pl hpv (by omega)).symm
    · show _ = vst (ud m H1) f P (ls j) w
      rw [t3 (pl + 14) j (by omega) (by omega) (by omega) hb hj, l5 (pl + 14) (by omega) (by omega) hb, e2, vst_pl hpv (by omega), Nat.add_mod_right, Nat.mod_eq_of_lt (show pl < 14 by omega)]
      rfl
theorem mc_run3w (h : um m H) (e : ud m H = U) (hK : KNV m U Y P f od es) (hM : MCS U) (hR : RDTw U Y P f od a0 N0 i0 s n l ls) (hp : PSV U P f s) (hi0 : i0 < (Y 11).1) (hr0 : rg Y (im Y i0) kd a0 (a0 + N0)) (hs0 : SRT Y es i0 al a0 rs N0) (hal : ¬ al = 2) : mu_TV (mu_D (d + 6)) 208 [.inr (.inr (some 100))] H (fun H1 => um m H1 ∧ ur m C H H1 ∧ uq F208 U (ud m H1) ∧ KNV m (ud m H1) Y P f od es ∧ MCS (ud m H1) ∧ PSV (ud m H1) P f s ∧ LSKw (ud m H1) Y P f od a0 N0 i0 s (n - l) ∧ RSL (ud m H1) Y a0 N0 l (fun j => lvl Y (vst U f P s) (vst U f P (ls j)) (evz Y od (vst U f P s)) i0)) := by
  obtain ⟨S0, K, dp, W, mk, M, rk, wt, l1, l2, l3, l4, l5, l6, l7, ⟨l8, l9, l10⟩, l11⟩ := hR
  have hP := hK.P14
  have hsl : SL (U.1 22) S0 mk := fun k hk hb => ⟨(l4.2.1 k hk hb).2.1, (l4.2.1 k hk hb).2.2.1⟩
  have hv : ∀ t, VLS Y (vst U f P t) := fun t => VLS_vst hK.2.2.2.2.2.1 hP hK.2.1
  have fin : ∀ H1, (um m H1 ∧ ur m C H H1 ∧ uq F208 U (ud m H1) ∧ (ud m H1).2.1 100 21 = 0 ∧ (∃ V0 it, ri V0 (ud m H1) Y (S0 + K + sfz Y a0 N0) (sfz Y a0 N0) (S0 + K + sfz Y a0 N0 + dp) W l a0 N0 (fun j => lvl Y (vst U f P s) (vst U f P (ls j)) (evz Y od (vst U f P s)) i0) it) ∧ (∀ s j, s < S0 → j < l → cvl (ud m H1) W s j = cvl U W s j) ∧ (∀ q, q < (Y 13).1 → M (od q) → ∀ j, j < l → cvl (ud m H1) W (S0 + rk q) j = evz Y od (vst U f P s) (od q)) ∧ ∀ s k, s < S0 → k < W → ckp (ud m H1) U W s k) → (um m H1 ∧ ur m C H H1 ∧ uq F208 U (ud m H1) ∧ KNV m (ud m H1) Y P f od es ∧ MCS (ud m H1) ∧ PSV (ud m H1) P f s ∧ LSKw (ud m H1) Y P f od a0 N0 i0 s (n - l) ∧ RSL (ud m H1) Y a0 N0 l (fun j => lvl Y (vst U f P s) (vst U f P (ls j)) (evz Y od (vst U f P s)) i0)) := by
    rintro H1 ⟨q1, q2, q3, q4, ⟨V0, it, q5⟩, q6, q7, q8⟩
    have l2' := LZx_keep l2 (q3.i 100 5 rfl) (q3.i 100 7 rfl) (q3.i 100 17 rfl) (q3.i 100 4 rfl) (q3.n 100 8 rfl) (q3.n 100 12 rfl) (q3.n 100 13 rfl) (q3.n 100 15 rfl)
    have hsd : sds (ud m H1) W P S0 f mk (bcn mk) wt := sds_ckp l4 (q3.t 22 rfl) (q3.a 99 8 rfl) q8
    have e98 : (ud m H1).2.2.1 99 8 = U.2.2.1 99 8 := q3.a 99 8 rfl
    have e15 : (ud m H1).1 15 = U.1 15 := q3.t 15 rfl
    obtain ⟨⟨z5, z7, z17, z4⟩, ⟨zW1, zW2⟩, ⟨z8, zcl⟩, ⟨z12, z12b⟩, ⟨z13, z13b⟩, ⟨z15, z15b⟩, zall, zdp, zS⟩ := id l2'
    refine ⟨q1, q2, q3, hK.q q3 rfl, mcs_keep hM hsd.1 (q3.n 100 3 rfl) (q3.n 100 8 rfl) (q3.n 100 12 rfl) (q3.n 100 13 rfl) (q3.n 100 15 rfl), fun r hr => by rw [q3.t 22 rfl, e98]; exact hp r hr, ⟨S0, K, dp, W, mk, M, rk, wt, LR_keep l1 (q3.t 21 rfl) (q3.a 100 3 rfl), l2', by rw [e15]; exact l3, hsd, l5, fun q j h1 h2 h3 => ?_, ?_⟩, V0, S0 + K + sfz Y a0 N0, S0 + K + sfz Y a0 N0 + dp, W, it, q5, ⟨z5, z7⟩, ⟨by omega, by omega, zall⟩, z15, z15b⟩
    · rw [e98, (q8 (bcn mk q) j (l4.2.1 q (by omega) h2).2.2.1 h3).1]
      exact l6 q j h1 h2 h3
    · rw [vst_same e15 e98]
      exact Or.inr ⟨q4, fun q h1 h2 j h3 h4 => q7 q h1 h2 j (by omega)⟩
  rcases l7 with y | ⟨y, y2⟩
  · exact (mc_runS (C := C) (d := d) h e hK.1.2.2.2.2.1 hK.1.2.2.2.2.2 hK.2.2.1 hK.2.2.2.1.1 hK.2.2.2.2.1 hK.2.2.2.1.2.1 hK.2.2.2.1.2.2.1 l1 l2 l3 hP hi0 hr0 hs0 hal (fun _ _ => hv _) (fun _ _ => hv _) hsl l11 l8 l9 (by omega) y).imp fin
  · exact (mc_runF (C := C) (d := d) h e hK.1.2.2.2.2.1 hK.1.2.2.2.2.2 hK.2.2.1 hK.2.2.2.1.1 hK.2.2.2.2.1 hK.2.2.2.1.2.1 hK.2.2.2.1.2.2.1 l1 l2 l3 hP hi0 hr0 hs0 hal (fun _ _ => hv _) (fun _ _ => hv _) hsl l11 l8 l9 (by omega) y y2).imp fin
end TakeListW
section SiftW
variable {H : mu_H} {U V : Ud} {m d P s nw w t nn : Nat} {C : Nat → Nat} {Y : Ts} {f od wa wn wi : Nat → Nat} {wk : Nat → Bool} {es : Nat → Int32} {Q : Nat → Prop}
theorem rl_siftw (h : um m H) (e : ud m H = U) (hK : KNV m U Y P f od es) (hM : MCS U) (hL : MLW U Y P f od) (hP0 : PSV U P f s) (hWD : WIDw Y es P (U.1 15) (U.1 25) nw wa wn wi wk) (hn : U.2.1 129 11 = nI nn) (hLS0 : LSO U nn (pd f 0 P) Q) (hl10 : pd f 0 P + 4 ≤ (U.2.2.1 129 10).1) (hl10b : (U.2.2.1 129 10).1 ≤ 16777216) (hC21 : 2 * (((Y 13).1 + 2) * 4) + 4 ≤ C 21) (hC21b : C 21 ≤ 8388608) : mu_TV (mu_D (d + 7)) 278 [.inr (.inr (some 129))] H (fun H1 => um m H1 ∧ ur m C H H1 ∧ uq F278 U (ud m H1) ∧ KNV m (ud m H1) Y P f od es ∧ MCS (ud m H1) ∧ MLW (ud m H1) Y P f od ∧ PSV (ud m H1) P f s ∧ ∃ n2, (ud m H1).2.1 129 11 = nI n2 ∧ LSO (ud m H1) n2 (pd f 0 P) (fun t => Q t ∧ WTR Y U f P od wa wn wi s nw t)) := by
  have hS := hK.1
  obtain ⟨⟨s4, s10, s11, s12⟩, hk5, ⟨g8, g8b, g18, g18b⟩, ⟨gP, gpd, gsm⟩, hsp, hmo⟩ := (show spx m U P f from hS)
  have hf1 := hK.2.1
  have hnw := hWD.1.1
  have hnw2 := hWD.1.2
  refine mu_meth (M := mu_m278) rfl rfl ?_
  refine mw_ht (mu_fn_of (show [0].Nodup by decide)) ?_
  refine mw_go mu_g278 (k := 2) (f1 := (2, [(1, .inl (0 : Int32)), (0, .inr (.inr (some 129)))], [], H)) (C := []) rfl trivial ?_
  show mu_W _ _ (2, [(1, .inl (nI 0)), (0, .inr (.inr (some 129)))], [], H) _
  refine mw_sub (L' := [(1, .inl (nI 0)), (0, .inr (.inr (some 129)))]) (by simp) ?_
  refine mw_down (α := Nat × mu_H) (fun zs => (2, [(1, .inl (nI zs.1)), (0, .inr (.inr (some 129)))], [], zs.2)) (fun zs => nw - zs.1) (fun zs => um m zs.2 ∧ ur m C H zs.2 ∧ (uq F278a U (ud m zs.2)) ∧ (zs.1 ≤ nw) ∧ (KNV m (ud m zs.2) Y P f od es) ∧ (MCS (ud m zs.2)) ∧ (MLW (ud m zs.2) Y P f od) ∧ (PSV (ud m zs.2) P f s) ∧ (∃ n2, (ud m zs.2).2.1 129 11 = nI n2 ∧ LSO (ud m zs.2) n2 (pd f 0 P) (fun t => Q t ∧ WTR Y U f P od wa wn wi s zs.1 t))) (fun zs hza iha => ?_) (0, H) ⟨h, (ur.refl m C H), (show uq F278a U (ud m H) from by rw [e]; exact uq.refl _ _), (show 0 ≤ nw from (by omega)), (show KNV m (ud m H) Y P f od es from by rw [e]; exact hK), (show MCS (ud m H) from by rw [e]; exact hM), (show MLW (ud m H) Y P f od from by rw [e]; exact hL), (show PSV (ud m H) P f s from by rw [e]; exact hP0), (show ∃ n2, (ud m H).2.1 129 11 = nI n2 ∧ LSO (ud m H) n2 (pd f 0 P) (fun t => Q t ∧ WTR Y U f P od wa wn wi s 0 t) from by rw [e]; exact ⟨nn, hn, LSO.congr hLS0 (fun x _ => ⟨fun y => ⟨y, fun r hr => absurd hr (Nat.not_lt_zero _)⟩, fun y => y.1⟩)⟩)⟩
  obtain ⟨w, Hsa⟩ := zs
  obtain ⟨ua, hta, da, hw, hKN, hMC, hLD, hPS, hLS⟩ := hza
  have ua : um m Hsa := ua
  have hta : ur m C H Hsa := hta
  have zza : uq F278a U (ud m Hsa) := da
  have hw : w ≤ nw := hw
  have hKN : KNV m (ud m Hsa) Y P f od es := hKN
  have hMC : MCS (ud m Hsa) := hMC
  have hLD : MLW (ud m Hsa) Y P f od := hLD
  have hPS : PSV (ud m Hsa) P f s := hPS
  have hLS : ∃ n2, (ud m Hsa).2.1 129 11 = nI n2 ∧ LSO (ud m Hsa) n2 (pd f 0 P) (fun t => Q t ∧ WTR Y U f P od wa wn wi s w t) := hLS
  obtain ⟨Va, da⟩ : ∃ V, ud m Hsa = V := ⟨_, rfl⟩
  rw [da] at zza hKN hMC hLD hPS hLS
  have qfa : uq F278 U Va := (uq.refl F278 U).tr zza rfl
  show mu_W _ _ (2, [(1, .inl (nI w)), (0, .inr (.inr (some 129)))], [], Hsa) _
  refine mw_go mu_g278 (k := 3) (f1 := (7, [(1, .inl (nI w)), (0, .inr (.inr (some 129)))], [.inr (.inr (mu_r Hsa 129 3)), .inl (nI w)], Hsa)) (C := [mu_is Hsa (some 129) 9]) rfl (show mu_is Hsa (some 129) 9 from (ua.1.1.is rfl)) ?_
  rw [(ua.1.1.r (p := 129) (j := 3) (q := 132) rfl)]
  refine mw_go mu_g278 (k := 1) (f1 := (10, [(1, .inl (nI w)), (0, .inr (.inr (some 129)))], [.inl (mu_i Hsa 132 2), .inl (nI w)], Hsa)) (C := [mu_is Hsa (some 132) 10]) rfl (show mu_is Hsa (some 132) 10 from (ua.1.1.is rfl)) ?_
  rw [(show mu_i Hsa 132 2 = (nI nw) from (ua.size da (j := 25) (by decide) rfl).trans (congrArg nI ((congrArg Prod.fst (show Va.1 25 = (U.1 25) from (zza.t 25 rfl))).trans hnw)))]
  refine mw_if (P := (nI w) < (nI nw)) (a := 13) (b := 175) (fun _ => rfl) trivial (fun h1 => ?_) (fun h1 => ?_)
  · -- 13: (nI w) < (nI nw)
    have nh1 : w < nw := (nI_ltI (by omega) (by omega)).mp (show nI w < nI nw from h1)
    obtain ⟨⟨hw0, hw1, hw2, hwi⟩, hcase⟩ := hWD.2 w (by omega)
    obtain ⟨nL, hnL, hLO⟩ := hLS
    have hnT := hLO.le
    obtain ⟨ls, hlv, hlr, hlm⟩ := id hLO
    have hlb : ∀ i, i < nL → ls i < 16384 := fun i hi => by have y := ((hlm (ls i)).mp ((lmz_iff nL).mpr ⟨i, hi, rfl⟩)).1; omega
    rcases hcase with ⟨hw3, hrg, rs, hsr, hst⟩ | ⟨pl, hpl, hw3, hnx0, al, Lk, rs, hal, hrg, hLk, hsr, hwk⟩
    · -- E
      have htp : tpz Y (wa w) (wn w) = 1 := by have y := rg_1 hrg; rw [Nat.add_sub_cancel_left] at y; exact y
      refine mw_go mu_g278 (k := 2) (f1 := (17, [(1, .inl (nI w)), (0, .inr (.inr (some 129)))], [.inr (.inr (mu_r Hsa 129 3))], Hsa)) (C := [mu_is Hsa (some 129) 9]) rfl (show mu_is Hsa (some 129) 9 from (ua.1.1.is rfl)) ?_
      rw [(ua.1.1.r (p := 129) (j := 3) (q := 132) rfl)]
      refine mw_go mu_g278 (k := 2) (f1 := (19, [(1, .inl (nI w)), (0, .inr (.inr (some 129)))], [.inl (3 : Int32), .inl (nI w), .inr (.inr (some 132))], Hsa)) (C := []) rfl trivial ?_
      refine mw_cIe (fun _ => rfl) (show mu_is Hsa (some 132) 10 from (ua.1.1.is rfl)) (ua.getr (d := (d + 5)) da (j := 25) (by decide) rfl (nI w) (c := 3) (by decide)) ?_
      rw [show (tget (Va.1 25) (nI w) 3) = (-1 : Int32) from ((congrArg (fun z => tget z (nI w) 3) (show Va.1 25 = (U.1 25) from (zza.t 25 rfl))).trans (tget_nI (by omega))).trans hw3]
      refine mw_if (P := (-1 : Int32) < 0) (a := 28) (b := 25) (fun _ => rfl) trivial (fun h3 => ?_) (fun h3 => absurd (by decide) h3)
      refine mw_go mu_g278 (k := 2) (f1 := (32, [(1, .inl (nI w)), (0, .inr (.inr (some 129)))], [.inr (.inr (mu_r Hsa 129 0))], Hsa)) (C := [mu_is Hsa (some 129) 9]) rfl (show mu_is Hsa (some 129) 9 from (ua.1.1.is rfl)) ?_
      rw [(ua.1.1.r (p := 129) (j := 0) (q := 99) rfl)]
      refine mw_go mu_g278 (k := 1) (f1 := (35, [(1, .inl (nI w)), (0, .inr (.inr (some 129)))], [.inr (.inr (mu_r Hsa 99 1))], Hsa)) (C := [mu_is Hsa (some 99) 13]) rfl (show mu_is Hsa (some 99) 13 from (ua.1.1.is rfl)) ?_
      rw [(ua.1.1.r (p := 99) (j := 1) (q := 100) rfl)]
      refine mw_go mu_g278 (k := 2) (f1 := (39, [(1, .inl (nI w)), (0, .inr (.inr (some 129)))], [.inr (.inr (mu_r Hsa 129 3)), .inr (.inr (some 100))], Hsa)) (C := [mu_is Hsa (some 129) 9]) rfl (show mu_is Hsa (some 129) 9 from (ua.1.1.is rfl)) ?_
      rw [(ua.1.1.r (p := 129) (j := 3) (q := 132) rfl)]
      refine mw_go mu_g278 (k := 2) (f1 := (41, [(1, .inl (nI w)), (0, .inr (.inr (some 129)))], [.inl (0 : Int32), .inl (nI w), .inr (.inr (some 132)), .inr (.inr (some 100))], Hsa)) (C := []) rfl trivial ?_
      refine mw_cIe (fun _ => rfl) (show mu_is Hsa (some 132) 10 from (ua.1.1.is rfl)) (ua.getr (d := (d + 5)) da (j := 25) (by decide) rfl (nI w) (c := 0) (by decide)) ?_
      rw [show (tget (Va.1 25) (nI w) 0) = (nI (wa w)) from ((congrArg (fun z => tget z (nI w) 0) (show Va.1 25 = (U.1 25) from (zza.t 25 rfl))).trans (tget_nI (by omega))).trans hw0]
      refine mw_go mu_g278 (k := 2) (f1 := (48, [(1, .inl (nI w)), (0, .inr (.inr (some 129)))], [.inr (.inr (mu_r Hsa 129 3)), .inl (nI (wa w)), .inr (.inr (some 100))], Hsa)) (C := [mu_is Hsa (some 129) 9]) rfl (show mu_is Hsa (some 129) 9 from (ua.1.1.is rfl)) ?_
      rw [(ua.1.1.r (p := 129) (j := 3) (q := 132) rfl)]
      refine mw_go mu_g278 (k := 2) (f1 := (50, [(1, .inl (nI w)), (0, .inr (.inr (some 129)))], [.inl (1 : Int32), .inl (nI w), .inr (.inr (some 132)), .inl (nI (wa w)), .inr (.inr (some 100))], Hsa)) (C := []) rfl trivial ?_
      refine mw_cIe (fun _ => rfl) (show mu_is Hsa (some 132) 10 from (ua.1.1.is rfl)) (ua.getr (d := (d + 5)) da (j := 25) (by decide) rfl (nI w) (c := 1) (by decide)) ?_
      rw [show (tget (Va.1 25) (nI w) 1) = (nI (wa w + wn w)) from ((congrArg (fun z => tget z (nI w) 1) (show Va.1 25 = (U.1 25) from (zza.t 25 rfl))).trans (tget_nI (by omega))).trans hw1]
      refine mw_go mu_g278 (k := 2) (f1 := (57, [(1, .inl (nI w)), (0, .inr (.inr (some 129)))], [.inr (.inr (mu_r Hsa 129 3)), .inl (nI (wa w + wn w)), .inl (nI (wa w)), .inr (.inr (some 100))], Hsa)) (C := [mu_is Hsa (some 129) 9]) rfl (show mu_is Hsa (some 129) 9 from (ua.1.1.is rfl)) ?_
      rw [(ua.1.1.r (p := 129) (j := 3) (q := 132) rfl)]
      refine mw_go mu_g278 (k := 2) (f1 := (59, [(1, .inl (nI w)), (0, .inr (.inr (some 129)))], [.inl (2 : Int32), .inl (nI w), .inr (.inr (some 132)), .inl (nI (wa w + wn w)), .inl (nI (wa w)), .inr (.inr (some 100))], Hsa)) (C := []) rfl trivial ?_
      refine mw_cIe (fun _ => rfl) (show mu_is Hsa (some 132) 10 from (ua.1.1.is rfl)) (ua.getr (d := (d + 5)) da (j := 25) (by decide) rfl (nI w) (c := 2) (by decide)) ?_
      rw [show (tget (Va.1 25) (nI w) 2) = (nI (wi w)) from ((congrArg (fun z => tget z (nI w) 2) (show Va.1 25 = (U.1 25) from (zza.t 25 rfl))).trans (tget_nI (by omega))).trans hw2]
      refine mw_cV (fun _ => rfl) (show mu_is Hsa (some 100) 5 from (ua.1.1.is rfl)) (mc_load3 (d := (d + 1)) (C := C) (a0 := wa w) (N0 := wn w) (i0 := wi w) ua da hKN hMC hLD hwi (rgs_of hrg) hC21 hC21b) (fun Q7 q7 => ?_)
      obtain ⟨u7, r7, z7, hKN1, hMC1, hLD1, hKC1⟩ := q7
      have ht7 : ur m C H Q7 := hta.trans r7
      obtain ⟨V7, d7⟩ : ∃ V, ud m Q7 = V := ⟨_, rfl⟩
      rw [d7] at z7 hKN1 hMC1 hLD1 hKC1
      have qf7 : uq F278 U V7 := qfa.tr z7 rfl
      have hPS1 : PSV V7 P f s := fun r hr => by rw [hKC1 r 2 (by decide) (by decide), show V7.2.2.1 99 8 = Va.2.2.1 99 8 from z7.a 99 8 rfl]; exact hPS r hr
      refine mw_go mu_g278 (k := 2) (f1 := (69, [(1, .inl (nI w)), (0, .inr (.inr (some 129)))], [.inr (.inr (mu_r Q7 129 0))], Q7)) (C := [mu_is Q7 (some 129) 9]) rfl (show mu_is Q7 (some 129) 9 from (u7.1.1.is rfl)) ?_
      rw [(u7.1.1.r (p := 129) (j := 0) (q := 99) rfl)]
      refine mw_go mu_g278 (k := 1) (f1 := (72, [(1, .inl (nI w)), (0, .inr (.inr (some 129)))], [.inr (.inr (mu_r Q7 99 1))], Q7)) (C := [mu_is Q7 (some 99) 13]) rfl (show mu_is Q7 (some 99) 13 from (u7.1.1.is rfl)) ?_
      rw [(u7.1.1.r (p := 99) (j := 1) (q := 100) rfl)]
      refine mw_cV (fun _ => rfl) (show mu_is Q7 (some 100) 5 from (u7.1.1.is rfl)) (mc_begin2w (d := (d + 2)) (C := C) (a0 := wa w) (N0 := wn w) (i0 := wi w) (s := s) u7 d7 hKN1 hMC1 hLD1 hPS1) (fun Q8 q8 => ?_)
      obtain ⟨u8, r8, z8, hKN2, hMC2, hPS2, hLS2⟩ := q8
      have ht8 : ur m C H Q8 := ht7.trans r8
      obtain ⟨V8, d8⟩ : ∃ V, ud m Q8 = V := ⟨_, rfl⟩
      rw [d8] at z8 hKN2 hMC2 hPS2 hLS2
      have qf8 : uq F278 U V8 := qf7.tr z8 rfl
      refine mw_go mu_g278 (k := 6) (f1 := (82, [(4, .inl (0 : Int32)), (3, .inl (0 : Int32)), (2, .inl (0 : Int32)), (1, .inl (nI w)), (0, .inr (.inr (some 129)))], [], Q8)) (C := []) rfl trivial ?_
      show mu_W _ _ (82, [(4, .inl (nI 0)), (3, .inl (nI 0)), (2, .inl (nI 0)), (1, .inl (nI w)), (0, .inr (.inr (some 129)))], [], Q8) _
      refine mw_sub (L' := [(4, .inl (nI 0)), (3, .inl (nI 0)), (2, .inl (nI 0)), (0, .inr (.inr (some 129))), (1, .inl (nI w))]) (by simp) ?_
      refine mw_down (α := Nat × Nat × Nat × mu_H) (fun zs => (82, [(4, .inl (nI zs.1)), (3, .inl (nI zs.2.1)), (2, .inl (nI zs.2.2.1)), (0, .inr (.inr (some 129))), (1, .inl (nI w))], [], zs.2.2.2)) (fun zs => nL - zs.2.1) (fun zs => um m zs.2.2.2 ∧ ur m C H zs.2.2.2 ∧ (uq F278b V8 (ud m zs.2.2.2)) ∧ (zs.2.1 ≤ nL) ∧ (zs.1 ≤ zs.2.1) ∧ (zs.2.2.1 ≤ zs.2.1) ∧ (KNV m (ud m zs.2.2.2) Y P f od es) ∧ (MCS (ud m zs.2.2.2)) ∧ (PSV (ud m zs.2.2.2) P f s) ∧ (LSKw (ud m zs.2.2.2) Y P f od (wa w) (wn w) (wi w) s (nL - zs.2.1)) ∧ (∀ j, zs.2.1 ≤ j → j < nL → ((ud m zs.2.2.2).2.2.1 129 10).2 j = nI (ls j)) ∧ (FLTR (ud m zs.2.2.2) zs.2.2.1 zs.2.1 ls (fun t => ¬ trs Y U f P od (wi w) (wa w) (wn w) s t = 0))) (fun zs hzb ihb => ?_) (0, 0, 0, Q8) ⟨u8, ht8, (show uq F278b V8 (ud m Q8) from by rw [d8]; exact uq.refl _ _), (show 0 ≤ nL from (by omega)), (show 0 ≤ 0 from (by omega)), (show 0 ≤ 0 from (by omega)), (show KNV m (ud m Q8) Y P f od es from by rw [d8]; exact hKN2), (show MCS (ud m Q8) from by rw [d8]; exact hMC2), (show PSV (ud m Q8) P f s from by rw [d8]; exact hPS2), (show LSKw (ud m Q8) Y P f od (wa w) (wn w) (wi w) s (nL - 0) from by rw [d8]; exact (hLS2 _)), (show ∀ j, 0 ≤ j → j < nL → ((ud m Q8).2.2.1 129 10).2 j = nI (ls j) from by rw [d8]; exact (fun j _ hj => by rw [(show (V8.2.2.1 129 10) = (Va.2.2.1 129 10) from ((z8.a 129 10 rfl).trans (z7.a 129 10 rfl)))]; exact hlv j hj)), (show FLTR (ud m Q8) 0 0 ls (fun t => ¬ trs Y U f P od (wi w) (wa w) (wn w) s t = 0) from by rw [d8]; exact ⟨fun _ => 0, fun j hj => absurd hj (Nat.not_lt_zero _), fun i j _ hj => absurd hj (Nat.not_lt_zero _), fun x => ⟨fun y => (by cases y), fun y => (by cases y.1)⟩⟩)⟩
      obtain ⟨iy, ay, lf, Hsb⟩ := zs
      obtain ⟨ub, htb, db, hay, hiy, hlf, hKI, hMI, hPI, hLI, hTI, hFI⟩ := hzb
      have ub : um m Hsb := ub
      have htb : ur m C H Hsb := htb
      have zzb : uq F278b V8 (ud m Hsb) := db
      have hay : ay ≤ nL := hay
      have hiy : iy ≤ ay := hiy
      have hlf : lf ≤ ay := hlf
      have hKI : KNV m (ud m Hsb) Y P f od es := hKI
      have hMI : MCS (ud m Hsb) := hMI
      have hPI : PSV (ud m Hsb) P f s := hPI
      have hLI : LSKw (ud m Hsb) Y P f od (wa w) (wn w) (wi w) s (nL - ay) := hLI
      have hTI : ∀ j, ay ≤ j → j < nL → ((ud m Hsb).2.2.1 129 10).2 j = nI (ls j) := hTI
      have hFI : FLTR (ud m Hsb) lf ay ls (fun t => ¬ trs Y U f P od (wi w) (wa w) (wn w) s t = 0) := hFI
      obtain ⟨Vb, db⟩ : ∃ V, ud m Hsb = V := ⟨_, rfl⟩
      rw [db] at zzb hKI hMI hPI hLI hTI hFI
      have qfb : uq F278 U Vb := qf8.tr zzb rfl
      show mu_W _ _ (82, [(4, .inl (nI iy)), (3, .inl (nI ay)), (2, .inl (nI lf)), (0, .inr (.inr (some 129))), (1, .inl (nI w))], [], Hsb) _
      refine mw_go mu_g278 (k := 3) (f1 := (88, [(4, .inl (nI iy)), (3, .inl (nI ay)), (2, .inl (nI lf)), (0, .inr (.inr (some 129))), (1, .inl (nI w))], [.inl (mu_i Hsb 129 11), .inl (nI iy)], Hsb)) (C := [mu_is Hsb (some 129) 9]) rfl (show mu_is Hsb (some 129) 9 from (ub.1.1.is rfl)) ?_
      rw [(show mu_i Hsb 129 11 = (nI nL) from (ud_i (U := Vb) (m := m) (P := 129) (j := 11) db rfl).trans ((zzb.i 129 11 rfl).trans ((z8.i 129 11 rfl).trans ((z7.i 129 11 rfl).trans hnL))))]
      refine mw_if (P := (nI iy) < (nI nL)) (a := 91) (b := 164) (fun _ => rfl) trivial (fun h9 => ?_) (fun h9 => ?_)
      · -- 91: (nI iy) < (nI nL)
        have nh9 : iy < nL := (nI_ltI (by omega) (by omega)).mp (show nI iy < nI nL from h9)
        refine mw_go mu_g278 (k := 3) (f1 := (96, [(4, .inl (nI iy)), (3, .inl (nI ay)), (2, .inl (nI lf)), (0, .inr (.inr (some 129))), (1, .inl (nI w))], [.inl (mu_i Hsb 129 11), .inl (nI ay)], Hsb)) (C := [mu_is Hsb (some 129) 9]) rfl (show mu_is Hsb (some 129) 9 from (ub.1.1.is rfl)) ?_
        rw [(show mu_i Hsb 129 11 = (nI nL) from (ud_i (U := Vb) (m := m) (P := 129) (j := 11) db rfl).trans ((zzb.i 129 11 rfl).trans ((z8.i 129 11 rfl).trans ((z7.i 129 11 rfl).trans hnL))))]
        refine mw_if (P := (nI ay) < (nI nL)) (a := 99) (b := 164) (fun _ => rfl) trivial (fun h10 => ?_) (fun h10 => ?_)
        · -- 99: (nI ay) < (nI nL)
          have nh10 : ay < nL := (nI_ltI (by omega) (by omega)).mp (show nI ay < nI nL from h10)
          refine mw_go mu_g278 (k := 2) (f1 := (103, [(4, .inl (nI iy)), (3, .inl (nI ay)), (2, .inl (nI lf)), (0, .inr (.inr (some 129))), (1, .inl (nI w))], [.inr (.inr (mu_r Hsb 129 0))], Hsb)) (C := [mu_is Hsb (some 129) 9]) rfl (show mu_is Hsb (some 129) 9 from (ub.1.1.is rfl)) ?_
          rw [(ub.1.1.r (p := 129) (j := 0) (q := 99) rfl)]
          refine mw_go mu_g278 (k := 1) (f1 := (106, [(4, .inl (nI iy)), (3, .inl (nI ay)), (2, .inl (nI lf)), (0, .inr (.inr (some 129))), (1, .inl (nI w))], [.inr (.inr (mu_r Hsb 99 1))], Hsb)) (C := [mu_is Hsb (some 99) 13]) rfl (show mu_is Hsb (some 99) 13 from (ub.1.1.is rfl)) ?_
          rw [(ub.1.1.r (p := 99) (j := 1) (q := 100) rfl)]
          refine mw_go mu_g278 (k := 2) (f1 := (110, [(4, .inl (nI iy)), (3, .inl (nI ay)), (2, .inl (nI lf)), (0, .inr (.inr (some 129))), (1, .inl (nI w))], [.inr (.inr (mu_r Hsb 129 10)), .inr (.inr (some 100))], Hsb)) (C := [mu_is Hsb (some 129) 9]) rfl (show mu_is Hsb (some 129) 9 from (ub.1.1.is rfl)) ?_
          rw [(show mu_r Hsb 129 10 = (U.2.2.2.1 129 10) from (ud_q (U := Vb) (m := m) (P := 129) (j := 10) db rfl).trans ((zzb.r 129 10 rfl).trans ((z8.r 129 10 rfl).trans ((z7.r 129 10 rfl).trans (zza.r 129 10 rfl)))))]
          refine mw_go mu_g278 (k := 3) (f1 := (115, [(4, .inl (nI iy)), (3, .inl (nI ay)), (2, .inl (nI lf)), (0, .inr (.inr (some 129))), (1, .inl (nI w))], [.inl (mu_i Hsb 129 11), .inl (nI ay), .inr (.inr (U.2.2.2.1 129 10)), .inr (.inr (some 100))], Hsb)) (C := [mu_is Hsb (some 129) 9]) rfl (show mu_is Hsb (some 129) 9 from (ub.1.1.is rfl)) ?_
          rw [(show mu_i Hsb 129 11 = (nI nL) from (ud_i (U := Vb) (m := m) (P := 129) (j := 11) db rfl).trans ((zzb.i 129 11 rfl).trans ((z8.i 129 11 rfl).trans ((z7.i 129 11 rfl).trans hnL))))]
          refine mw_go mu_g278 (k := 2) (f1 := (117, [(4, .inl (nI iy)), (3, .inl (nI ay)), (2, .inl (nI lf)), (0, .inr (.inr (some 129))), (1, .inl (nI w))], [.inl ((nI nL) - (nI ay)), .inl (nI ay), .inr (.inr (U.2.2.2.1 129 10)), .inr (.inr (some 100))], Hsb)) (C := []) rfl trivial ?_
          rw [(show ((nI nL) - (nI ay)) = (nI (nL - ay)) from (nI_sub (a := nL) (b := ay) (by omega)))]
          refine mw_cI (fun _ => rfl) (show mu_is Hsb (some 100) 5 from (ub.1.1.is rfl)) (by have q := mc_take2w (d := (d + 1)) (C := C) (a0 := wa w) (N0 := wn w) (i0 := wi w) (s := s) (n := nL - ay) (st := ay) (rem := nL - ay) (ls := fun i => ls (ay + i)) ub db hKI hMI hLI hPI (fun i hi => ⟨hTI (ay + i) (by omega) (by omega), hlb (ay + i) (by omega)⟩) (fun i j h1 h2 => hlr (ay + i) (ay + j) (by omega) (by omega)) (by omega) (Nat.le_refl _) (by rw [(show (Vb.2.2.1 129 10).1 = (U.2.2.1 129 10).1 from ((zzb.n 129 10 rfl).trans ((z8.n 129 10 rfl).trans ((z7.n 129 10 rfl).trans (zza.n 129 10 rfl)))))]; omega) (by rw [(show (Vb.2.2.1 129 10).1 = (U.2.2.1 129 10).1 from ((zzb.n 129 10 rfl).trans ((z8.n 129 10 rfl).trans ((z7.n 129 10 rfl).trans (zza.n 129 10 rfl)))))]; exact hl10b); rw [(show (Vb.2.2.2.1 129 10) = (U.2.2.2.1 129 10) from ((zzb.r 129 10 rfl).trans ((z8.r 129 10 rfl).trans ((z7.r 129 10 rfl).trans (zza.r 129 10 rfl)))))] at q; exact q) (fun x11 Q11 q11 => ?_)
          obtain ⟨l, ⟨rfl, hl1, hlnn, hl2⟩, u11, r11, z11, hKI1, hMI1, hPI1, hRT⟩ := q11
          have ht11 : ur m C H Q11 := htb.trans r11
          obtain ⟨V11, d11⟩ : ∃ V, ud m Q11 = V := ⟨_, rfl⟩
          rw [d11] at z11 hKI1 hMI1 hPI1 hRT
          have qf11 : uq F278 U V11 := qfb.tr z11 rfl
          refine mw_go mu_g278 (k := 3) (f1 := (126, [(5, .inl (nI l)), (4, .inl (nI iy)), (3, .inl (nI ay)), (2, .inl (nI lf)), (0, .inr (.inr (some 129))), (1, .inl (nI w))], [.inr (.inr (mu_r Q11 129 0))], Q11)) (C := [mu_is Q11 (some 129) 9]) rfl (show mu_is Q11 (some 129) 9 from (u11.1.1.is rfl)) ?_
          rw [(u11.1.1.r (p := 129) (j := 0) (q := 99) rfl)]
          refine mw_go mu_g278 (k := 1) (f1 := (129, [(5, .inl (nI l)), (4, .inl (nI iy)), (3, .inl (nI ay)), (2, .inl (nI lf)), (0, .inr (.inr (some 129))), (1, .inl (nI w))], [.inr (.inr (mu_r Q11 99 1))], Q11)) (C := [mu_is Q11 (some 99) 13]) rfl (show mu_is Q11 (some 99) 13 from (u11.1.1.is rfl)) ?_
          rw [(u11.1.1.r (p := 99) (j := 1) (q := 100) rfl)]
          refine mw_cV (fun _ => rfl) (show mu_is Q11 (some 100) 5 from (u11.1.1.is rfl)) (mc_run3w (d := d) (C := C) (a0 := wa w) (N0 := wn w) (i0 := wi w) (s := s) (al := 1) (n := nL - ay) (l := l) u11 d11 hKI1 hMI1 hRT hPI1 hwi hrg hsr (by decide)) (fun Q12 q12 => ?_)
          obtain ⟨u12, r12, z12, hKI2, hMI2, hPI2, hLI2, hRS⟩ := q12
          have ht12 : ur m C H Q12 := ht11.trans r12
          obtain ⟨V12, d12⟩ : ∃ V, ud m Q12 = V := ⟨_, rfl⟩
          rw [d12] at z12 hKI2 hMI2 hPI2 hLI2 hRS
          have qf12 : uq F278 U V12 := qf11.tr z12 rfl
          refine mw_go mu_g278 (k := 4) (f1 := (138, [(5, .inl (nI l)), (4, .inl (nI iy)), (3, .inl (nI ay)), (2, .inl (nI lf)), (0, .inr (.inr (some 129))), (1, .inl (nI w))], [.inr (.inr (mu_r Q12 129 0)), .inr (.inr (some 129)), .inl (nI lf)], Q12)) (C := [mu_is Q12 (some 129) 9]) rfl (show mu_is Q12 (some 129) 9 from (u12.1.1.is rfl)) ?_
          rw [(u12.1.1.r (p := 129) (j := 0) (q := 99) rfl)]
          refine mw_go mu_g278 (k := 1) (f1 := (141, [(5, .inl (nI l)), (4, .inl (nI iy)), (3, .inl (nI ay)), (2, .inl (nI lf)), (0, .inr (.inr (some 129))), (1, .inl (nI w))], [.inr (.inr (mu_r Q12 99 1)), .inr (.inr (some 129)), .inl (nI lf)], Q12)) (C := [mu_is Q12 (some 99) 13]) rfl (show mu_is Q12 (some 99) 13 from (u12.1.1.is rfl)) ?_
          rw [(u12.1.1.r (p := 99) (j := 1) (q := 100) rfl)]
          refine mw_cA (fun _ => rfl) (show mu_is Q12 (some 100) 5 from (u12.1.1.is rfl)) (mc_results2 (d := (d + 2)) (C := C) u12 d12 hRS htp) (fun x13 Q13 q13 => ?_)
          obtain ⟨rfl, u13, r13, z13, hres⟩ := q13
          have ht13 : ur m C H Q13 := ht12.trans r13
          obtain ⟨V13, d13⟩ : ∃ V, ud m Q13 = V := ⟨_, rfl⟩
          rw [d13] at z13 hres
          have qf13 : uq F278 U V13 := qf12.tr z13 rfl
          have htv : ∀ q, q < l → (V13.2.2.1 100 9).2 q = nI ((tvz Y U f P od (wi w) (wa w) (wn w) s (fun i => ls (ay + i))) q) ∧ (tvz Y U f P od (wi w) (wa w) (wn w) s (fun i => ls (ay + i))) q ≤ 1 := fun q hq => ⟨(hres q hq).trans ((show _ = trs Y V11 f P od (wi w) (wa w) (wn w) s (ls (ay + q)) from rfl).trans ((trs_same (show (V11.1 15) = (U.1 15) from ((z11.t 15 rfl).trans ((zzb.t 15 rfl).trans ((z8.t 15 rfl).trans ((z7.t 15 rfl).trans (zza.t 15 rfl)))))) (show (V11.2.2.1 99 8) = (U.2.2.1 99 8) from ((z11.a 99 8 rfl).trans ((zzb.a 99 8 rfl).trans ((z8.a 99 8 rfl).trans ((z7.a 99 8 rfl).trans (zza.a 99 8 rfl))))))).trans (tvz_n (ls := fun i => ls (ay + i)) (trs_01 hK hrg hsr (by decide) hst)))), tvz_le⟩
          refine mw_go mu_g278 (k := 3) (f1 := (148, [(5, .inl (nI l)), (4, .inl (nI iy)), (3, .inl (nI ay)), (2, .inl (nI lf)), (0, .inr (.inr (some 129))), (1, .inl (nI w))], [.inl (nI lf), .inl (nI l), .inl (nI ay), .inr (.inr (some 107)), .inr (.inr (some 129)), .inl (nI lf)], Q13)) (C := []) rfl trivial ?_
          refine mw_cI (fun _ => rfl) (show mu_is Q13 (some 129) 9 from (u13.1.1.is rfl)) (rl_leave (d := (d + 5)) (C := C) (fr := ay) (mn := l) (tq := lf) (tv := (tvz Y U f P od (wi w) (wa w) (wn w) s (fun i => ls (ay + i)))) u13 d13 htv hl2 hlf (by rw [(show (V13.2.2.1 129 10).1 = (U.2.2.1 129 10).1 from ((z13.n 129 10 rfl).trans ((z12.n 129 10 rfl).trans ((z11.n 129 10 rfl).trans ((zzb.n 129 10 rfl).trans ((z8.n 129 10 rfl).trans ((z7.n 129 10 rfl).trans (zza.n 129 10 rfl))))))))]; omega) (by rw [(show (V13.2.2.1 129 10).1 = (U.2.2.1 129 10).1 from ((z13.n 129 10 rfl).trans ((z12.n 129 10 rfl).trans ((z11.n 129 10 rfl).trans ((zzb.n 129 10 rfl).trans ((z8.n 129 10 rfl).trans ((z7.n 129 10 rfl).trans (zza.n 129 10 rfl))))))))]; exact hl10b)) (fun x14 Q14 q14 => ?_)
          obtain ⟨rfl, u14, r14, z14, hLV⟩ := q14
          have ht14 : ur m C H Q14 := ht13.trans r14
          obtain ⟨V14, d14⟩ : ∃ V, ud m Q14 = V := ⟨_, rfl⟩
          rw [d14] at z14 hLV
          have qf14 : uq F278 U V14 := qf13.tr z14 rfl
          have hcl := ctv_le (fun q (_ : q < l) => (tvz_le : (tvz Y U f P od (wi w) (wa w) (wn w) s (fun i => ls (ay + i))) q ≤ 1)) (Nat.le_refl l)
          refine mw_go mu_g278 (k := 1) (f1 := (152, [(5, .inl (nI l)), (4, .inl (nI iy)), (3, .inl (nI ay)), (2, .inl (nI lf)), (0, .inr (.inr (some 129))), (1, .inl (nI w))], [.inl ((nI lf) + (nI (ctv (tvz Y U f P od (wi w) (wa w) (wn w) s (fun i => ls (ay + i))) l)))], Q14)) (C := []) rfl trivial ?_
          rw [(show ((nI lf) + (nI (ctv (tvz Y U f P od (wi w) (wa w) (wn w) s (fun i => ls (ay + i))) l))) = (nI (lf + (ctv (tvz Y U f P od (wi w) (wa w) (wn w) s (fun i => ls (ay + i))) l))) from (nI_add lf (ctv (tvz Y U f P od (wi w) (wa w) (wn w) s (fun i => ls (ay + i))) l)))]
          refine mw_go mu_g278 (k := 4) (f1 := (157, [(2, .inl (nI (lf + (ctv (tvz Y U f P od (wi w) (wa w) (wn w) s (fun i => ls (ay + i))) l)))), (5, .inl (nI l)), (4, .inl (nI iy)), (3, .inl (nI ay)), (0, .inr (.inr (some 129))), (1, .inl (nI w))], [.inl ((nI ay) + (nI l))], Q14)) (C := []) rfl trivial ?_
          rw [(show ((nI ay) + (nI l)) = (nI (ay + l)) from (nI_add ay l))]
          refine mw_go mu_g278 (k := 2) (f1 := (161, [(4, .inl ((nI iy) + 1)), (3, .inl (nI (ay + l))), (2, .inl (nI (lf + (ctv (tvz Y U f P od (wi w) (wa w) (wn w) s (fun i => ls (ay + i))) l)))), (5, .inl (nI l)), (0, .inr (.inr (some 129))), (1, .inl (nI w))], [], Q14)) (C := []) rfl trivial ?_
          rw [(show ((nI iy) + 1) = (nI (iy + 1)) from (nI_add iy 1))]
          refine mw_go mu_g278 (k := 1) (f1 := (82, [(4, .inl (nI (iy + 1))), (3, .inl (nI (ay + l))), (2, .inl (nI (lf + (ctv (tvz Y U f P od (wi w) (wa w) (wn w) s (fun i => ls (ay + i))) l)))), (5, .inl (nI l)), (0, .inr (.inr (some 129))), (1, .inl (nI w))], [], Q14)) (C := []) rfl trivial ?_
          exact mw_sub (by simp) (ihb (iy + 1, ay + l, lf + (ctv (tvz Y U f P od (wi w) (wa w) (wn w) s (fun i => ls (ay + i))) l), Q14) ⟨u14, ht14, (show uq F278b V8 (ud m Q14) from by rw [d14]; exact ((((zzb.tr z11 rfl).tr z12 rfl).tr z13 rfl).tr z14 rfl)), (show (ay + l) ≤ nL from (by omega)), (show (iy + 1) ≤ (ay + l) from (by omega)), (show (lf + (ctv (tvz Y U f P od (wi w) (wa w) (wn w) s (fun i => ls (ay + i))) l)) ≤ (ay + l) from (by omega)), (show KNV m (ud m Q14) Y P f od es from by rw [d14]; exact ((hKI2.q z13 rfl).q z14 rfl)), (show MCS (ud m Q14) from by rw [d14]; exact (mcs_keep hMI2 (by rw [(show (V14.1 22) = (V12.1 22) from ((z14.t 22 rfl).trans (z13.t 22 rfl)))]; exact hMI2.1) (show (V14.2.2.1 100 3).1 = (V12.2.2.1 100 3).1 from ((z14.n 100 3 rfl).trans (z13.n 100 3 rfl))) (show (V14.2.2.1 100 8).1 = (V12.2.2.1 100 8).1 from ((z14.n 100 8 rfl).trans (z13.n 100 8 rfl))) (show (V14.2.2.1 100 12).1 = (V12.2.2.1 100 12).1 from ((z14.n 100 12 rfl).trans (z13.n 100 12 rfl))) (show (V14.2.2.1 100 13).1 = (V12.2.2.1 100 13).1 from ((z14.n 100 13 rfl).trans (z13.n 100 13 rfl))) (show (V14.2.2.1 100 15).1 = (V12.2.2.1 100 15).1 from ((z14.n 100 15 rfl).trans (z13.n 100 15 rfl))))), (show PSV (ud m Q14) P f s from by rw [d14]; exact (fun r hr => by rw [(show (V14.1 22) = (V12.1 22) from ((z14.t 22 rfl).trans (z13.t 22 rfl))), (show (V14.2.2.1 99 8) = (V12.2.2.1 99 8) from ((z14.a 99 8 rfl).trans (z13.a 99 8 rfl)))]; exact hPI2 r hr)), (show LSKw (ud m Q14) Y P f od (wa w) (wn w) (wi w) s (nL - (ay + l)) from by rw [d14]; exact (by rw [show nL - (ay + l) = nL - ay - l by omega]; exact hLI2.keep (show (V14.1 21) = (V12.1 21) from ((z14.t 21 rfl).trans (z13.t 21 rfl))) (show (V14.1 22) = (V12.1 22) from ((z14.t 22 rfl).trans (z13.t 22 rfl))) (show (V14.1 15) = (V12.1 15) from ((z14.t 15 rfl).trans (z13.t 15 rfl))) (show (V14.2.2.1 100 3) = (V12.2.2.1 100 3) from ((z14.a 100 3 rfl).trans (z13.a 100 3 rfl))) (show (V14.2.1 100 5) = (V12.2.1 100 5) from ((z14.i 100 5 rfl).trans (z13.i 100 5 rfl))) (show (V14.2.1 100 7) = (V12.2.1 100 7) from ((z14.i 100 7 rfl).trans (z13.i 100 7 rfl))) (show (V14.2.1 100 17) = (V12.2.1 100 17) from ((z14.i 100 17 rfl).trans (z13.i 100 17 rfl))) (show (V14.2.1 100 4) = (V12.2.1 100 4) from ((z14.i 100 4 rfl).trans (z13.i 100 4 rfl))) (show (V14.2.2.1 100 8) = (V12.2.2.1 100 8) from ((z14.a 100 8 rfl).trans (z13.a 100 8 rfl))) (show (V14.2.2.1 100 12) = (V12.2.2.1 100 12) from ((z14.a 100 12 rfl).trans (z13.a 100 12 rfl))) (show (V14.2.2.1 100 13).1 = (V12.2.2.1 100 13).1 from ((z14.n 100 13 rfl).trans (z13.n 100 13 rfl))) (show (V14.2.2.1 100 15).1 = (V12.2.2.1 100 15).1 from ((z14.n 100 15 rfl).trans (z13.n 100 15 rfl))) (show (V14.2.2.1 99 8) = (V12.2.2.1 99 8) from ((z14.a 99 8 rfl).trans (z13.a 99 8 rfl))) (show (V14.2.1 100 21) = (V12.2.1 100 21) from ((z14.i 100 21 rfl).trans (z13.i 100 21 rfl))))), (show ∀ j, (ay + l) ≤ j → j < nL → ((ud m Q14).2.2.1 129 10).2 j = nI (ls j) from by rw [d14]; exact (fun j h1 h2 => (hLV.2.2 j h1).trans ((congrArg (fun q => q.2 j) (show (V13.2.2.1 129 10) = (Vb.2.2.1 129 10) from ((z13.a 129 10 rfl).trans ((z12.a 129 10 rfl).trans (z11.a 129 10 rfl))))).trans (hTI j (by omega) h2)))), (show FLTR (ud m Q14) (lf + (ctv (tvz Y U f P od (wi w) (wa w) (wn w) s (fun i => ls (ay + i))) l)) (ay + l) ls (fun t => ¬ trs Y U f P od (wi w) (wa w) (wn w) s t = 0) from by rw [d14]; exact (FLTR.step (hFI.same (show (V13.2.2.1 129 10) = (Vb.2.2.1 129 10) from ((z13.a 129 10 rfl).trans ((z12.a 129 10 rfl).trans (z11.a 129 10 rfl))))) hLV (fun q _ => tvz_or (ls := fun i => ls (ay + i))) hlr (by omega) (fun j h1 h2 => (congrArg (fun q => q.2 j) (show (V13.2.2.1 129 10) = (Vb.2.2.1 129 10) from ((z13.a 129 10 rfl).trans ((z12.a 129 10 rfl).trans (z11.a 129 10 rfl))))).trans (hTI j h1 h2))))⟩ (by show nL - (ay + l) < nL - ay; omega))
        · -- 164: not (nI ay) < (nI nL)
          have nh10 : ¬ ay < nL := fun z => h10 (show nI ay < nI nL from (nI_ltI (by omega) (by omega)).mpr z)
          refine mw_go mu_g278 (k := 3) (f1 := (169, [(4, .inl (nI iy)), (3, .inl (nI ay)), (2, .inl (nI lf)), (0, .inr (.inr (some 129))), (1, .inl (nI w))], [], (mu_si Hsb 129 11 (nI lf)))) (C := [mu_is Hsb (some 129) 9]) rfl (show mu_is Hsb (some 129) 9 from (ub.1.1.is rfl)) ?_
          obtain ⟨u15, r15, d15⟩ : um m (mu_si Hsb 129 11 (nI lf)) ∧ ur m C Hsb (mu_si Hsb 129 11 (nI lf)) ∧ ud m (mu_si Hsb 129 11 (nI lf)) = (upI Vb 129 11 (nI lf)) := ub.sI (C := C) db rfl
          generalize (mu_si Hsb 129 11 (nI lf)) = Q15 at u15 r15 d15 ⊢
          have qf15 : uq F278 U (upI Vb 129 11 (nI lf)) := qfb.I rfl
          have ht15 : ur m C H Q15 := htb.trans r15
          refine mw_go mu_g278 (k := 1) (f1 := (172, [(1, .inl ((nI w) + 1)), (4, .inl (nI iy)), (3, .inl (nI ay)), (2, .inl (nI lf)), (0, .inr (.inr (some 129)))], [], Q15)) (C := []) rfl trivial ?_
          rw [(show ((nI w) + 1) = (nI (w + 1)) from (nI_add w 1))]
          refine mw_go mu_g278 (k := 1) (f1 := (2, [(1, .inl (nI (w + 1))), (4, .inl (nI iy)), (3, .inl (nI ay)), (2, .inl (nI lf)), (0, .inr (.inr (some 129)))], [], Q15)) (C := []) rfl trivial ?_
          exact mw_sub (by simp) (iha (w + 1, Q15) ⟨u15, ht15, (show uq F278a U (ud m Q15) from by rw [d15]; exact ((((zza.tr z7 rfl).tr z8 rfl).tr zzb rfl).I rfl)), (show (w + 1) ≤ nw from (by omega)), (show KNV m (ud m Q15) Y P f od es from by rw [d15]; exact (hKI.to (fun j hj h16 => rfl) ⟨rfl, fun i c _ => rfl⟩ (show ((upI Vb 129 11 (nI lf)).2.1 99 4) = (Vb.2.1 99 4) from rfl) (show ((upI Vb 129 11 (nI lf)).2.1 99 10) = (Vb.2.1 99 10) from rfl) (show ((upI Vb 129 11 (nI lf)).2.1 99 11) = (Vb.2.1 99 11) from rfl) (show ((upI Vb 129 11 (nI lf)).2.1 99 12) = (Vb.2.1 99 12) from rfl) (show ((upI Vb 129 11 (nI lf)).2.2.1 99 5) = (Vb.2.2.1 99 5) from rfl) (show ((upI Vb 129 11 (nI lf)).2.2.1 99 6) = (Vb.2.2.1 99 6) from rfl) (show ((upI Vb 129 11 (nI lf)).2.2.1 99 7) = (Vb.2.2.1 99 7) from rfl) (show ((upI Vb 129 11 (nI lf)).2.2.1 99 8) = (Vb.2.2.1 99 8) from rfl) (show ((upI Vb 129 11 (nI lf)).2.2.1 99 18).1 = (Vb.2.2.1 99 18).1 from rfl) (show ((upI Vb 129 11 (nI lf)).2.2.2.1 100 0) = (Vb.2.2.2.1 100 0) from rfl) (show ((upI Vb 129 11 (nI lf)).2.2.2.1 99 0) = (Vb.2.2.2.1 99 0) from rfl))), (show MCS (ud m Q15) from by rw [d15]; exact (mcs_keep hMI (by rw [(show ((upI Vb 129 11 (nI lf)).1 22) = (Vb.1 22) from rfl)]; exact hMI.1) (show ((upI Vb 129 11 (nI lf)).2.2.1 100 3).1 = (Vb.2.2.1 100 3).1 from rfl) (show ((upI Vb 129 11 (nI lf)).2.2.1 100 8).1 = (Vb.2.2.1 100 8).1 from rfl) (show ((upI Vb 129 11 (nI lf)).2.2.1 100 12).1 = (Vb.2.2.1 100 12).1 from rfl) (show ((upI Vb 129 11 (nI lf)).2.2.1 100 13).1 = (Vb.2.2.1 100 13).1 from rfl) (show ((upI Vb 129 11 (nI lf)).2.2.1 100 15).1 = (Vb.2.2.1 100 15).1 from rfl))), (show MLW (ud m Q15) Y P f od from by rw [d15]; exact (Or.inr ⟨_, _, _, hrg.2.1, hwi, (hLI.ldw hf1).keep (show ((upI Vb 129 11 (nI lf)).1 21) = (Vb.1 21) from rfl) (show ((upI Vb 129 11 (nI lf)).1 22) = (Vb.1 22) from rfl) (show ((upI Vb 129 11 (nI lf)).1 15) = (Vb.1 15) from rfl) (show ((upI Vb 129 11 (nI lf)).2.2.1 100 3) = (Vb.2.2.1 100 3) from rfl) (show ((upI Vb 129 11 (nI lf)).2.1 100 5) = (Vb.2.1 100 5) from rfl) (show ((upI Vb 129 11 (nI lf)).2.1 100 7) = (Vb.2.1 100 7) from rfl) (show ((upI Vb 129 11 (nI lf)).2.1 100 17) = (Vb.2.1 100 17) from rfl) (show ((upI Vb 129 11 (nI lf)).2.1 100 4) = (Vb.2.1 100 4) from rfl) (show ((upI Vb 129 11 (nI lf)).2.2.1 100 8) = (Vb.2.2.1 100 8) from rfl) (show ((upI Vb 129 11 (nI lf)).2.2.1 100 12).1 = (Vb.2.2.1 100 12).1 from rfl) (show ((upI Vb 129 11 (nI lf)).2.2.1 100 13).1 = (Vb.2.2.1 100 13).1 from rfl) (show ((upI Vb 129 11 (nI lf)).2.2.1 100 15).1 = (Vb.2.2.1 100 15).1 from rfl) (show ((upI Vb 129 11 (nI lf)).2.2.1 99 8) = (Vb.2.2.1 99 8) from rfl)⟩)), (show PSV (ud m Q15) P f s from by rw [d15]; exact (fun r hr => by rw [(show ((upI Vb 129 11 (nI lf)).1 22) = (Vb.1 22) from rfl), (show ((upI Vb 129 11 (nI lf)).2.2.1 99 8) = (Vb.2.2.1 99 8) from rfl)]; exact hPI r hr)), (show ∃ n2, (ud m Q15).2.1 129 11 = nI n2 ∧ LSO (ud m Q15) n2 (pd f 0 P) (fun t => Q t ∧ WTR Y U f P od wa wn wi s (w + 1) t) from by rw [d15]; exact (by obtain ⟨gg, g1, g2, g3⟩ := hFI; refine ⟨lf, rfl, gg, g1, g2, fun x => ?_⟩; rw [g3 x, show ay = nL by omega, hlm x]; exact ⟨fun y => ⟨y.1.1, y.1.2.1, (WTR.hit hw3).mp ⟨y.1.2.2, y.2⟩⟩, fun y => ⟨⟨y.1, y.2.1, ((WTR.hit hw3).mpr y.2.2).1⟩, ((WTR.hit hw3).mpr y.2.2).2⟩⟩))⟩ (by show nw - (w + 1) < nw - w; omega))
      · -- 164: not (nI iy) < (nI nL)
        have nh9 : ¬ iy < nL := fun z => h9 (show nI iy < nI nL from (nI_ltI (by omega) (by omega)).mpr z)
        refine mw_go mu_g278 (k := 3) (f1 := (169, [(4, .inl (nI iy)), (3, .inl (nI ay)), (2, .inl (nI lf)), (0, .inr (.inr (some 129))), (1, .inl (nI w))], [], (mu_si Hsb 129 11 (nI lf)))) (C := [mu_is Hsb (some 129) 9]) rfl (show mu_is Hsb (some 129) 9 from (ub.1.1.is rfl)) ?_
        obtain ⟨u16, r16, d16⟩ : um m (mu_si Hsb 129 11 (nI lf)) ∧ ur m C Hsb (mu_si Hsb 129 11 (nI lf)) ∧ ud m (mu_si Hsb 129 11 (nI lf)) = (upI Vb 129 11 (nI lf)) := ub.sI (C := C) db rfl
        generalize (mu_si Hsb 129 11 (nI lf)) = Q16 at u16 r16 d16 ⊢
        have qf16 : uq F278 U (upI Vb 129 11 (nI lf)) := qfb.I rfl
        have ht16 : ur m C H Q16 := htb.trans r16
        refine mw_go mu_g278 (k := 1) (f1 := (172, [(1, .inl ((nI w) + 1)), (4, .inl (nI iy)), (3, .inl (nI ay)), (2, .inl (nI lf)), (0, .inr (.inr (some 129)))], [], Q16)) (C := []) rfl trivial ?_
        rw [(show ((nI w) + 1) = (nI (w + 1)) from (nI_add w 1))]
        refine mw_go mu_g278 (k := 1) (f1 := (2, [(1, .inl (nI (w + 1))), (4, .inl (nI iy)), (3, .inl (nI ay)), (2, .inl (nI lf)), (0, .inr (.inr (some 129)))], [], Q16)) (C := []) rfl trivial ?_
        exact mw_sub (by simp) (iha (w + 1, Q16) ⟨u16, ht16, (show uq F278a U (ud m Q16) from by rw [d16]; exact ((((zza.tr z7 rfl).tr z8 rfl).tr zzb rfl).I rfl)), (show (w + 1) ≤ nw from (by omega)), (show KNV m (ud m Q16) Y P f od es from by rw [d16]; exact (hKI.to (fun j hj h16 => rfl) ⟨rfl, fun i c _ => rfl⟩ (show ((upI Vb 129 11 (nI lf)).2.1 99 4) = (Vb.2.1 99 4) from rfl) (show ((upI Vb 129 11 (nI lf)).2.1 99 10) = (Vb.2.1 99 10) from rfl) (show ((upI Vb 129 11 (nI lf)).2.1 99 11) = (Vb.2.1 99 11) from rfl) (show ((upI Vb 129 11 (nI lf)).2.1 99 12) = (Vb.2.1 99 12) from rfl) (show ((upI Vb 129 11 (nI lf)).2.2.1 99 5) = (Vb.2.2.1 99 5) from rfl) (show ((upI Vb 129 11 (nI lf)).2.2.1 99 6) = (Vb.2.2.1 99 6) from rfl) (show ((upI Vb 129 11 (nI lf)).2.2.1 99 7) = (Vb.2.2.1 99 7) from rfl) (show ((upI Vb 129 11 (nI lf)).2.2.1 99 8) = (Vb.2.2.1 99 8) from rfl) (show ((upI Vb 129 11 (nI lf)).2.2.1 99 18).1 = (Vb.2.2.1 99 18).1 from rfl) (show ((upI Vb 129 11 (nI lf)).2.2.2.1 100 0) = (Vb.2.2.2.1 100 0) from rfl) (show ((upI Vb 129 11 (nI lf)).2.2.2.1 99 0) = (Vb.2.2.2.1 99 0) from rfl))), (show MCS (ud m Q16) from by rw [d16]; exact (mcs_keep hMI (by rw [(show ((upI Vb 129 11 (nI lf)).1 22) = (Vb.1 22) from rfl)]; exact hMI.1) (show ((upI Vb 129 11 (nI lf)).2.2.1 100 3).1 = (Vb.2.2.1 100 3).1 from rfl) (show ((upI Vb 129 11 (nI lf)).2.2.1 100 8).1 = (Vb.2.2.1 100 8).1 from rfl) (show ((upI Vb 129 11 (nI lf)).2.2.1 100 12).1 = (Vb.2.2.1 100 12).1 from rfl) (show ((upI Vb 129 11 (nI lf)).2.2.1 100 13).1 = (Vb.2.2.1 100 13).1 from rfl) (show ((upI Vb 129 11 (nI lf)).2.2.1 100 15).1 = (Vb.2.2.1 100 15).1 from rfl))), (show MLW (ud m Q16) Y P f od from by rw [d16]; exact (Or.inr ⟨_, _, _, hrg.2.1, hwi, (hLI.ldw hf1).keep (show ((upI Vb 129 11 (nI lf)).1 21) = (Vb.1 21) from rfl) (show ((upI Vb 129 11 (nI lf)).1 22) = (Vb.1 22) from rfl) (show ((upI Vb 129 11 (nI lf)).1 15) = (Vb.1 15) from rfl) (show ((upI Vb 129 11 (nI lf)).2.2.1 100 3) = (Vb.2.2.1 100 3) from rfl) (show ((upI Vb 129 11 (nI lf)).2.1 100 5) = (Vb.2.1 100 5) from rfl) (show ((upI Vb 129 11 (nI lf)).2.1 100 7) = (Vb.2.1 100 7) from rfl) (show ((upI Vb 129 11 (nI lf)).2.1 100 17) = (Vb.2.1 100 17) from rfl) (show ((upI Vb 129 11 (nI lf)).2.1 100 4) = (Vb.2.1 100 4) from rfl) (show ((upI Vb 129 11 (nI lf)).2.2.1 100 8) = (Vb.2.2.1 100 8) from rfl) (show ((upI Vb 129 11 (nI lf)).2.2.1 100 12).1 = (Vb.2.2.1 100 12).1 from rfl) (show ((upI Vb 129 11 (nI lf)).2.2.1 100 13).1 = (Vb.2.2.1 100 13).1 from rfl) (show ((upI Vb 129 11 (nI lf)).2.2.1 100 15).1 = (Vb.2.2.1 100 15).1 from rfl) (show ((upI Vb 129 11 (nI lf)).2.2.1 99 8) = (Vb.2.2.1 99 8) from rfl)⟩)), (show PSV (ud m Q16) P f s from by rw [d16]; exact (fun r hr => by rw [(show ((upI Vb 129 11 (nI lf)).1 22) = (Vb.1 22) from rfl), (show ((upI Vb 129 11 (nI lf)).2.2.1 99 8) = (Vb.2.2.1 99 8) from rfl)]; exact hPI r hr)), (show ∃ n2, (ud m Q16).2.1 129 11 = nI n2 ∧ LSO (ud m Q16) n2 (pd f 0 P) (fun t => Q t ∧ WTR Y U f P od wa wn wi s (w + 1) t) from by rw [d16]; exact (by obtain ⟨gg, g1, g2, g3⟩ := hFI; refine ⟨lf, rfl, gg, g1, g2, fun x => ?_⟩; rw [g3 x, show ay = nL by omega, hlm x]; exact ⟨fun y => ⟨y.1.1, y.1.2.1, (WTR.hit hw3).mp ⟨y.1.2.2, y.2⟩⟩, fun y => ⟨⟨y.1, y.2.1, ((WTR.hit hw3).mpr y.2.2).1⟩, ((WTR.hit hw3).mpr y.2.2).2⟩⟩))⟩ (by show nw - (w + 1) < nw - w; omega))
    · -- C
      refine mw_go mu_g278 (k := 2) (f1 := (17, [(1, .inl (nI w)), (0, .inr (.inr (some 129)))], [.inr (.inr (mu_r Hsa 129 3))], Hsa)) (C := [mu_is Hsa (some 129) 9]) rfl (show mu_is Hsa (some 129) 9 from (ua.1.1.is rfl)) ?_
      rw [(ua.1.1.r (p := 129) (j := 3) (q := 132) rfl)]
      refine mw_go mu_g278 (k := 2) (f1 := (19, [(1, .inl (nI w)), (0, .inr (.inr (some 129)))], [.inl (3 : Int32), .inl (nI w), .inr (.inr (some 132))], Hsa)) (C := []) rfl trivial ?_
      refine mw_cIe (fun _ => rfl) (show mu_is Hsa (some 132) 10 from (ua.1.1.is rfl)) (ua.getr (d := (d + 5)) da (j := 25) (by decide) rfl (nI w) (c := 3) (by decide)) ?_
      rw [show (tget (Va.1 25) (nI w) 3) = (nI pl) from ((congrArg (fun z => tget z (nI w) 3) (show Va.1 25 = (U.1 25) from (zza.t 25 rfl))).trans (tget_nI (by omega))).trans hw3]
      refine mw_if (P := (nI pl) < 0) (a := 28) (b := 25) (fun _ => rfl) trivial (fun h18 => absurd h18 (nI_pos (by omega))) (fun h18 => ?_)
      refine mw_go mu_g278 (k := 2) (f1 := (172, [(1, .inl ((nI w) + 1)), (0, .inr (.inr (some 129)))], [], Hsa)) (C := []) rfl trivial ?_
      rw [(show ((nI w) + 1) = (nI (w + 1)) from (nI_add w 1))]
      refine mw_go mu_g278 (k := 1) (f1 := (2, [(1, .inl (nI (w + 1))), (0, .inr (.inr (some 129)))], [], Hsa)) (C := []) rfl trivial ?_
      exact mw_sub (by simp) (iha (w + 1, Hsa) ⟨ua, hta, (show uq F278a U (ud m Hsa) from by rw [da]; exact zza), (show (w + 1) ≤ nw from (by omega)), (show KNV m (ud m Hsa) Y P f od es from by rw [da]; exact hKN), (show MCS (ud m Hsa) from by rw [da]; exact hMC), (show MLW (ud m Hsa) Y P f od from by rw [da]; exact hLD), (show PSV (ud m Hsa) P f s from by rw [da]; exact hPS), (show ∃ n2, (ud m Hsa).2.1 129 11 = nI n2 ∧ LSO (ud m Hsa) n2 (pd f 0 P) (fun t => Q t ∧ WTR Y U f P od wa wn wi s (w + 1) t) from by rw [da]; exact ⟨nL, hnL, LSO.congr hLO (fun x _ => and_congr Iff.rfl (WTR.skip hw3 (by omega)))⟩)⟩ (by show nw - (w + 1) < nw - w; omega))
  · -- 175: not (nI w) < (nI nw)
    have nh1 : ¬ w < nw := fun z => h1 (show nI w < nI nw from (nI_ltI (by omega) (by omega)).mpr z)
    obtain ⟨n2, hn2, hLO⟩ := hLS
    exact mw_of (fun _ => mu_ret rfl trivial ⟨Hsa, rfl, ua, hta, (by rw [da]; exact qfa), (by rw [da]; exact ⟨hKN, hMC, hLD, hPS, n2, hn2, by have y := hLO; rw [show w = nw by omega] at y; exact y⟩)⟩)
end SiftW
