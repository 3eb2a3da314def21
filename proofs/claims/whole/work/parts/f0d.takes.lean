/-! THE MACHINE takes a list, over LDW -/
/-- a list may be taken: what is posed lies in its slots; what NAMES stand for too, once it has been reckoned -/
def LSKw (U : Ud) (Y : Ts) (P : Nat) (f od : Nat → Nat) (a0 N0 i0 s rem : Nat) : Prop := ∃ S0 K dp W mk M rk wt, LR U Y a0 N0 i0 od S0 K M rk ∧ LZx U S0 K (sfz Y a0 N0) dp W mk ∧ LC (U.1 15) Y P (NXW Y (U.1 15) P a0 N0 i0) a0 N0 i0 (sfz Y a0 N0) dp mk M ∧ sds U W P S0 f mk (bcn mk) wt ∧ (∀ k, 14 ≤ k → k < 28 → ¬ mb mk k = 0 → wt k = pd f (k % 14 + 1) (P - 1 - k % 14)) ∧ (∀ q j, q < 14 → ¬ mb mk q = 0 → j < W → cvl U W (bcn mk q) j = (U.2.2.1 99 8).2 (sm f 0 q + dgzU f P s q)) ∧ (U.2.1 100 21 = 1 ∨ (U.2.1 100 21 = 0 ∧ ∀ q, q < (Y 13).1 → M (od q) → ∀ j, j < W → j < rem → cvl U W (S0 + rk q) j = evz Y od (vst U f P s) (od q)))
/-- a part of it is taken -/
def RDTw (U : Ud) (Y : Ts) (P : Nat) (f od : Nat → Nat) (a0 N0 i0 s n l : Nat) (ls : Nat → Nat) : Prop := ∃ S0 K dp W mk M rk wt, LR U Y a0 N0 i0 od S0 K M rk ∧ LZx U S0 K (sfz Y a0 N0) dp W mk ∧ LC (U.1 15) Y P (NXW Y (U.1 15) P a0 N0 i0) a0 N0 i0 (sfz Y a0 N0) dp mk M ∧ sds U W P S0 f mk (bcn mk) wt ∧ (∀ k, 14 ≤ k → k < 28 → ¬ mb mk k = 0 → wt k = pd f (k % 14 + 1) (P - 1 - k % 14)) ∧ (∀ q j, q < 14 → ¬ mb mk q = 0 → j < W → cvl U W (bcn mk q) j = (U.2.2.1 99 8).2 (sm f 0 q + dgzU f P s q)) ∧ (U.2.1 100 21 = 1 ∨ (U.2.1 100 21 = 0 ∧ ∀ q, q < (Y 13).1 → M (od q) → ∀ j, j < l → cvl U W (S0 + rk q) j = evz Y od (vst U f P s) (od q))) ∧ (U.2.1 100 18 = nI l ∧ 1 ≤ l ∧ l = min W n) ∧ SV U Y W l P mk (fun _ => vst U f P s) (fun j => vst U f P (ls j))
section TakeListW
variable {H : mu_H} {U V : Ud} {m d P a0 N0 i0 s l n k st rem : Nat} {C : Nat → Nat} {Y : Ts} {f od ls : Nat → Nat} {es rs : Nat → Int32} {al : Int32} {kd : Bool}
theorem LSKw.ldw (h : LSKw U Y P f od a0 N0 i0 s rem) (hf : ∀ k, 1 ≤ f k) : LDW U Y P f od a0 N0 i0 := by
  obtain ⟨S0, K, dp, W, mk, M, rk, wt, l1, l2, l3, l4, -⟩ := h
  exact ⟨S0, K, dp, W, mk, M, rk, l1, l2, l3, sds_x l4 hf⟩
theorem LSKw.keep (h : LSKw U Y P f od a0 N0 i0 s rem) (h21 : V.1 21 = U.1 21) (h22 : V.1 22 = U.1 22) (h15 : V.1 15 = U.1 15) (a3 : V.2.2.1 100 3 = U.2.2.1 100 3) (i5 : V.2.1 100 5 = U.2.1 100 5) (i7 : V.2.1 100 7 = U.2.1 100 7) (i17 : V.2.1 100 17 = U.2.1 100 17) (i4 : V.2.1 100 4 = U.2.1 100 4) (a8 : V.2.2.1 100 8 = U.2.2.1 100 8) (a12 : V.2.2.1 100 12 = U.2.2.1 100 12) (n13 : (V.2.2.1 100 13).1 = (U.2.2.1 100 13).1) (n15 : (V.2.2.1 100 15).1 = (U.2.2.1 100 15).1) (a98 : V.2.2.1 99 8 = U.2.2.1 99 8) (i21 : V.2.1 100 21 = U.2.1 100 21) : LSKw V Y P f od a0 N0 i0 s rem := by
  obtain ⟨S0, K, dp, W, mk, M, rk, wt, l1, l2, l3, l4, l5, l6, l7⟩ := h
  refine ⟨S0, K, dp, W, mk, M, rk, wt, LR_keep l1 h21 a3, LZx_keep l2 i5 i7 i17 i4 (by rw [a8]) (by rw [a12]) n13 n15, by rw [h15]; exact l3, sds_same l4 h22 a98 a8, l5, fun q j h1 h2 h3 => by rw [cvl_same a8 a12, a98]; exact l6 q j h1 h2 h3, ?_⟩
  rw [i21, vst_same h15 a98]
  rcases l7 with y | ⟨y, y2⟩
  · exact Or.inl y
  · exact Or.inr ⟨y, fun q h1 h2 j h3 h4 => by rw [cvl_same a8 a12]; exact y2 q h1 h2 j h3 h4⟩
theorem mc_begin2w (h : um m H) (e : ud m H = U) (hK : KNV m U Y P f od es) (hM : MCS U) (hl : LDW U Y P f od a0 N0 i0) (hp : PSV U P f s) : mu_TV (mu_D (d + 4)) 230 [.inr (.inr (some 100))] H (fun H1 => um m H1 ∧ ur m C H H1 ∧ uq F230 U (ud m H1) ∧ KNV m (ud m H1) Y P f od es ∧ MCS (ud m H1) ∧ PSV (ud m H1) P f s ∧ ∀ rem, LSKw (ud m H1) Y P f od a0 N0 i0 s rem) := by
  obtain ⟨S0, K, dp, W, mk, M, rk, l1, l2, l3, l4⟩ := hl
  obtain ⟨⟨z5, z7, z17, z4⟩, ⟨zW1, zW2⟩, ⟨z8, zcl⟩, ⟨z12, z12b⟩, ⟨z13, z13b⟩, ⟨z15, z15b⟩, zall, zdp, zS⟩ := id l2
  have hP := hK.P14
  have hfb : ∀ k, k < P → f k ≤ 16384 := fun k hk => Nat.le_trans (fk_pd hk hP hK.2.1) hK.1.2.2.2.1.2.1
  refine (mc_beginList (C := C) (d := d) (A := S0 + K + sfz Y a0 N0 + dp) h e hK.1 z17 zW1 zW2 z8 (by rcases zcl with z | z | z <;> omega) z12 (by omega) z4 l4 (by omega)).imp (fun H1 q => ?_)
  obtain ⟨q1, q2, q3, q4, q5⟩ := q
  obtain ⟨wt, w1, w2, w3⟩ := bgi_sds hK.1 hfb q5
  obtain ⟨b1, b2, b3, b4, b5⟩ := q5
  have e98 : (ud m H1).2.2.1 99 8 = U.2.2.1 99 8 := q3.a 99 8 rfl
  have e15 : (ud m H1).1 15 = U.1 15 := q3.t 15 rfl
  refine ⟨q1, q2, q3, hK.q q3 rfl, mcs_keep hM w1.1 (q3.n 100 3 rfl) (q3.n 100 8 rfl) (q3.n 100 12 rfl) (q3.n 100 13 rfl) (q3.n 100 15 rfl), fun r hr => by rw [b2 r 2 (by decide) (by decide), e98]; exact hp r hr, fun rem => ⟨S0, K, dp, W, mk, M, rk, wt, LR_keep l1 (q3.t 21 rfl) (q3.a 100 3 rfl), LZx_keep l2 (q3.i 100 5 rfl) (q3.i 100 7 rfl) (q3.i 100 17 rfl) (q3.i 100 4 rfl) (q3.n 100 8 rfl) (q3.n 100 12 rfl) (q3.n 100 13 rfl) (q3.n 100 15 rfl), by rw [e15]; exact l3, w1, fun k k1 k2 k3 => w3 k k1 k2 (l3.2.2 k (by omega) k3).2.1, fun q j h1 h2 h3 => ?_, Or.inl q4⟩⟩
  rw [b4 q j (by omega) h1 h2 h3, e98]
  have hq := (l3.2.2 q (by omega) h2).2.1
  rw [Nat.mod_eq_of_lt h1] at hq
  exact hp q hq
theorem mc_take2w (h : um m H) (e : ud m H = U) (hK : KNV m U Y P f od es) (hM : MCS U) (hl : LSKw U Y P f od a0 N0 i0 s rem) (hp : PSV U P f s) (hls : ∀ i, i < n → (U.2.2.1 129 10).2 (st + i) = nI (ls i) ∧ ls i < 16384) (hri : ∀ i j, i < j → j < n → ls i < ls j) (hn1 : 1 ≤ n) (hnr : n ≤ rem) (hst : st + n ≤ (U.2.2.1 129 10).1) (hln : (U.2.2.1 129 10).1 ≤ 16777216) : mu_TI (mu_D (d + 5)) 231 [.inr (.inr (some 100)), .inr (.inr (U.2.2.2.1 129 10)), .inl (nI st), .inl (nI n)] H (fun x H1 => ∃ l, (x = nI l ∧ 1 ≤ l ∧ l ≤ n ∧ l ≤ 1024) ∧ um m H1 ∧ ur m C H H1 ∧ uq F231 U (ud m H1) ∧ KNV m (ud m H1) Y P f od es ∧ MCS (ud m H1) ∧ PSV (ud m H1) P f s ∧ RDTw (ud m H1) Y P f od a0 N0 i0 s n l ls) := by
  obtain ⟨S0, K, dp, W, mk, M, rk, wt, l1, l2, l3, l4, l5, l6, l7⟩ := hl
  obtain ⟨⟨z5, z7, z17, z4⟩, ⟨zW1, zW2⟩, ⟨z8, zcl⟩, ⟨z12, z12b⟩, ⟨z13, z13b⟩, ⟨z15, z15b⟩, zall, zdp, zS⟩ := id l2
  have hP := hK.P14
  obtain ⟨l, hl⟩ : ∃ l, l = min W n := ⟨_, rfl⟩
  refine (mc_takeList (C := C) (d := d) (A := S0 + K + sfz Y a0 N0 + dp) h e hK.1 z17 zW1 zW2 z8 (by rcases zcl with z | z | z <;> omega) z12 (by omega) z4 l4 (by omega) hls hri hn1 hst hln hl l5).imp (fun x H1 q => ?_)
  obtain ⟨q1, q2, q3, q4, q5, t1, t2, t3, t4⟩ := q
  have e98 : (ud m H1).2.2.1 99 8 = U.2.2.1 99 8 := q4.a 99 8 rfl
  have e15 : (ud m H1).1 15 = U.1 15 := q4.t 15 rfl
  have e21 : (ud m H1).2.1 100 21 = U.2.1 100 21 := q4.i 100 21 rfl
  have now : ∀ q j, q < 14 → ¬ mb mk q = 0 → j < W → cvl (ud m H1) W (bcn mk q) j = (U.2.2.1 99 8).2 (sm f 0 q + dgzU f P s q) := fun q j h1 h2 h3 => by
    rw [t4 (bcn mk q) j (fun q' y1 y2 y3 y4 => by have := l4.2.2.2 q q' (by omega) y2 h2 y3 y4; omega) h3]
    exact l6 q j h1 h2 h3
  refine ⟨l, ⟨q1, by omega, by omega, by omega⟩, q2, q3, q4, hK.q q4 rfl, mcs_keep hM t1.1 (q4.n 100 3 rfl) (q4.n 100 8 rfl) (q4.n 100 12 rfl) (q4.n 100 13 rfl) (q4.n 100 15 rfl), fun r hr => by rw [t2 r 2 (by decide), e98]; exact hp r hr, S0, K, dp, W, mk, M, rk, wt, LR_keep l1 (q4.t 21 rfl) (q4.a 100 3 rfl), LZx_keep l2 (q4.i 100 5 rfl) (q4.i 100 7 rfl) (q4.i 100 17 rfl) (q4.i 100 4 rfl) (q4.n 100 8 rfl) (q4.n 100 12 rfl) (q4.n 100 13 rfl) (q4.n 100 15 rfl), by rw [e15]; exact l3, t1, l5, fun q j h1 h2 h3 => by rw [e98]; exact now q j h1 h2 h3, ?_, ⟨q5, by omega, hl⟩, ?_⟩
  · rw [e21, vst_same e15 e98]
    rcases l7 with y | ⟨y, y2⟩
    · exact Or.inl y
    · refine Or.inr ⟨y, fun q h1 h2 j h3 => ?_⟩
      rw [t4 (S0 + rk q) j (fun q' y1 y2 y3 y4 => by have := (l4.2.1 q' y2 y3).2.2.1; omega) (by omega)]
      exact y2 q h1 h2 j (by omega) (by omega)
  · intro w hw j hj
    rw [e15, vst_same e15 e98]
    have e2 := vst_same (f := f) (P := P) (s := ls j) e15 e98
    refine ⟨fun z => ⟨vst_m1 z, by show vst (ud m H1) f P (ls j) w = _; rw [e2]; exact vst_m1 z⟩, fun pl hpl hpv => ⟨fun hb => ?_, fun hb => ?_⟩⟩
    · rw [now pl j (by omega) hb (by omega)]
      exact (vst_pl hpv (by omega)).symm
    · show _ = vst (ud m H1) f P (ls j) w
      rw [t3 (pl + 14) j (by omega) (by omega) (by omega) hb hj, l5 (pl + 14) (by omega) (by omega) hb, e2, vst_pl hpv (by omega), Nat.add_mod_right, Nat.mod_eq_of_lt (show pl < 14 by omega)]
      rfl
theorem mc_run3w (h : um m H) (e : ud m H = U) (hK : KNV m U Y P f od es) (hM : MCS U) (hR : RDTw U Y P f od a0 N0 i0 s n l ls) (hp : PSV U P f s) (hi0 : i0 < (Y 11).1) (hr0 : rg Y (im Y i0) kd a0 (a0 + N0)) (hs0 : SRT Y es i0 al a0 rs N0) (hal : ¬ al = 2) : mu_TV (mu_D (d + 6)) 208 [.inr (.inr (some 100))] H (fun H1 => um m H1 ∧ ur m C H H1 ∧ uq F208 U (ud m H1) ∧ KNV m (ud m H1) Y P f od es ∧ MCS (ud m H1) ∧ PSV (ud m H1) P f s ∧ LSKw (ud m H1) Y P f od a0 N0 i0 s (n - l) ∧ RSL (ud m H1) Y a0 N0 l (fun j => lvl Y (vst U f P s) (vst U f P (ls j)) (evz Y od (vst U f P s)) i0)) := by
  obtain ⟨S0, K, dp, W, mk, M, rk, wt, l1, l2, l3, l4, l5, l6, l7, ⟨l8, l9, l10⟩, l11⟩ := hR
  have hP := hK.P14
  have hsl : SL (U.1 22) S0 mk := fun k hk hb => ⟨(l4.2.1 k hk hb).2.1, (l4.2.1 k hk hb).2.2.1⟩
  have hv : ∀ t, VLS Y (vst U f P t) := fun t => VLS_vst hK.2.2.2.2.2.1 hP hK.2.1
  have fin : ∀ H1, (um m H1 ∧ ur m C H H1 ∧ uq F208 U (ud m H1) ∧ (ud m H1).2.1 100 21 = 0 ∧ (∃ V0 it, ri V0 (ud m H1) Y (S0 + K + sfz Y a0 N0) (sfz Y a0 N0) (S0 + K + sfz Y a0 N0 + dp) W l a0 N0 (fun j => lvl Y (vst U f P s) (vst U f P (ls j)) (evz Y od (vst U f P s)) i0) it) ∧ (∀ s j, s < S0 → j < l → cvl (ud m H1) W s j = cvl U W s j) ∧ (∀ q, q < (Y 13).1 → M (od q) → ∀ j, j < l → cvl (ud m H1) W (S0 + rk q) j = evz Y od (vst U f P s) (od q)) ∧ ∀ s k, s < S0 → k < W → ckp (ud m H1) U W s k) → (um m H1 ∧ ur m C H H1 ∧ uq F208 U (ud m H1) ∧ KNV m (ud m H1) Y P f od es ∧ MCS (ud m H1) ∧ PSV (ud m H1) P f s ∧ LSKw (ud m H1) Y P f od a0 N0 i0 s (n - l) ∧ RSL (ud m H1) Y a0 N0 l (fun j => lvl Y (vst U f P s) (vst U f P (ls j)) (evz Y od (vst U f P s)) i0)) := by
    rintro H1 ⟨q1, q2, q3, q4, ⟨V0, it, q5⟩, q6, q7, q8⟩
    have l2' := LZx_keep l2 (q3.i 100 5 rfl) (q3.i 100 7 rfl) (q3.i 100 17 rfl) (q3.i 100 4 rfl) (q3.n 100 8 rfl) (q3.n 100 12 rfl) (q3.n 100 13 rfl) (q3.n 100 15 rfl)
    have hsd : sds (ud m H1) W P S0 f mk (bcn mk) wt := sds_ckp l4 (q3.t 22 rfl) (q3.a 99 8 rfl) q8
    have e98 : (ud m H1).2.2.1 99 8 = U.2.2.1 99 8 := q3.a 99 8 rfl
    have e15 : (ud m H1).1 15 = U.1 15 := q3.t 15 rfl
    obtain ⟨⟨z5, z7, z17, z4⟩, ⟨zW1, zW2⟩, ⟨z8, zcl⟩, ⟨z12, z12b⟩, ⟨z13, z13b⟩, ⟨z15, z15b⟩, zall, zdp, zS⟩ := id l2'
    refine ⟨q1, q2, q3, hK.q q3 rfl, mcs_keep hM hsd.1 (q3.n 100 3 rfl) (q3.n 100 8 rfl) (q3.n 100 12 rfl) (q3.n 100 13 rfl) (q3.n 100 15 rfl), fun r hr => by rw [q3.t 22 rfl, e98]; exact hp r hr, ⟨S0, K, dp, W, mk, M, rk, wt, LR_keep l1 (q3.t 21 rfl) (q3.a 100 3 rfl), l2', by rw [e15]; exact l3, hsd, l5, fun q j h1 h2 h3 => ?_, ?_⟩, V0, S0 + K + sfz Y a0 N0, S0 + K + sfz Y a0 N0 + dp, W, it, q5, ⟨z5, z7⟩, ⟨by omega, by omega, zall⟩, z15, z15b⟩
    · rw [e98, (q8 (bcn mk q) j (l4.2.1 q (by omega) h2).2.2.1 h3).1]
      exact l6 q j h1 h2 h3
    · rw [vst_same e15 e98]
      exact Or.inr ⟨q4, fun q h1 h2 j h3 h4 => q7 q h1 h2 j (by omega)⟩
  rcases l7 with y | ⟨y, y2⟩
  · exact (mc_runS (C := C) (d := d) h e hK.1.2.2.2.2.1 hK.1.2.2.2.2.2 hK.2.2.1 hK.2.2.2.1.1 hK.2.2.2.2.1 hK.2.2.2.1.2.1 hK.2.2.2.1.2.2.1 l1 l2 l3 hP hi0 hr0 hs0 hal (fun _ _ => hv _) (fun _ _ => hv _) hsl l11 l8 l9 (by omega) y).imp fin
  · exact (mc_runF (C := C) (d := d) h e hK.1.2.2.2.2.1 hK.1.2.2.2.2.2 hK.2.2.1 hK.2.2.2.1.1 hK.2.2.2.2.1 hK.2.2.2.1.2.1 hK.2.2.2.1.2.2.1 l1 l2 l3 hP hi0 hr0 hs0 hal (fun _ _ => hv _) (fun _ _ => hv _) hsl l11 l8 l9 (by omega) y y2).imp fin
end TakeListW
