/-! THE MACHINE over the valuations of some of next's VARIABLES, while a STATE is posed -/
/-- at the begin of a turn -/
def TRP (U : Ud) (Y : Ts) (P : Nat) (f od : Nat → Nat) (a0 N0 i0 s : Nat) (mv : Int32) (T0 W i : Nat) : Prop := ∃ S0 K dp M rk mk, LR U Y a0 N0 i0 od S0 K M rk ∧ LZx U S0 K (sfz Y a0 N0) dp W mk ∧ LC (U.1 15) Y P (NXW Y (U.1 15) P a0 N0 i0) a0 N0 i0 (sfz Y a0 N0) dp mk M ∧ sds U W P S0 f mk (bcn mk) (wqz mv f) ∧ U.2.1 100 20 = nI T0 ∧ (PSV U P f s ∧ (∀ k, k < 14 → mb mv k = 0) ∧ ∀ k, 14 ≤ k → k < 28 → ¬ mb mk k = 0 → ¬ mb mv k = 0) ∧ (i * W < T0 → U.2.1 100 19 = nI (i * W) ∧ U.2.1 100 18 = nI (min W (T0 - i * W)) ∧ U.2.1 100 21 = 1 ∧ SV U Y W (min W (T0 - i * W)) P mk (fun _ => vst U f P s) (fun j => vlz U f mv 14 (i * W + j)))
/-- behind its run -/
def TRQ (U : Ud) (Y : Ts) (P : Nat) (f od : Nat → Nat) (a0 N0 i0 s : Nat) (mv : Int32) (T0 W i : Nat) : Prop := ∃ S0 K dp M rk mk, LR U Y a0 N0 i0 od S0 K M rk ∧ LZx U S0 K (sfz Y a0 N0) dp W mk ∧ LC (U.1 15) Y P (NXW Y (U.1 15) P a0 N0 i0) a0 N0 i0 (sfz Y a0 N0) dp mk M ∧ sds U W P S0 f mk (bcn mk) (wqz mv f) ∧ U.2.1 100 20 = nI T0 ∧ (PSV U P f s ∧ (∀ k, k < 14 → mb mv k = 0) ∧ ∀ k, 14 ≤ k → k < 28 → ¬ mb mk k = 0 → ¬ mb mv k = 0) ∧ U.2.1 100 19 = nI (i * W) ∧ U.2.1 100 18 = nI (min W (T0 - i * W))
section TurnsPosed
variable {H : mu_H} {U V Ub : Ud} {m d P a0 N0 i0 l lane T0 W i sh c K s S0 at0 : Nat} {C : Nat → Nat} {Y : Ts} {f od : Nat → Nat} {es rs : Nat → Int32} {al mk mv : Int32} {lv : Nat → Nat → Int32} {cv : Nat → Int32}
variable {Lk : List Bool}
theorem PSV_same (h : PSV U P f s) (h22 : ∀ r, (V.1 22).2 r 2 = (U.1 22).2 r 2) (h8 : V.2.2.1 99 8 = U.2.2.1 99 8) : PSV V P f s := fun r hr => by rw [h22 r, h8]; exact h r hr
theorem sv_sdiP (h : sdi Ub V W l P S0 f mk (bcn mk) (wqz mv f) at0 (fun q => q < 28)) (h15 : V.1 15 = U.1 15) (h98 : Ub.2.2.1 99 8 = U.2.2.1 99 8) (hnow : ∀ k, k < 14 → mb mv k = 0) (hsub : ∀ k, 14 ≤ k → k < 28 → ¬ mb mk k = 0 → ¬ mb mv k = 0) (hc2 : ∀ r, r < P → (Ub.1 22).2 r 2 = (U.2.2.1 99 8).2 (sm f 0 r + dgzU f P s r)) (hf : ∀ k, 1 ≤ f k) (hP : P ≤ 14) : SV V Y W l P mk (fun _ => vst U f P s) (fun j => vlz U f mv 14 (at0 + j)) := by
  intro w hw j hj
  rw [h15]
  refine ⟨fun e => ⟨vst_m1 e, ?_⟩, fun pl hpl e => ⟨fun hb => ?_, fun hb => ?_⟩⟩
  · show vlz U f mv 14 (at0 + j) w = _
    unfold vlz
    rw [if_pos e]
  · have z := h.2.2.1 pl j (by omega) hb (by omega) hj
    rw [z]
    unfold sdv
    rw [if_pos (show wqz mv f pl = 0 from if_pos (hnow pl (by omega))), hc2 pl hpl]
    exact (vst_pl e (by omega)).symm
  · have z := h.2.2.1 (pl + 14) j (by omega) hb (by omega) hj
    have nm : ¬ (U.1 15).2 w 2 = -1 := by rw [e]; exact nI_neg1 (by omega)
    have wq : ¬ wqz mv f (pl + 14) = 0 := fun y => by
      unfold wqz at y
      rw [if_neg (hsub (pl + 14) (by omega) (by omega) hb)] at y
      have := tqz_1 (mv := mv) (n := 27 - (pl + 14)) hf
      omega
    rw [z]
    show _ = vlz U f mv 14 (at0 + j) w
    unfold sdv vlz
    rw [if_neg wq, if_neg nm, e, nI_clamp (by omega), h98, show (pl + 14) % 14 = pl by omega]
theorem SV_vlp (h : SV V Y W l P mk (fun _ => vst U f P s) (fun j => vlz U f mv 14 (c + j))) (h15 : V.1 15 = U.1 15) (h8 : V.2.2.1 99 8 = U.2.2.1 99 8) : SV V Y W l P mk (fun _ => vst V f P s) (fun j => vlz V f mv 14 (c + j)) := by
  have e1 : (fun _ : Nat => vst V f P s) = (fun _ : Nat => vst U f P s) := funext (fun j => vst_same h15 h8)
  have e2 : (fun j => vlz V f mv 14 (c + j)) = (fun j => vlz U f mv 14 (c + j)) := funext (fun j => vlz_same h15 h8)
  rw [e1, e2]
  exact h
theorem TRQ.keep (h : TRQ U Y P f od a0 N0 i0 s mv T0 W i) (h21 : V.1 21 = U.1 21) (h22 : V.1 22 = U.1 22) (h15 : V.1 15 = U.1 15) (a3 : V.2.2.1 100 3 = U.2.2.1 100 3) (i5 : V.2.1 100 5 = U.2.1 100 5) (i7 : V.2.1 100 7 = U.2.1 100 7) (i17 : V.2.1 100 17 = U.2.1 100 17) (i4 : V.2.1 100 4 = U.2.1 100 4) (i18 : V.2.1 100 18 = U.2.1 100 18) (i19 : V.2.1 100 19 = U.2.1 100 19) (i20 : V.2.1 100 20 = U.2.1 100 20) (a8 : V.2.2.1 100 8 = U.2.2.1 100 8) (n12 : (V.2.2.1 100 12).1 = (U.2.2.1 100 12).1) (n13 : (V.2.2.1 100 13).1 = (U.2.2.1 100 13).1) (n15 : (V.2.2.1 100 15).1 = (U.2.2.1 100 15).1) (a98 : V.2.2.1 99 8 = U.2.2.1 99 8) : TRQ V Y P f od a0 N0 i0 s mv T0 W i := by
  obtain ⟨S0, K, dp, M, rk, mk, l1, l2, l3, l4, l5, l8, l6, l7⟩ := h
  exact ⟨S0, K, dp, M, rk, mk, LR_keep l1 h21 a3, LZx_keep l2 i5 i7 i17 i4 (by rw [a8]) n12 n13 n15, by rw [h15]; exact l3, sds_same l4 h22 a98 a8, i20.trans l5, ⟨PSV_same l8.1 (fun r => by rw [h22]) a98, l8.2⟩, i19.trans l6, i18.trans l7⟩
theorem TRP.ldw (h : TRP U Y P f od a0 N0 i0 s mv T0 W i) (hf : ∀ k, 1 ≤ f k) : LDW U Y P f od a0 N0 i0 := by
  obtain ⟨S0, K, dp, M, rk, mk, l1, l2, l3, l4, l5⟩ := h
  exact ⟨S0, K, dp, W, mk, M, rk, l1, l2, l3, sds_x l4 hf⟩
theorem TRQ.ldw (h : TRQ U Y P f od a0 N0 i0 s mv T0 W i) (hf : ∀ k, 1 ≤ f k) : LDW U Y P f od a0 N0 i0 := by
  obtain ⟨S0, K, dp, M, rk, mk, l1, l2, l3, l4, l5⟩ := h
  exact ⟨S0, K, dp, W, mk, M, rk, l1, l2, l3, sds_x l4 hf⟩
theorem TRQ.i18 (h : TRQ U Y P f od a0 N0 i0 s mv T0 W i) : U.2.1 100 18 = nI (min W (T0 - i * W)) := by
  obtain ⟨S0, K, dp, M, rk, mk, l1, l2, l3, l4, l5, l8, l6, l7⟩ := h
  exact l7
theorem TRQ.i19 (h : TRQ U Y P f od a0 N0 i0 s mv T0 W i) : U.2.1 100 19 = nI (i * W) := by
  obtain ⟨S0, K, dp, M, rk, mk, l1, l2, l3, l4, l5, l8, l6, l7⟩ := h
  exact l6
theorem TRP.i11 {v : Int32} (h : TRP U Y P f od a0 N0 i0 s mv T0 W i) : TRP (upI U 129 11 v) Y P f od a0 N0 i0 s mv T0 W i := by
  obtain ⟨S0, K, dp, M, rk, mk, l1, l2, l3, l4, l5, l8, l6⟩ := h
  exact ⟨S0, K, dp, M, rk, mk, LR_keep l1 rfl rfl, LZx_keep l2 rfl rfl rfl rfl rfl rfl rfl rfl, l3, sds_same l4 rfl rfl rfl, l5, ⟨PSV_same l8.1 (fun r => rfl) rfl, l8.2⟩, fun hi => ⟨(l6 hi).1, (l6 hi).2.1, (l6 hi).2.2.1, (l6 hi).2.2.2⟩⟩
theorem TRP.psv (h : TRP U Y P f od a0 N0 i0 s mv T0 W i) : PSV U P f s := by
  obtain ⟨S0, K, dp, M, rk, mk, l1, l2, l3, l4, l5, l8, -⟩ := h
  exact l8.1
theorem mc_rewindP (h : um m H) (e : ud m H = U) (hK : KNV m U Y P f od es) (hM : MCS U) (hl : LDW U Y P f od a0 N0 i0) (hmk : U.2.1 100 4 = mk) (hp : PSV U P f s) (hnow : ∀ k, k < 14 → mb mv k = 0) (hsub : ∀ k, 14 ≤ k → k < 28 → ¬ mb mk k = 0 → ¬ mb mv k = 0) (hmv : ∀ k, k < 28 → ¬ mb mv k = 0 → k % 14 < P) (hT0 : T0 = tqz mv f 28) (htq : T0 ≤ 268435456) : mu_TI (mu_D (d + 5)) 207 [.inr (.inr (some 100)), .inl mv] H (fun x H1 => ∃ W, (1 ≤ W ∧ W ≤ 1024) ∧ x = nI ((T0 + W - 1) / W) ∧ um m H1 ∧ ur m C H H1 ∧ uq F207 U (ud m H1) ∧ KNV m (ud m H1) Y P f od es ∧ MCS (ud m H1) ∧ TRP (ud m H1) Y P f od a0 N0 i0 s mv T0 W 0) := by
  obtain ⟨S0, K, dp, W, mk', M, rk, l1, l2, l3, l4⟩ := hl
  have emk : mk' = mk := l2.1.2.2.2.symm.trans hmk
  subst emk
  obtain ⟨⟨z5, z7, z17, z4⟩, ⟨zW1, zW2⟩, ⟨z8, zcl⟩, ⟨z12, z12b⟩, ⟨z13, z13b⟩, ⟨z15, z15b⟩, zall, zdp, zS⟩ := id l2
  have hP := hK.P14
  obtain ⟨St, hSt⟩ : ∃ St, St = wgs mv f U.1 28 := ⟨_, rfl⟩
  refine (mc_rewind2 (C := C) (d := d) (A := S0 + K + sfz Y a0 N0 + dp) (mv := mv) h e hK.1 z17 zW1 zW2 z8 (by rcases zcl with z | z | z <;> omega) z12 (by omega) z4 l4 (by omega) hT0 hSt hK.2.1 hmv (by rw [← hT0]; exact htq)).imp (fun x H1 q => ?_)
  obtain ⟨q1, q2, q3, q4, q5, q6, q7, q8, q9⟩ := q
  have hwg := wgs_ok (mv := mv) (f := f) (s := U.1) (n := 28) hM.1 (Nat.le_refl _)
  rw [← hSt] at hwg
  have e98 : (ud m H1).2.2.1 99 8 = U.2.2.1 99 8 := q4.a 99 8 rfl
  have e15 : (ud m H1).1 15 = U.1 15 := q4.t 15 rfl
  refine ⟨W, ⟨zW1, zW2⟩, q1, q2, q3, q4, hK.q q4 rfl, ⟨q9.1.1, by rw [q4.n 100 3 rfl]; exact hM.2.1, by rw [q4.n 100 8 rfl]; exact hM.2.2.1, by rw [q4.n 100 12 rfl]; exact hM.2.2.2.1, by rw [q4.n 100 13 rfl]; exact hM.2.2.2.2.1, by rw [q4.n 100 15 rfl]; exact hM.2.2.2.2.2⟩, S0, K, dp, M, rk, mk', LR_keep l1 (q4.t 21 rfl) (q4.a 100 3 rfl), LZx_keep l2 (q4.i 100 5 rfl) (q4.i 100 7 rfl) (q4.i 100 17 rfl) (q4.i 100 4 rfl) (q4.n 100 8 rfl) (q4.n 100 12 rfl) (q4.n 100 13 rfl) (q4.n 100 15 rfl), by rw [e15]; exact l3, q9.1, q8, ⟨PSV_same hp (fun r => (q9.2.1 r 2 (by decide)).trans (hwg.2.1 r 2 (by decide) (by decide))) e98, hnow, hsub⟩, fun _ => ?_⟩
  rw [Nat.zero_mul]
  exact ⟨q7, q5, q6, SV_vlp (sv_sdiP (U := U) q9 e15 rfl hnow hsub (fun r hr => (hwg.2.1 r 2 (by decide) (by decide)).trans (hp r hr)) hK.2.1 hP) e15 e98⟩
theorem mc_runP (h : um m H) (e : ud m H = U) (hK : KNV m U Y P f od es) (hM : MCS U) (hR : TRP U Y P f od a0 N0 i0 s mv T0 W i) (hi : i * W < T0) (hi0 : i0 < (Y 11).1) (hr0 : rgs Y (im Y i0) Lk a0 (a0 + N0)) (hLk : 1 ≤ Lk.length) (hs0 : SRT Y es i0 al a0 rs N0) (hal : ¬ al = 2) : mu_TV (mu_D (d + 6)) 208 [.inr (.inr (some 100))] H (fun H1 => um m H1 ∧ ur m C H H1 ∧ uq F208 U (ud m H1) ∧ KNV m (ud m H1) Y P f od es ∧ MCS (ud m H1) ∧ TRQ (ud m H1) Y P f od a0 N0 i0 s mv T0 W i ∧ RSL (ud m H1) Y a0 N0 (min W (T0 - i * W)) (fun j => lvl Y (vst U f P s) (vlz U f mv 14 (i * W + j)) (evz Y od (vst U f P s)) i0)) := by
  obtain ⟨S0, K, dp, M, rk, mk, l1, l2, l3, l4, l5, l8, l6⟩ := hR
  obtain ⟨l19, l18, l21, lsv⟩ := l6 hi
  have hP := hK.P14
  have hsl : SL (U.1 22) S0 mk := fun k hk hb => ⟨(l4.2.1 k hk hb).2.1, (l4.2.1 k hk hb).2.2.1⟩
  have hW1 := l2.2.1.1
  refine (mc_runS2 (C := C) (d := d) h e hK.1.2.2.2.2.1 hK.1.2.2.2.2.2 hK.2.2.1 hK.2.2.2.1.1 hK.2.2.2.2.1 hK.2.2.2.1.2.1 hK.2.2.2.1.2.2.1 l1 l2 l3 hP hi0 hr0 hLk hs0 hal (fun j _ => VLS_vst hK.2.2.2.2.2.1 hP hK.2.1) (fun j _ => VLS_vlz hK.2.2.2.2.2.1 hP hK.2.1) hsl lsv l18 (by omega) (by omega) l21).imp (fun H1 q => ?_)
  obtain ⟨q1, q2, q3, q4, ⟨V0, it, q5⟩, q6, q7, q8⟩ := q
  have l2' := LZx_keep l2 (q3.i 100 5 rfl) (q3.i 100 7 rfl) (q3.i 100 17 rfl) (q3.i 100 4 rfl) (q3.n 100 8 rfl) (q3.n 100 12 rfl) (q3.n 100 13 rfl) (q3.n 100 15 rfl)
  have hsd : sds (ud m H1) W P S0 f mk (bcn mk) (wqz mv f) := sds_ckp l4 (q3.t 22 rfl) (q3.a 99 8 rfl) q8
  obtain ⟨⟨z5, z7, z17, z4⟩, ⟨zW1, zW2⟩, ⟨z8, zcl⟩, ⟨z12, z12b⟩, ⟨z13, z13b⟩, ⟨z15, z15b⟩, zall, zdp, zS⟩ := id l2'
  exact ⟨q1, q2, q3, hK.q q3 rfl, ⟨hsd.1, by rw [q3.n 100 3 rfl]; exact hM.2.1, zcl, z12b, z13b, z15b⟩, ⟨S0, K, dp, M, rk, mk, LR_keep l1 (q3.t 21 rfl) (q3.a 100 3 rfl), l2', by rw [q3.t 15 rfl]; exact l3, hsd, (q3.i 100 20 rfl).trans l5, ⟨PSV_same l8.1 (fun r => by rw [q3.t 22 rfl]) (q3.a 99 8 rfl), l8.2⟩, (q3.i 100 19 rfl).trans l19, (q3.i 100 18 rfl).trans l18⟩, V0, S0 + K + sfz Y a0 N0, S0 + K + sfz Y a0 N0 + dp, W, it, q5, ⟨z5, z7⟩, ⟨by omega, by omega, zall⟩, z15, z15b⟩
theorem mc_turnP (h : um m H) (e : ud m H = U) (hK : KNV m U Y P f od es) (hM : MCS U) (hR : TRQ U Y P f od a0 N0 i0 s mv T0 W i) (hi : i * W < T0) (htq : T0 ≤ 268435456) : mu_TV (mu_D (d + 5)) 211 [.inr (.inr (some 100))] H (fun H1 => um m H1 ∧ ur m C H H1 ∧ uq F211 U (ud m H1) ∧ KNV m (ud m H1) Y P f od es ∧ MCS (ud m H1) ∧ TRP (ud m H1) Y P f od a0 N0 i0 s mv T0 W (i + 1)) := by
  obtain ⟨S0, K, dp, M, rk, mk, l1, l2, l3, l4, l20, l8, l19, l18⟩ := hR
  have hP := hK.P14
  obtain ⟨⟨z5, z7, z17, z4⟩, ⟨zW1, zW2⟩, ⟨z8, zcl⟩, ⟨z12, z12b⟩, ⟨z13, z13b⟩, ⟨z15, z15b⟩, zall, zdp, zS⟩ := id l2
  have hsm : (i + 1) * W = i * W + W := Nat.succ_mul i W
  by_cases hlast : T0 ≤ i * W + min W (T0 - i * W)
  · refine (mc_turn0 (C := C) (d := d) h e l19 l18 l20 hlast (by omega)).imp (fun H1 q => ?_)
    obtain ⟨q1, q2, q3⟩ := q
    have q4 : uq F211 U (ud m H1) := by rw [q3]; exact (uq.refl F211 U).I rfl
    refine ⟨q1, q2, q4, hK.q q4 rfl, ⟨by rw [q3]; exact hM.1, by rw [q4.n 100 3 rfl]; exact hM.2.1, by rw [q4.n 100 8 rfl]; exact hM.2.2.1, by rw [q4.n 100 12 rfl]; exact hM.2.2.2.1, by rw [q4.n 100 13 rfl]; exact hM.2.2.2.2.1, by rw [q4.n 100 15 rfl]; exact hM.2.2.2.2.2⟩, S0, K, dp, M, rk, mk, LR_keep l1 (q4.t 21 rfl) (q4.a 100 3 rfl), LZx_keep l2 (q4.i 100 5 rfl) (q4.i 100 7 rfl) (q4.i 100 17 rfl) (q4.i 100 4 rfl) (q4.n 100 8 rfl) (q4.n 100 12 rfl) (q4.n 100 13 rfl) (q4.n 100 15 rfl), by rw [q4.t 15 rfl]; exact l3, by rw [q3]; exact sds_same l4 rfl rfl rfl, (q4.i 100 20 rfl).trans l20, ⟨PSV_same l8.1 (fun r => by rw [q3]; rfl) (q4.a 99 8 rfl), l8.2⟩, fun z => absurd z (by omega)⟩
  · refine (mc_turn1 (C := C) (d := d) (A := S0 + K + sfz Y a0 N0 + dp) h e hK.1 z17 zW1 zW2 z8 (by rcases zcl with z | z | z <;> omega) z12 (by omega) z4 l4 (by omega) l19 l18 l20 (by omega) htq).imp (fun H1 q => ?_)
    obtain ⟨q1, q2, q4, q5, q6, q7, q8, q9⟩ := q
    have e98 : (ud m H1).2.2.1 99 8 = U.2.2.1 99 8 := q4.a 99 8 rfl
    have e15 : (ud m H1).1 15 = U.1 15 := q4.t 15 rfl
    refine ⟨q1, q2, q4, hK.q q4 rfl, ⟨q9.1.1, by rw [q4.n 100 3 rfl]; exact hM.2.1, by rw [q4.n 100 8 rfl]; exact hM.2.2.1, by rw [q4.n 100 12 rfl]; exact hM.2.2.2.1, by rw [q4.n 100 13 rfl]; exact hM.2.2.2.2.1, by rw [q4.n 100 15 rfl]; exact hM.2.2.2.2.2⟩, S0, K, dp, M, rk, mk, LR_keep l1 (q4.t 21 rfl) (q4.a 100 3 rfl), LZx_keep l2 (q4.i 100 5 rfl) (q4.i 100 7 rfl) (q4.i 100 17 rfl) (q4.i 100 4 rfl) (q4.n 100 8 rfl) (q4.n 100 12 rfl) (q4.n 100 13 rfl) (q4.n 100 15 rfl), by rw [e15]; exact l3, q9.1, q8, ⟨PSV_same l8.1 (fun r => q9.2.1 r 2 (by decide)) e98, l8.2⟩, fun _ => ?_⟩
    rw [show i * W + min W (T0 - i * W) = (i + 1) * W by omega] at q5 q7 q9
    exact ⟨q7, q5, q6, SV_vlp (sv_sdiP (U := U) q9 e15 rfl l8.2.1 l8.2.2 (fun r hr => l8.1 r hr) hK.2.1 hP) e15 e98⟩
end TurnsPosed
