/-! THE MACHINE runs what is posed -/
/-- a STATE is posed -/
def PSV (U : Ud) (P : Nat) (f : Nat → Nat) (s : Nat) : Prop := ∀ r, r < P → (U.1 22).2 r 2 = (U.2.2.1 99 8).2 (sm f 0 r + dgz f P s r)
/-- ready to run -/
def RDY (U : Ud) (Y : Ts) (P : Nat) (f od : Nat → Nat) (a0 N0 i0 l : Nat) (vn vx : Nat → Nat → Int32) : Prop := ∃ S0 K dp W mk M rk wt, LR U Y a0 N0 i0 od S0 K M rk ∧ LZx U S0 K (sfz Y a0 N0) dp W mk ∧ LC (U.1 15) Y P (nxp Y a0 N0) a0 N0 i0 (sfz Y a0 N0) dp mk M ∧ sds U W P S0 f mk (bcn mk) wt ∧ SV U Y W l P mk vn vx ∧ (U.2.1 100 18 = nI l ∧ 1 ≤ l ∧ l ≤ W) ∧ U.2.1 100 21 = 1
/-- what a run leaves -/
def RSL (V : Ud) (Y : Ts) (a0 N0 l : Nat) (lv : Nat → Nat → Int32) : Prop := ∃ V0 O A W it, ri V0 V Y O (sfz Y a0 N0) A W l a0 N0 lv it ∧ (V.2.1 100 5 = nI (sfz Y a0 N0) ∧ V.2.1 100 7 = nI O) ∧ (sfz Y a0 N0 ≤ O ∧ O ≤ A ∧ A ≤ 32768) ∧ sfz Y a0 N0 + 2 ≤ (V.2.2.1 100 15).1 ∧ (V.2.2.1 100 15).1 ≤ 131072
section RunPosed
variable {H : mu_H} {U V : Ud} {m d P a0 N0 i0 s l lane n k : Nat} {C : Nat → Nat} {Y : Ts} {f od : Nat → Nat} {es rs : Nat → Int32} {al : Int32} {kd : Bool} {vn vx lv : Nat → Nat → Int32}
theorem tqz_none : ∀ n, tqz 0 f n = 1
  | 0 => rfl
  | n + 1 => by
    show tqz 0 f n * (if mb 0 (27 - n) = 0 then 1 else f ((27 - n) % 14)) = 1
    rw [if_pos (mb_0 _ (by omega)), tqz_none n]
theorem wqz_none (hk : k < 32) : wqz 0 f k = 0 := if_pos (mb_0 k hk)
theorem vst_pl {w pl : Nat} (h : (U.1 15).2 w 2 = nI pl) (hp : pl < 14) : vst U f P s w = (U.2.2.1 99 8).2 (sm f 0 pl + dgz f P s pl) := by
  unfold vst dgz
  rw [h, if_neg (fun z => nI_neg1 (by omega) z), nI_clamp (by omega)]
theorem vst_m1 {w : Nat} (h : (U.1 15).2 w 2 = -1) : vst U f P s w = (U.1 15).2 w 3 := if_pos h
theorem vst_same (h15 : V.1 15 = U.1 15) (h8 : V.2.2.1 99 8 = U.2.2.1 99 8) : vst V f P s = vst U f P s := by
  funext w
  unfold vst
  rw [h15, h8]
theorem mc_pose0 (h : um m H) (e : ud m H = U) (hK : KNV m U Y P f od es) (hM : MCS U) (hl : LDD U Y P f od a0 N0 i0) (hnx : ¬ nxp Y a0 N0) (hp : PSV U P f s) : mu_TI (mu_D (d + 5)) 207 [.inr (.inr (some 100)), .inl 0] H (fun x H1 => (∃ q, x = nI q) ∧ um m H1 ∧ ur m C H H1 ∧ uq F207 U (ud m H1) ∧ KNV m (ud m H1) Y P f od es ∧ MCS (ud m H1) ∧ PSV (ud m H1) P f s ∧ RDY (ud m H1) Y P f od a0 N0 i0 1 (fun _ => vst U f P s) (fun _ => vst U f P s)) := by
  obtain ⟨S0, K, dp, W, mk, M, rk, l1, l2, l3, l4⟩ := hl
  obtain ⟨⟨z5, z7, z17, z4⟩, ⟨zW1, zW2⟩, ⟨z8, zcl⟩, ⟨z12, z12b⟩, ⟨z13, z13b⟩, ⟨z15, z15b⟩, zall, zdp, zS⟩ := id l2
  have hP := hK.P14
  obtain ⟨T0, hT0⟩ : ∃ T0, T0 = tqz 0 f 28 := ⟨_, rfl⟩
  obtain ⟨St, hSt⟩ : ∃ St, St = wgs 0 f U.1 28 := ⟨_, rfl⟩
  have hT1 : T0 = 1 := hT0.trans (tqz_none 28)
  have hwg := wgs_ok (mv := 0) (f := f) (s := U.1) (n := 28) hM.1 (Nat.le_refl _)
  rw [← hSt] at hwg
  refine (mc_rewind2 (C := C) (d := d) (A := S0 + K + sfz Y a0 N0 + dp) (mv := 0) h e hK.1 z17 zW1 zW2 z8 (by rcases zcl with z | z | z <;> omega) z12 (by omega) z4 l4 (by omega) hT0 hSt hK.2.1 (fun k hk z => absurd (mb_0 k (by omega)) z) (by rw [tqz_none]; decide)).imp (fun x H1 q => ?_)
  obtain ⟨q1, q2, q3, q4, q5, q6, q7, q8, q9⟩ := q
  have hmin : min W (T0 - 0) = 1 := by omega
  rw [hmin] at q5 q9
  obtain ⟨s1, s2, s3, s4⟩ := q9
  have hcol : ∀ r, ((ud m H1).1 22).2 r 2 = (U.1 22).2 r 2 := fun r => (s2 r 2 (by decide)).trans (hwg.2.1 r 2 (by decide) (by decide))
  have e98 : (ud m H1).2.2.1 99 8 = U.2.2.1 99 8 := q4.a 99 8 rfl
  have e15 : (ud m H1).1 15 = U.1 15 := q4.t 15 rfl
  refine ⟨⟨_, q1⟩, q2, q3, q4, hK.q q4 rfl, ⟨s1.1, by rw [q4.n 100 3 rfl]; exact hM.2.1, by rw [q4.n 100 8 rfl]; exact hM.2.2.1, by rw [q4.n 100 12 rfl]; exact hM.2.2.2.1, by rw [q4.n 100 13 rfl]; exact hM.2.2.2.2.1, by rw [q4.n 100 15 rfl]; exact hM.2.2.2.2.2⟩, fun r hr => by rw [hcol, e98]; exact hp r hr, S0, K, dp, W, mk, M, rk, _, LR_keep l1 (q4.t 21 rfl) (q4.a 100 3 rfl), LZx_keep l2 (q4.i 100 5 rfl) (q4.i 100 7 rfl) (q4.i 100 17 rfl) (q4.i 100 4 rfl) (q4.n 100 8 rfl) (q4.n 100 12 rfl) (q4.n 100 13 rfl) (q4.n 100 15 rfl), by rw [e15]; exact l3, s1, ?_, ⟨q5, Nat.le_refl _, zW1⟩, q6⟩
  intro w hw j hj
  rw [e15]
  refine ⟨fun z => ⟨vst_m1 z, vst_m1 z⟩, fun pl hpl hpv => ⟨fun hb => ?_, fun hb => ?_⟩⟩
  · rw [s3 pl j (by omega) hb (by omega) hj, wqz_none (by omega)]
    show (St 22).2 pl 2 = vst U f P s w
    rw [vst_pl hpv (by omega), hwg.2.1 pl 2 (by decide) (by decide)]
    exact hp pl hpl
  · exact absurd ((l3.2.2 (pl + 14) (by omega) hb).2.2 (by omega)) hnx
theorem mc_run2 (h : um m H) (e : ud m H = U) (hK : KNV m U Y P f od es) (hM : MCS U) (hR : RDY U Y P f od a0 N0 i0 l vn vx) (hi0 : i0 < (Y 11).1) (hr0 : rg Y (im Y i0) kd a0 (a0 + N0)) (hs0 : SRT Y es i0 al a0 rs N0) (hal : ¬ al = 2) (hvn : ∀ j, j < l → VLS Y (vn j)) (hvx : ∀ j, j < l → VLS Y (vx j)) : mu_TV (mu_D (d + 6)) 208 [.inr (.inr (some 100))] H (fun H1 => um m H1 ∧ ur m C H H1 ∧ uq F208 U (ud m H1) ∧ KNV m (ud m H1) Y P f od es ∧ MCS (ud m H1) ∧ LDD (ud m H1) Y P f od a0 N0 i0 ∧ RSL (ud m H1) Y a0 N0 l (fun j => lvl Y (vn j) (vx j) (evz Y od (vn j)) i0)) := by
  obtain ⟨S0, K, dp, W, mk, M, rk, wt, l1, l2, l3, l4, l5, ⟨l6, l7, l8⟩, l9⟩ := hR
  have hP := hK.P14
  have hsl : SL (U.1 22) S0 mk := fun k hk hb => ⟨(l4.2.1 k hk hb).2.1, (l4.2.1 k hk hb).2.2.1⟩
  refine (mc_runS (C := C) (d := d) h e hK.1.2.2.2.2.1 hK.1.2.2.2.2.2 hK.2.2.1 hK.2.2.2.1.1 hK.2.2.2.2.1 hK.2.2.2.1.2.1 hK.2.2.2.1.2.2.1 l1 l2 l3 hP hi0 hr0 hs0 hal hvn hvx hsl l5 l6 l7 l8 l9).imp (fun H1 q => ?_)
  obtain ⟨q1, q2, q3, q4, ⟨V0, it, q5⟩, q6, q7, q8⟩ := q
  have l2' := LZx_keep l2 (q3.i 100 5 rfl) (q3.i 100 7 rfl) (q3.i 100 17 rfl) (q3.i 100 4 rfl) (q3.n 100 8 rfl) (q3.n 100 12 rfl) (q3.n 100 13 rfl) (q3.n 100 15 rfl)
  have hsd : sds (ud m H1) W P S0 f mk (bcn mk) wt := sds_ckp l4 (q3.t 22 rfl) (q3.a 99 8 rfl) q8
  obtain ⟨⟨z5, z7, z17, z4⟩, ⟨zW1, zW2⟩, ⟨z8, zcl⟩, ⟨z12, z12b⟩, ⟨z13, z13b⟩, ⟨z15, z15b⟩, zall, zdp, zS⟩ := id l2'
  refine ⟨q1, q2, q3, hK.q q3 rfl, ⟨hsd.1, by rw [q3.n 100 3 rfl]; exact hM.2.1, zcl, z12b, z13b, z15b⟩, ⟨S0, K, dp, W, mk, M, rk, LR_keep l1 (q3.t 21 rfl) (q3.a 100 3 rfl), l2', by rw [q3.t 15 rfl]; exact l3, sds_x hsd hK.2.1⟩, V0, S0 + K + sfz Y a0 N0, S0 + K + sfz Y a0 N0 + dp, W, it, q5, ⟨z5, z7⟩, ⟨by omega, by omega, zall⟩, z15, z15b⟩
/-- the values of a CHOICE, in a lane -/
theorem chv_of (hR : RSL V Y a0 N0 l lv) (hn : lane < l) (hC : Cc Y) (hr : rg Y k true a0 (a0 + N0)) : ∃ K cv, CHV m V lane K cv ∧ K < 2147483648 ∧ ∀ v, (∃ i, i < K ∧ cv i = v) ↔ chq Y (lv lane) a0 N0 v := by
  obtain ⟨V0, O, A, W, it, hri, ⟨h5, h7⟩, ⟨hcO, hOA, hA⟩, h15, h15b⟩ := hR
  obtain ⟨cp1, cp2⟩ := cp_pos hC hr
  have h1p := rg_1 hr
  rw [Nat.add_sub_cancel_left] at h1p
  have hkd : kdz Y a0 N0 0 = true := by
    have z := kst_kd hr.2.2.1 0 (by rw [Nat.add_sub_cancel_left]; omega)
    rw [Nat.add_sub_cancel_left, h1p] at z
    exact (Option.some.inj z).symm
  have hv := hri.2.2.1 0 lane (by omega) hn
  have hsb := fsz_le (Y := Y) (a := a0) (n := N0) (snz Y a0 N0) (Nat.le_refl _)
  have keep : ∀ V', MCQ V V' → ri V0 V' Y O (sfz Y a0 N0) A W l a0 N0 lv it := fun V' q => ri_keep hri (q.1 17) (q.1 18) (q.1 14) (q.1 16) (q.2.1 8) (q.2.1 12) (q.2.1 13) (q.2.1 15)
  rcases chz_n (lv := lv lane) hC hr N0 (Nat.le_refl _) 0 (by omega) hkd with ⟨c, c1, c2⟩ | z
  · have hm := fsz_mono (Y := Y) (a := a0) (n := N0) c c1
    have hm2 := fsz_le (Y := Y) (a := a0) (n := N0) (c + 1) (by omega)
    refine ⟨fsz Y a0 N0 (c + 1) - fsz Y a0 N0 c, fun k => kvz Y (lv lane) a0 N0 (fsz Y a0 N0 c + k), fun d H V' hu hd hq => ?_, by omega, fun v => ⟨fun ⟨i, i1, i2⟩ => Or.inr ⟨c, c1, c2, i, i1, i2⟩, fun q => ?_⟩⟩
    · have hri' := keep V' hq
      obtain ⟨r1, r2, r3, ⟨r4, r5, r6⟩, r7, r8⟩ := id hri'
      have e15 : (V'.2.2.1 100 15).1 = (V.2.2.1 100 15).1 := congrArg Prod.fst (hq.2.1 15)
      refine ⟨mc_choicesC (d := d) (c := c) (sc := snz Y a0 N0) (fs := fsz Y a0 N0) hu hd r1 ((hq.1 7).trans h7) ((hq.1 5).trans h5) hn cp1 (by omega) (by omega) ((r3 0 lane (by omega) hn).trans c2) c1 (by omega) (by omega) r5 hm (by omega), fun k hk => ?_⟩
      have r9 := r7 (fsz Y a0 N0 c + k) lane (by omega) hn
      refine (mc_choiceC (d := d) (k := k) (c := c) (sc := snz Y a0 N0) (fs := fsz Y a0 N0) hu hd r1 ((hq.1 7).trans h7) ((hq.1 5).trans h5) hn cp1 (by omega) (by omega) ((r3 0 lane (by omega) hn).trans c2) c1 (by omega) (by omega) r5 hm (by omega) hcO (by omega) (by omega)).imp (fun x H1 q => ⟨q.1.trans ?_, q.2⟩)
      rw [Nat.add_assoc]
      exact r9
    · rcases q with ⟨q1, -⟩ | ⟨c', q1, q2, k, q3, q4⟩
      · rw [c2] at q1
        exact absurd q1 (nI_neg1 (by omega))
      · have e0 : c = c' := (nI_eq (by omega) (by omega)).mp (c2.symm.trans q2)
        rw [← e0] at q3 q4
        exact ⟨k, q3, q4⟩
  · refine ⟨1, fun _ => 0, fun d H V' hu hd hq => ?_, by decide, fun v => ⟨fun ⟨i, i1, i2⟩ => Or.inl ⟨z, i2.symm⟩, fun q => ?_⟩⟩
    · have hri' := keep V' hq
      obtain ⟨r1, r2, r3, -⟩ := id hri'
      exact ⟨mc_choicesN (d := d) hu hd r1 ((hq.1 7).trans h7) ((hq.1 5).trans h5) hn cp1 (by omega) (by omega) ((r3 0 lane (by omega) hn).trans z), fun k hk => mc_choiceN (d := d) (k := k) hu hd r1 ((hq.1 7).trans h7) ((hq.1 5).trans h5) hn cp1 (by omega) (by omega) ((r3 0 lane (by omega) hn).trans z)⟩
    · rcases q with ⟨-, q1⟩ | ⟨c', q1, q2, -⟩
      · exact ⟨0, by decide, q1.symm⟩
      · rw [z] at q2
        exact absurd q2.symm (nI_neg1 (by omega))
end RunPosed
