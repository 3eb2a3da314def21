/-! THE MACHINE runs what is posed: one CHOICE, or several E -/
/-- ready to run -/
def RDYw (U : Ud) (Y : Ts) (P : Nat) (f od : Nat → Nat) (a0 N0 i0 l : Nat) (vn vx : Nat → Nat → Int32) : Prop := ∃ S0 K dp W mk M rk wt, LR U Y a0 N0 i0 od S0 K M rk ∧ LZx U S0 K (sfz Y a0 N0) dp W mk ∧ LC (U.1 15) Y P (NXW Y (U.1 15) P a0 N0 i0) a0 N0 i0 (sfz Y a0 N0) dp mk M ∧ sds U W P S0 f mk (bcn mk) wt ∧ SV U Y W l P mk vn vx ∧ (U.2.1 100 18 = nI l ∧ 1 ≤ l ∧ l ≤ W) ∧ U.2.1 100 21 = 1
/-- a value is among those of a CHOICE, or of several E -/
def CHW (Y : Ts) (b : Bool) (lv : Nat → Int32) (a N : Nat) (v : Int32) : Prop := (b = true ∧ chq Y lv a N v) ∨ (b = false ∧ ∃ k, k < tpz Y a N ∧ svz Y lv a N k = v)
section RunPosedW
variable {H : mu_H} {U V : Ud} {m d P a0 N0 i0 s l lane n k : Nat} {C : Nat → Nat} {Y : Ts} {f od : Nat → Nat} {es rs : Nat → Int32} {al : Int32} {kd : Bool} {vn vx lv : Nat → Nat → Int32}
variable {Lk : List Bool} {b : Bool}
theorem kst_f {N : Nat} {L0 : List Bool} (hN : kst (Y 0) a0 N = some L0) (h0 : ¬ true ∈ L0) : ∀ {x n : Nat}, n + x = N → ∀ {L : List Bool}, kst (Y 0) a0 n = some L → ¬ true ∈ L
  | 0, n, e, L, h => by
    rw [show n = N by omega, hN] at h
    rw [← Option.some.inj h]; exact h0
  | x + 1, n, e, L, h => by
    obtain ⟨L2, h2⟩ := kst_le hN (show n + 1 ≤ N by omega)
    have ih := kst_f hN h0 (x := x) (n := n + 1) (by omega) h2
    obtain ⟨L1, h3, h4⟩ := kst_step h2
    rw [h] at h3
    obtain ⟨t, h5, h6⟩ := ktake_some h4
    rw [← Option.some.inj h3] at h5
    intro ht
    rw [h6] at ih
    by_cases ho : 32 ≤ oc Y (a0 + n)
    · exact ih (by simp [ho])
    · rw [h5, List.mem_append] at ht
      rcases ht with z | z
      · exact absurd (kin_false (by omega) _ z) (by decide)
      · exact ih (List.mem_cons_of_mem _ z)
theorem rgs_f (h : rgs Y k Lk a0 (a0 + N0)) (hf : ¬ true ∈ Lk) : sfz Y a0 N0 = 0 := by
  obtain ⟨h1, h2, h3, h4⟩ := h
  refine sfz_0 (fun n hn => ?_)
  obtain ⟨L, e⟩ := kst_le h3 (show n + 1 ≤ a0 + N0 - a0 by omega)
  obtain ⟨L', e1, e2⟩ := kst_step e
  obtain ⟨t, e3, e4⟩ := ktake_some e2
  apply Nat.lt_of_not_le
  intro ho
  have e6 := kst_f h3 hf (x := a0 + N0 - a0 - (n + 1)) (n := n + 1) (by omega) e
  rw [e4] at e6
  exact e6 (by simp [ho])
theorem mc_pose0w (h : um m H) (e : ud m H = U) (hK : KNV m U Y P f od es) (hM : MCS U) (hl : LDW U Y P f od a0 N0 i0) (hnx : ¬ NXW Y (U.1 15) P a0 N0 i0) (hp : PSV U P f s) : mu_TI (mu_D (d + 5)) 207 [.inr (.inr (some 100)), .inl 0] H (fun x H1 => (∃ q, x = nI q) ∧ um m H1 ∧ ur m C H H1 ∧ uq F207 U (ud m H1) ∧ KNV m (ud m H1) Y P f od es ∧ MCS (ud m H1) ∧ PSV (ud m H1) P f s ∧ RDYw (ud m H1) Y P f od a0 N0 i0 1 (fun _ => vst U f P s) (fun _ => vst U f P s)) := by
  obtain ⟨S0, K, dp, W, mk, M, rk, l1, l2, l3, l4⟩ := hl
  obtain ⟨⟨z5, z7, z17, z4⟩, ⟨zW1, zW2⟩, ⟨z8, zcl⟩, ⟨z12, z12b⟩, ⟨z13, z13b⟩, ⟨z15, z15b⟩, zall, zdp, zS⟩ := id l2
  have hP := hK.P14
  obtain ⟨T0, hT0⟩ : ∃ T0, T0 = tqz 0 f 28 := ⟨_, rfl⟩
  obtain ⟨St, hSt⟩ : ∃ St, St = wgs 0 f U.1 28 := ⟨_, rfl⟩
  have hT1 : T0 = 1 := hT0.trans (tqz_none 28)
  have hwg := wgs_ok (mv := 0) (f := f) (s := U.1) (n := 28) hM.1 (Nat.le_refl _)
  rw [← hSt] at hwg
  refine (mc_rewind2 (C := C) (d := d) (A := S0 + K + sfz Y a0 N0 + dp) (mv := 0) h e hK.1 z17 zW1 zW2 z8 (by rcases zcl with z | z | z <;> omega) z12 (by omega) z4 l4 (by omega) hT0 hSt hK.2.1 (fun k hk z => absurd (mb_0 k (by omega)) z) (by rw [tqz_none]; decide)).imp (fun x H1 q => ?_)
  obtain ⟨q1, q2, q3, q4, q5, q6, q7, q8, q9⟩ := q
  have hmin : min W (T0 - 0) = 1 := by omega
  rw [hmin] at q5 q9
  obtain ⟨s1, s2, s3, s4⟩ := q9
  have hcol : ∀ r, ((ud m H1).1 22).2 r 2 = (U.1 22).2 r 2 := fun r => (s2 r 2 (by decide)).trans (hwg.2.1 r 2 (by decide) (by decide))
  have e98 : (ud m H1).2.2.1 99 8 = U.2.2.1 99 8 := q4.a 99 8 rfl
  have e15 : (ud m H1).1 15 = U.1 15 := q4.t 15 rfl
  refine ⟨⟨_, q1⟩, q2, q3, q4, hK.q q4 rfl, ⟨s1.1, by rw [q4.n 100 3 rfl]; exact hM.2.1, by rw [q4.n 100 8 rfl]; exact hM.2.2.1, by rw [q4.n 100 12 rfl]; exact hM.2.2.2.1, by rw [q4.n 100 13 rfl]; exact hM.2.2.2.2.1, by rw [q4.n 100 15 rfl]; exact hM.2.2.2.2.2⟩, fun r hr => by rw [hcol, e98]; exact hp r hr, S0, K, dp, W, mk, M, rk, _, LR_keep l1 (q4.t 21 rfl) (q4.a 100 3 rfl), LZx_keep l2 (q4.i 100 5 rfl) (q4.i 100 7 rfl) (q4.i 100 17 rfl) (q4.i 100 4 rfl) (q4.n 100 8 rfl) (q4.n 100 12 rfl) (q4.n 100 13 rfl) (q4.n 100 15 rfl), by rw [e15]; exact l3, s1, ?_, ⟨q5, Nat.le_refl _, zW1⟩, q6⟩
  intro w hw j hj
  rw [e15]
  refine ⟨fun z => ⟨vst_m1 z, vst_m1 z⟩, fun pl hpl hpv => ⟨fun hb => ?_, fun hb => ?_⟩⟩
  · rw [s3 pl j (by omega) hb (by omega) hj, wqz_none (by omega)]
    show (St 22).2 pl 2 = vst U f P s w
    rw [vst_pl hpv (by omega), hwg.2.1 pl 2 (by decide) (by decide)]
    exact hp pl hpl
  · exact absurd ((l3.2.2 (pl + 14) (by omega) hb).2.2 (by omega)) hnx
theorem mc_run2w (h : um m H) (e : ud m H = U) (hK : KNV m U Y P f od es) (hM : MCS U) (hR : RDYw U Y P f od a0 N0 i0 l vn vx) (hi0 : i0 < (Y 11).1) (hr0 : rgs Y (im Y i0) Lk a0 (a0 + N0)) (hLk : 1 ≤ Lk.length) (hs0 : SRT Y es i0 al a0 rs N0) (hal : ¬ al = 2) (hvn : ∀ j, j < l → VLS Y (vn j)) (hvx : ∀ j, j < l → VLS Y (vx j)) : mu_TV (mu_D (d + 6)) 208 [.inr (.inr (some 100))] H (fun H1 => um m H1 ∧ ur m C H H1 ∧ uq F208 U (ud m H1) ∧ KNV m (ud m H1) Y P f od es ∧ MCS (ud m H1) ∧ LDW (ud m H1) Y P f od a0 N0 i0 ∧ RSL (ud m H1) Y a0 N0 l (fun j => lvl Y (vn j) (vx j) (evz Y od (vn j)) i0)) := by
  obtain ⟨S0, K, dp, W, mk, M, rk, wt, l1, l2, l3, l4, l5, ⟨l6, l7, l8⟩, l9⟩ := hR
  have hP := hK.P14
  have hsl : SL (U.1 22) S0 mk := fun k hk hb => ⟨(l4.2.1 k hk hb).2.1, (l4.2.1 k hk hb).2.2.1⟩
  refine (mc_runS2 (C := C) (d := d) h e hK.1.2.2.2.2.1 hK.1.2.2.2.2.2 hK.2.2.1 hK.2.2.2.1.1 hK.2.2.2.2.1 hK.2.2.2.1.2.1 hK.2.2.2.1.2.2.1 l1 l2 l3 hP hi0 hr0 hLk hs0 hal hvn hvx hsl l5 l6 l7 l8 l9).imp (fun H1 q => ?_)
  obtain ⟨q1, q2, q3, q4, ⟨V0, it, q5⟩, q6, q7, q8⟩ := q
  have l2' := LZx_keep l2 (q3.i 100 5 rfl) (q3.i 100 7 rfl) (q3.i 100 17 rfl) (q3.i 100 4 rfl) (q3.n 100 8 rfl) (q3.n 100 12 rfl) (q3.n 100 13 rfl) (q3.n 100 15 rfl)
  have hsd : sds (ud m H1) W P S0 f mk (bcn mk) wt := sds_ckp l4 (q3.t 22 rfl) (q3.a 99 8 rfl) q8
  obtain ⟨⟨z5, z7, z17, z4⟩, ⟨zW1, zW2⟩, ⟨z8, zcl⟩, ⟨z12, z12b⟩, ⟨z13, z13b⟩, ⟨z15, z15b⟩, zall, zdp, zS⟩ := id l2'
  refine ⟨q1, q2, q3, hK.q q3 rfl, ⟨hsd.1, by rw [q3.n 100 3 rfl]; exact hM.2.1, zcl, z12b, z13b, z15b⟩, ⟨S0, K, dp, W, mk, M, rk, LR_keep l1 (q3.t 21 rfl) (q3.a 100 3 rfl), l2', by rw [q3.t 15 rfl]; exact l3, sds_x hsd hK.2.1⟩, V0, S0 + K + sfz Y a0 N0, S0 + K + sfz Y a0 N0 + dp, W, it, q5, ⟨z5, z7⟩, ⟨by omega, by omega, zall⟩, z15, z15b⟩
/-- the values of several E, in a lane -/
theorem chv_ofs (hR : RSL V Y a0 N0 l lv) (hn : lane < l) (hr : rgs Y k Lk a0 (a0 + N0)) (hf : ¬ true ∈ Lk) : ∃ K cv, CHV m V lane K cv ∧ K < 2147483648 ∧ ∀ v, (∃ i, i < K ∧ cv i = v) ↔ ∃ i, i < tpz Y a0 N0 ∧ svz Y (lv lane) a0 N0 i = v := by
  obtain ⟨V0, O, A, W, it, hri, ⟨h5, h7⟩, ⟨hcO, hOA, hA⟩, h15, h15b⟩ := hR
  have h0 := rgs_f hr hf
  have h13 := hri.1.2.2.1
  have h13b := hri.1.2.2.2.1
  refine ⟨tpz Y a0 N0, fun i => svz Y (lv lane) a0 N0 i, fun d H V' hu hd hq => ?_, by omega, fun v => Iff.rfl⟩
  have hri' : ri V0 V' Y O (sfz Y a0 N0) A W l a0 N0 lv it := ri_keep hri (hq.1 17) (hq.1 18) (hq.1 14) (hq.1 16) (hq.2.1 8) (hq.2.1 12) (hq.2.1 13) (hq.2.1 15)
  refine ⟨mc_choices0 (d := d) hu hd hri'.1 ((hq.1 7).trans h7) ((hq.1 5).trans h5) hn h0, fun i hi => (mc_choice0 (d := d) (k := i) hu hd hri'.1 ((hq.1 7).trans h7) ((hq.1 5).trans h5) hn h0 hi).imp (fun x H1 q => ⟨q.1.trans (hri'.2.2.1 i lane hi hn), q.2⟩)⟩
theorem chv_any (hR : RSL V Y a0 N0 l lv) (hn : lane < l) (hC : Cc Y) (hr : rgs Y k Lk a0 (a0 + N0)) (hb : (b = true → Lk = [true]) ∧ (b = false → ¬ true ∈ Lk)) : ∃ K cv, CHV m V lane K cv ∧ K < 2147483648 ∧ ∀ v, (∃ i, i < K ∧ cv i = v) ↔ CHW Y b (lv lane) a0 N0 v := by
  cases b with
  | true =>
    rw [hb.1 rfl] at hr
    obtain ⟨K, cv, y1, y2, y3⟩ := chv_of (m := m) hR hn hC (show rg Y k true a0 (a0 + N0) from hr)
    exact ⟨K, cv, y1, y2, fun v => (y3 v).trans ⟨fun q => Or.inl ⟨rfl, q⟩, fun q => q.elim (fun y => y.2) (fun y => by cases y.1)⟩⟩
  | false =>
    obtain ⟨K, cv, y1, y2, y3⟩ := chv_ofs (m := m) hR hn hr (hb.2 rfl)
    exact ⟨K, cv, y1, y2, fun v => (y3 v).trans ⟨fun q => Or.inr ⟨rfl, q⟩, fun q => q.elim (fun y => by cases y.1) (fun y => y.2)⟩⟩
end RunPosedW
