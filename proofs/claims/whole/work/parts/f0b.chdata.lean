/-! RELATION: choices, and truths of one VARIABLE of next -/
/-- what a truth is for a digit of next, and a STATE -/
def trp (Y : Ts) (U : Ud) (f : Nat → Nat) (P : Nat) (od : Nat → Nat) (i0 a0 N0 s pl x : Nat) : Int32 := svz Y (lvl Y (vst U f P s) (vlz U f ((1 : Int32) <<< (nI (pl + 14) &&& 31)) 14 x) (evz Y od (vst U f P s)) i0) a0 N0 0
/-- a truth's code -/
def WTC (Y : Ts) (es : Nat → Int32) (a n i : Nat) : Prop := rg Y (im Y i) false a (a + n) ∧ ∃ rs, SRT Y es i 1 a rs n ∧ stk Y rs a n 0 = 1
/-- the rows of wide: truths; choices: CHOICES (wk), or several E; truths of one VARIABLE of next -/
def WIDw (Y : Ts) (es : Nat → Int32) (P : Nat) (t15 t : Tb) (nw : Nat) (wa wn wi : Nat → Nat) (wk : Nat → Bool) : Prop := (t.1 = nw ∧ nw ≤ 16777216) ∧ ∀ r, r < nw → (t.2 r 0 = nI (wa r) ∧ t.2 r 1 = nI (wa r + wn r) ∧ t.2 r 2 = nI (wi r) ∧ wi r < (Y 11).1 ∧ wa r + wn r ≤ (Y 0).1) ∧ ((t.2 r 3 = -1 ∧ t.2 r 4 = 1 ∧ (wn r = 0 ∨ WTC Y es (wa r) (wn r) (wi r))) ∨ (∃ pl, pl < P ∧ t.2 r 3 = nI pl ∧ t.2 r 4 = 0 ∧ ¬ NXW Y t15 P (wa r) (wn r) (wi r) ∧ ∃ al Lk rs, ¬ al = 2 ∧ rgs Y (im Y (wi r)) Lk (wa r) (wa r + wn r) ∧ 1 ≤ Lk.length ∧ SRT Y es (wi r) al (wa r) rs (wn r) ∧ (wk r = true → Lk = [true]) ∧ (wk r = false → ¬ true ∈ Lk)) ∨ ∃ pl, pl < P ∧ t.2 r 3 = nI pl ∧ t.2 r 4 = 1 ∧ WTC Y es (wa r) (wn r) (wi r) ∧ ∀ q, NXP Y t15 P (wa r) (wn r) (wi r) q → q = pl)
/-- a value is among those of a row of choices in a STATE -/
def CHSw (Y : Ts) (U : Ud) (f : Nat → Nat) (P : Nat) (od : Nat → Nat) (b : Bool) (a N i s : Nat) (v : Int32) : Prop := CHW Y b (lvl Y (vst U f P s) (vst U f P s) (evz Y od (vst U f P s)) i) a N v
/-- a wide row of a place leaves a digit -/
def WRX (Y : Ts) (U : Ud) (f : Nat → Nat) (P : Nat) (od wa wn wi : Nat → Nat) (wk : Nat → Bool) (s k x r : Nat) : Prop := ((U.1 25).2 r 4 = 0 → CHSw Y U f P od (wk r) (wa r) (wn r) (wi r) s ((U.2.2.1 99 8).2 (sm f 0 k + x))) ∧ ((U.1 25).2 r 4 = 1 → trp Y U f P od (wi r) (wa r) (wn r) s k x = 1)
/-- the wide rows of a place leave a digit, behind w of those that count -/
def WCHw (Y : Ts) (U : Ud) (f : Nat → Nat) (P : Nat) (od wa wn wi : Nat → Nat) (wk : Nat → Bool) (fi : Nat → Nat) (s w k x : Nat) : Prop := ∀ r, r < w → (U.1 25).2 (fi r) 3 = nI k → WRX Y U f P od wa wn wi wk s k x (fi r)
section ChooseData
variable {H : mu_H} {U V : Ud} {m d P s w k x a0 N0 i0 n p T0 : Nat} {C : Nat → Nat} {Y : Ts} {f od wa wn wi fi : Nat → Nat} {wk : Nat → Bool} {es rs : Nat → Int32} {al : Int32}
theorem trp_same {pl : Nat} (h15 : V.1 15 = U.1 15) (h8 : V.2.2.1 99 8 = U.2.2.1 99 8) : trp Y V f P od i0 a0 N0 s pl x = trp Y U f P od i0 a0 N0 s pl x := by
  unfold trp
  rw [vst_same h15 h8, vlz_same h15 h8]
theorem trp_01 {pl x : Nat} (hK : KNV m U Y P f od es) (hr0 : rg Y k false a0 (a0 + N0)) (hs0 : SRT Y es i0 al a0 rs N0) (hal : ¬ al = 2) (hst : stk Y rs a0 N0 0 = 1) : trp Y U f P od i0 a0 N0 s pl x = 0 ∨ trp Y U f P od i0 a0 N0 s pl x = 1 := by
  have hP := hK.P14
  have hW := hK.2.2.2.1.1
  have hv : ∀ t, VLS Y (vst U f P t) := fun t => VLS_vst hK.2.2.2.2.2.1 hP hK.2.1
  have h1p := rg_1 hr0
  rw [Nat.add_sub_cancel_left] at h1p
  have hkd : kdz Y a0 N0 0 = false := by
    have z := kst_kd hr0.2.2.1 0 (by rw [Nat.add_sub_cancel_left]; omega)
    rw [Nat.add_sub_cancel_left, h1p] at z
    exact (Option.some.inj z).symm
  have q := typ_n (lv := lvl Y (vst U f P s) (vlz U f ((1 : Int32) <<< (nI (pl + 14) &&& 31)) 14 x) (evz Y od (vst U f P s)) i0) hW.2.2.2.2.2.1.2 hr0 hs0 hal (fun n hn ho => lvl_cfm hW hK.2.2.2.1.2.2.1 (by have := hr0.2.1; omega) ((hs0 n hn).2.1 (plen_0 ho)) (hv s) (VLS_vlz hK.2.2.2.2.2.1 hP hK.2.1) (fun e2 he2 _ => evz_all hW hK.2.2.2.2.1 hK.2.2.2.1.2.1 hK.2.2.2.1.2.2.1 (hv s) he2)) N0 (Nat.le_refl _) 0 (by omega) hkd
  exact q.1 hst
theorem tqz_one (hp : p < 28) : ∀ n, n ≤ 28 → tqz ((1 : Int32) <<< (nI p &&& 31)) f n = if 27 - p < n then f (p % 14) else 1
  | 0, _ => (if_neg (Nat.not_lt_zero _)).symm
  | n + 1, h => by
    have ih := tqz_one hp n (by omega)
    show tqz ((1 : Int32) <<< (nI p &&& 31)) f n * (if mb ((1 : Int32) <<< (nI p &&& 31)) (27 - n) = 0 then 1 else f ((27 - n) % 14)) = _
    rw [ih]
    by_cases e : 27 - n = p
    · rw [if_neg ((mb_one (by omega) (by omega)).mpr e), if_neg (show ¬ 27 - p < n by omega), if_pos (by omega), e, Nat.one_mul]
    · rw [if_pos (Decidable.byContradiction (fun y => e ((mb_one (by omega) (by omega)).mp y))), Nat.mul_one]
      by_cases e2 : 27 - p < n
      · rw [if_pos e2, if_pos (by omega)]
      · rw [if_neg e2, if_neg (by omega)]
theorem tq28 (hp : p < 28) (h : T0 = tqz ((1 : Int32) <<< (nI p &&& 31)) f 28) : T0 = f (p % 14) := by
  rw [h, tqz_one hp 28 (Nat.le_refl _), if_pos (by omega)]
theorem trp_nI {v : Int32} (h : v = 0 ∨ v = 1) : v = nI (if decide (v = 1) = true then 1 else 0) := by
  rcases h with e | e <;> subst e <;> decide
theorem tn_in {i W : Nat} (hW : 1 ≤ W) (h : i < (T0 + W - 1) / W) : i * W < T0 := by
  have h1 := (Nat.le_div_iff_mul_le (show 0 < W by omega)).mp (show i + 1 ≤ (T0 + W - 1) / W by omega)
  rw [Nat.succ_mul] at h1
  omega
theorem tn_end {i W : Nat} (hW : 1 ≤ W) (h : ¬ i < (T0 + W - 1) / W) : T0 ≤ i * W := by
  have h1 := (Nat.div_lt_iff_lt_mul (show 0 < W by omega)).mp (show (T0 + W - 1) / W < i + 1 by omega)
  rw [Nat.succ_mul] at h1
  omega
theorem WCHw.skip (h3 : (U.1 25).2 (fi w) 3 = -1) (hk : k < 14) : WCHw Y U f P od wa wn wi wk fi s w k x ↔ WCHw Y U f P od wa wn wi wk fi s (w + 1) k x := by
  constructor
  · intro h r hr he
    by_cases e : r = w
    · rw [e, h3] at he
      exact absurd he.symm (nI_neg1 (by omega))
    · exact h r (by omega) he
  · exact fun h r hr => h r (by omega)
theorem WCHw.other {pl : Nat} (h3 : (U.1 25).2 (fi w) 3 = nI pl) (hp : pl < 14) (hk : k < 14) (hn : ¬ k = pl) : WCHw Y U f P od wa wn wi wk fi s w k x ↔ WCHw Y U f P od wa wn wi wk fi s (w + 1) k x := by
  constructor
  · intro h r hr he
    by_cases e : r = w
    · rw [e, h3] at he
      exact absurd (nI_inj (by omega) (by omega) he).symm hn
    · exact h r (by omega) he
  · exact fun h r hr => h r (by omega)
theorem WCHw.hit {pl : Nat} (h3 : (U.1 25).2 (fi w) 3 = nI pl) : (WCHw Y U f P od wa wn wi wk fi s w pl x ∧ WRX Y U f P od wa wn wi wk s pl x (fi w)) ↔ WCHw Y U f P od wa wn wi wk fi s (w + 1) pl x := by
  constructor
  · rintro ⟨h, h1⟩ r hr he
    by_cases e : r = w
    · rw [e]
      exact h1
    · exact h r (by omega) he
  · exact fun h => ⟨fun r hr => h r (by omega), h w (by omega) h3⟩
theorem WRX.ch {r : Nat} (h4 : (U.1 25).2 r 4 = 0) : WRX Y U f P od wa wn wi wk s k x r ↔ CHSw Y U f P od (wk r) (wa r) (wn r) (wi r) s ((U.2.2.1 99 8).2 (sm f 0 k + x)) :=
  ⟨fun h => h.1 h4, fun h => ⟨fun _ => h, fun y => absurd (h4.symm.trans y) (by decide)⟩⟩
theorem WRX.tr {r : Nat} (h4 : (U.1 25).2 r 4 = 1) : WRX Y U f P od wa wn wi wk s k x r ↔ trp Y U f P od (wi r) (wa r) (wn r) s k x = 1 :=
  ⟨fun h => h.2 h4, fun h => ⟨fun y => absurd (h4.symm.trans y) (by decide), fun _ => h⟩⟩
theorem mc_pose1w (h : um m H) (e : ud m H = U) (hK : KNV m U Y P f od es) (hM : MCS U) (hl : LDW U Y P f od a0 N0 i0) (hnx : ¬ NXW Y (U.1 15) P a0 N0 i0) (hp : PSV U P f s) : mu_TI (mu_D (d + 5)) 207 [.inr (.inr (some 100)), .inl 0] H (fun x H1 => x = nI 1 ∧ um m H1 ∧ ur m C H H1 ∧ uq F207 U (ud m H1) ∧ KNV m (ud m H1) Y P f od es ∧ MCS (ud m H1) ∧ PSV (ud m H1) P f s ∧ RDYw (ud m H1) Y P f od a0 N0 i0 1 (fun _ => vst U f P s) (fun _ => vst U f P s) ∧ (ud m H1).2.1 100 18 = nI 1 ∧ (ud m H1).2.1 100 19 = nI 0 ∧ (ud m H1).2.1 100 20 = nI 1) := by
  obtain ⟨S0, K, dp, W, mk, M, rk, l1, l2, l3, l4⟩ := hl
  obtain ⟨⟨z5, z7, z17, z4⟩, ⟨zW1, zW2⟩, ⟨z8, zcl⟩, ⟨z12, z12b⟩, ⟨z13, z13b⟩, ⟨z15, z15b⟩, zall, zdp, zS⟩ := id l2
  have hP := hK.P14
  obtain ⟨T0, hT0⟩ : ∃ T0, T0 = tqz 0 f 28 := ⟨_, rfl⟩
  obtain ⟨St, hSt⟩ : ∃ St, St = wgs 0 f U.1 28 := ⟨_, rfl⟩
  have hT1 : T0 = 1 := hT0.trans (tqz_none 28)
  have hwg := wgs_ok (mv := 0) (f := f) (s := U.1) (n := 28) hM.1 (Nat.le_refl _)
  rw [← hSt] at hwg
  refine (mc_rewind2 (C := C) (d := d) (A := S0 + K + sfz Y a0 N0 + dp) (mv := 0) h e hK.1 z17 zW1 zW2 z8 (by rcases zcl with z | z | z <;> omega) z12 (by omega) z4 l4 (by omega) hT0 hSt hK.2.1 (fun k hk z => absurd (mb_0 k (by omega)) z) (by rw [tqz_none]; decide)).imp (fun x H1 q => ?_)
  obtain ⟨q1, q2, q3, q4, q5, q6, q7, q8, q9⟩ := q
  have hmin : min W (T0 - 0) = 1 := by omega
  rw [hmin] at q5 q9
  obtain ⟨s1, s2, s3, s4⟩ := q9
  have hcol : ∀ r, ((ud m H1).1 22).2 r 2 = (U.1 22).2 r 2 := fun r => (s2 r 2 (by decide)).trans (hwg.2.1 r 2 (by decide) (by decide))
  have e98 : (ud m H1).2.2.1 99 8 = U.2.2.1 99 8 := q4.a 99 8 rfl
  have e15 : (ud m H1).1 15 = U.1 15 := q4.t 15 rfl
  refine ⟨q1.trans (congrArg nI (by rw [hT1, Nat.add_sub_cancel_left]; exact Nat.div_self zW1)), q2, q3, q4, hK.q q4 rfl, ⟨s1.1, by rw [q4.n 100 3 rfl]; exact hM.2.1, by rw [q4.n 100 8 rfl]; exact hM.2.2.1, by rw [q4.n 100 12 rfl]; exact hM.2.2.2.1, by rw [q4.n 100 13 rfl]; exact hM.2.2.2.2.1, by rw [q4.n 100 15 rfl]; exact hM.2.2.2.2.2⟩, fun r hr => by rw [hcol, e98]; exact hp r hr, ⟨S0, K, dp, W, mk, M, rk, _, LR_keep l1 (q4.t 21 rfl) (q4.a 100 3 rfl), LZx_keep l2 (q4.i 100 5 rfl) (q4.i 100 7 rfl) (q4.i 100 17 rfl) (q4.i 100 4 rfl) (q4.n 100 8 rfl) (q4.n 100 12 rfl) (q4.n 100 13 rfl) (q4.n 100 15 rfl), by rw [e15]; exact l3, s1, ?_, ⟨q5, Nat.le_refl _, zW1⟩, q6⟩, q5, q7, q8.trans (by rw [hT1])⟩
  intro w hw j hj
  rw [e15]
  refine ⟨fun z => ⟨vst_m1 z, vst_m1 z⟩, fun pl hpl hpv => ⟨fun hb => ?_, fun hb => ?_⟩⟩
  · rw [s3 pl j (by omega) hb (by omega) hj, wqz_none (by omega)]
    show (St 22).2 pl 2 = vst U f P s w
    rw [vst_pl hpv (by omega), hwg.2.1 pl 2 (by decide) (by decide)]
    exact hp pl hpl
  · exact absurd ((l3.2.2 (pl + 14) (by omega) hb).2.2 (by omega)) hnx
end ChooseData
