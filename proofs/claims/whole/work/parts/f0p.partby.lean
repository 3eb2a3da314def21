/-! RELATION: partBy -/
section PartBy
variable {H : mu_H} {U V : Ud} {m d P a0 N0 i0 kb T0 : Nat} {C : Nat → Nat} {Y : Ts} {f od : Nat → Nat} {es rs : Nat → Int32} {al mk : Int32}
def F299 : Uf := ⟨[22], [(100, 18), (100, 21), (100, 19), (100, 20), (100, 14), (100, 16)], [(100, 8), (100, 12), (100, 9), (100, 10), (100, 11), (100, 13), (100, 15), (129, 6), (99, 18), (129, 7), (129, 8), (129, 9)], [], [], false⟩
theorem LDW.tru {t : Nat} {kd : Bool} (hK : KNV m U Y P f od es) (hl : LDW U Y P f od a0 N0 i0) (hmk : U.2.1 100 4 = mk) (hnx : ¬ NXW Y (U.1 15) P a0 N0 i0) (hi : i0 < (Y 11).1) (hr : rg Y (im Y i0) kd a0 (a0 + N0)) (ht : t < pd f 0 P) : trz Y U f mk od i0 a0 N0 (pj mk f P P t) = tru Y U f P od i0 a0 N0 t := by
  obtain ⟨S0, K, dp, W, mk', M', rk, l1, l2, l3, l4⟩ := hl
  have emk : mk' = mk := l2.1.2.2.2.symm.trans hmk
  subst emk
  exact trz_state hK.2.2.2.1.1 hK.2.2.2.2.1 hK.2.2.2.1.2.1 hK.P14 l3 hnx hi hr (fun k _ => hK.2.1 k) hK.2.2.2.2.2.2 ht
theorem part_step {V : Ud} {i l c : Nat} {T : Nat → Int32} (hc : c < i + l) (h1 : c < i → (V.2.2.1 129 6).2 c = T c) (h2 : ∀ j, j < l → (V.2.2.1 100 9).2 j = T (i + j)) : ((upF V 129 6 i (fun j => (V.2.2.1 100 9).2 (0 + j)) l).2.2.1 129 6).2 c = T c := by
  show (if i ≤ c ∧ c < i + l then (V.2.2.1 100 9).2 (0 + (c - i)) else (V.2.2.1 129 6).2 c) = T c
  by_cases h : i ≤ c
  · rw [if_pos ⟨h, hc⟩, Nat.zero_add, h2 _ (by omega), show i + (c - i) = c by omega]
  · rw [if_neg (fun y => h y.1)]
    exact h1 (by omega)
def F299a : Uf := ⟨[22], [(100, 14), (100, 16), (100, 21), (100, 18), (100, 19)], [(100, 8), (100, 9), (100, 10), (100, 11), (100, 12), (100, 13), (100, 15), (129, 6)], [], [], false⟩
/-- PathProver$Relation.partBy(I)V -/
abbrev mu_m299 : ev_M := (5, none, [], ev_b299)
theorem mu_g299 : mu_good mu_m299 := mu_goodk ev_k299
theorem rl_partBy (h : um m H) (e : ud m H = U) (hK : KNV m U Y P f od es) (hM : MCS U) (hl : LDW U Y P f od a0 N0 i0) (hi0 : i0 < (Y 11).1) (hr0 : rg Y (im Y i0) false a0 (a0 + N0)) (hs0 : SRT Y es i0 al a0 rs N0) (hal : ¬ al = 2) (hmk : U.2.1 100 4 = mk) (hnx : ¬ NXW Y (U.1 15) P a0 N0 i0) (h6 : pd f 0 P ≤ (U.2.2.1 129 6).1) (h6b : (U.2.2.1 129 6).1 ≤ 16777216) (h7 : pd f 0 P ≤ (U.2.2.1 129 7).1) (h7b : (U.2.2.1 129 7).1 ≤ 16777216) (h8 : 2 * pd f 0 P ≤ (U.2.2.1 129 8).1) (h8b : (U.2.2.1 129 8).1 ≤ 16777216) (h9 : (U.2.2.1 129 9).1 = 2 ^ kb) (hkb : kb ≤ 15) (hTb : pd f 0 P < 2 ^ kb) : mu_TV (mu_D (d + 7)) 299 [.inr (.inr (some 129)), .inl mk] H (fun H1 => um m H1 ∧ ur m C H H1 ∧ uq F299 U (ud m H1) ∧ KNV m (ud m H1) Y P f od es ∧ MCS (ud m H1) ∧ LDW (ud m H1) Y P f od a0 N0 i0 ∧ CLS U (ud m H1) (pd f 0 P) (fun t => tru Y U f P od i0 a0 N0 t)) := by
  obtain ⟨⟨s4, s10, s11, s12⟩, hk5, ⟨g8, g8b, g18, g18b⟩, ⟨gP, gpd, gsm⟩, hsp, hmo'⟩ := id hK.1
  have hP : P ≤ 14 := gP
  have hpm := pm_le (mk := mk) (f := f) (n := P) (fun k _ => hK.2.1 k)
  have tp1 : tpz Y a0 N0 = 1 := by have y := rg_1 hr0; rw [Nat.add_sub_cancel_left] at y; exact y
  obtain ⟨T0, hT0⟩ : ∃ T0, T0 = tqz mk f 28 := ⟨_, rfl⟩
  have hmv2 : ∀ k, k < 28 → ¬ mb mk k = 0 → k < P := LDW.now hl hmk hnx
  have hTw := tqz_28 hT0 hmv2 hP
  rw [wn_pm] at hTw
  have hpj : ∀ t, t < pd f 0 P → pj mk f P P t < T0 := fun t ht => by
    have y := pj_lt (mk := mk) (f := f) (P := P) (n := P) (fun k _ => hK.2.1 k) (Nat.le_refl P) t (by rw [Nat.sub_self]; exact ht)
    rw [wn_pm] at y
    omega
  refine mu_meth (M := mu_m299) rfl rfl ?_
  refine mw_ht (mu_fn_of (show [0, 1].Nodup by decide)) ?_
  refine mw_go mu_g299 (k := 2) (f1 := (4, [(0, .inr (.inr (some 129))), (1, .inl mk)], [.inr (.inr (mu_r H 129 0))], H)) (C := [mu_is H (some 129) 9]) rfl (show mu_is H (some 129) 9 from (h.1.1.is rfl)) ?_
  rw [(h.1.1.r (p := 129) (j := 0) (q := 99) rfl)]
  refine mw_go mu_g299 (k := 1) (f1 := (7, [(0, .inr (.inr (some 129))), (1, .inl mk)], [.inr (.inr (mu_r H 99 1))], H)) (C := [mu_is H (some 99) 13]) rfl (show mu_is H (some 99) 13 from (h.1.1.is rfl)) ?_
  rw [(h.1.1.r (p := 99) (j := 1) (q := 100) rfl)]
  refine mw_go mu_g299 (k := 1) (f1 := (8, [(0, .inr (.inr (some 129))), (1, .inl mk)], [.inl mk, .inr (.inr (some 100))], H)) (C := []) rfl trivial ?_
  refine mw_cI (fun _ => rfl) (show mu_is H (some 100) 5 from (h.1.1.is rfl)) (mc_rewindT (d := (d + 1)) (C := C) (T0 := T0) h e hK hM hl hmk hT0 (by omega)) (fun x1 Q1 q1 => ?_)
  obtain ⟨W, ⟨w1, w2⟩, rfl, u1, r1, z1, hKr, hMr, hTR0⟩ := q1
  have ht1 : ur m C H Q1 := (ur.refl m C H).trans r1
  obtain ⟨V1, d1⟩ : ∃ V, ud m Q1 = V := ⟨_, rfl⟩
  rw [d1] at z1 hKr hMr hTR0
  have qf1 : uq F299 U V1 := (uq.refl F299 U).tr z1 rfl
  obtain ⟨TN, hTN⟩ : ∃ TN, TN = (T0 + W - 1) / W := ⟨_, rfl⟩
  rw [← hTN]
  have hTNb : TN ≤ 17407 := by rw [hTN]; exact Nat.le_trans (Nat.div_le_self _ _) (by omega)
  refine mw_go mu_g299 (k := 5) (f1 := (17, [(4, .inl (0 : Int32)), (3, .inl (0 : Int32)), (2, .inl (nI TN)), (0, .inr (.inr (some 129))), (1, .inl mk)], [], Q1)) (C := []) rfl trivial ?_
  show mu_W _ _ (17, [(4, .inl (nI 0)), (3, .inl (nI (mwz W T0 0))), (2, .inl (nI TN)), (0, .inr (.inr (some 129))), (1, .inl mk)], [], Q1) _
  refine mw_sub (L' := [(4, .inl (nI 0)), (3, .inl (nI (mwz W T0 0))), (0, .inr (.inr (some 129))), (1, .inl mk), (2, .inl (nI TN))]) (by simp) ?_
  refine mw_down (α := Nat × mu_H) (fun zs => (17, [(4, .inl (nI zs.1)), (3, .inl (nI (mwz W T0 zs.1))), (0, .inr (.inr (some 129))), (1, .inl mk), (2, .inl (nI TN))], [], zs.2)) (fun zs => TN - zs.1) (fun zs => um m zs.2 ∧ ur m C H zs.2 ∧ (uq F299a V1 (ud m zs.2)) ∧ (zs.1 ≤ TN) ∧ (KNV m (ud m zs.2) Y P f od es) ∧ (MCS (ud m zs.2)) ∧ (TRN (ud m zs.2) Y P f od a0 N0 i0 mk T0 W zs.1) ∧ (∀ c, c < min (zs.1 * W) T0 → ((ud m zs.2).2.2.1 129 6).2 c = trz Y U f mk od i0 a0 N0 c)) (fun zs hza iha => ?_) (0, Q1) ⟨u1, ht1, (show uq F299a V1 (ud m Q1) from by rw [d1]; exact uq.refl _ _), (show 0 ≤ TN from (by omega)), (show KNV m (ud m Q1) Y P f od es from by rw [d1]; exact hKr), (show MCS (ud m Q1) from by rw [d1]; exact hMr), (show TRN (ud m Q1) Y P f od a0 N0 i0 mk T0 W 0 from by rw [d1]; exact hTR0), (show ∀ c, c < min (0 * W) T0 → ((ud m Q1).2.2.1 129 6).2 c = trz Y U f mk od i0 a0 N0 c from by rw [d1]; exact (fun c hc => absurd hc (by rw [Nat.zero_mul, Nat.zero_min]; exact Nat.not_lt_zero c)))⟩
  obtain ⟨i, Hsa⟩ := zs
  obtain ⟨ua, hta, da, hi, hKa, hMa, hTRa, hRO⟩ := hza
  have ua : um m Hsa := ua
  have hta : ur m C H Hsa := hta
  have zza : uq F299a V1 (ud m Hsa) := da
  have hi : i ≤ TN := hi
  have hKa : KNV m (ud m Hsa) Y P f od es := hKa
  have hMa : MCS (ud m Hsa) := hMa
  have hTRa : TRN (ud m Hsa) Y P f od a0 N0 i0 mk T0 W i := hTRa
  have hRO : ∀ c, c < min (i * W) T0 → ((ud m Hsa).2.2.1 129 6).2 c = trz Y U f mk od i0 a0 N0 c := hRO
  obtain ⟨Va, da⟩ : ∃ V, ud m Hsa = V := ⟨_, rfl⟩
  rw [da] at zza hKa hMa hTRa hRO
  have qfa : uq F299 U Va := qf1.tr zza rfl
  show mu_W _ _ (17, [(4, .inl (nI i)), (3, .inl (nI (mwz W T0 i))), (0, .inr (.inr (some 129))), (1, .inl mk), (2, .inl (nI TN))], [], Hsa) _
  refine mw_go mu_g299 (k := 2) (f1 := (20, [(4, .inl (nI i)), (3, .inl (nI (mwz W T0 i))), (0, .inr (.inr (some 129))), (1, .inl mk), (2, .inl (nI TN))], [.inl (nI TN), .inl (nI i)], Hsa)) (C := []) rfl trivial ?_
  refine mw_if (P := (nI i) < (nI TN)) (a := 23) (b := 91) (fun _ => rfl) trivial (fun h2 => ?_) (fun h2 => ?_)
  · -- 23: (nI i) < (nI TN)
    have nh2 : i < TN := (nI_ltI (by omega) (by omega)).mp (show nI i < nI TN from h2)
    have hiW := turns_lt w1 (by rw [← hTN]; exact nh2)
    have hA15 : Va.1 15 = U.1 15 := ((zza.t 15 rfl).trans (z1.t 15 rfl))
    have hA98 : Va.2.2.1 99 8 = U.2.2.1 99 8 := ((zza.a 99 8 rfl).trans (z1.a 99 8 rfl))
    rw [show nI (mwz W T0 i) = nI (i * W) from congrArg nI (by rw [mwz_eq]; omega)]
    refine mw_go mu_g299 (k := 2) (f1 := (27, [(4, .inl (nI i)), (3, .inl (nI (i * W))), (0, .inr (.inr (some 129))), (1, .inl mk), (2, .inl (nI TN))], [.inr (.inr (mu_r Hsa 129 0))], Hsa)) (C := [mu_is Hsa (some 129) 9]) rfl (show mu_is Hsa (some 129) 9 from (ua.1.1.is rfl)) ?_
    rw [(ua.1.1.r (p := 129) (j := 0) (q := 99) rfl)]
    refine mw_go mu_g299 (k := 1) (f1 := (30, [(4, .inl (nI i)), (3, .inl (nI (i * W))), (0, .inr (.inr (some 129))), (1, .inl mk), (2, .inl (nI TN))], [.inr (.inr (mu_r Hsa 99 1))], Hsa)) (C := [mu_is Hsa (some 99) 13]) rfl (show mu_is Hsa (some 99) 13 from (ua.1.1.is rfl)) ?_
    rw [(ua.1.1.r (p := 99) (j := 1) (q := 100) rfl)]
    refine mw_cV (fun _ => rfl) (show mu_is Hsa (some 100) 5 from (ua.1.1.is rfl)) (mc_runT (d := d) (C := C) (Lk := [false]) ua da hKa hMa hTRa hiW hi0 hr0 (by decide) hs0 hal) (fun Q3 q3 => ?_)
    obtain ⟨u3, r3, z3, hKu, hMu, hTD, hRS⟩ := q3
    have ht3 : ur m C H Q3 := hta.trans r3
    obtain ⟨V3, d3⟩ : ∃ V, ud m Q3 = V := ⟨_, rfl⟩
    rw [d3] at z3 hKu hMu hTD hRS
    have qf3 : uq F299 U V3 := qfa.tr z3 rfl
    obtain ⟨ln, hln⟩ : ∃ ln, ln = min W (T0 - i * W) := ⟨_, rfl⟩
    have l18 : V3.2.1 100 18 = nI ln := by rw [hln]; exact hTD.i18
    rw [← hln] at hRS
    have hlb : 1 ≤ ln ∧ ln ≤ 1024 ∧ i * W + ln ≤ T0 := by omega
    refine mw_go mu_g299 (k := 2) (f1 := (37, [(4, .inl (nI i)), (3, .inl (nI (i * W))), (0, .inr (.inr (some 129))), (1, .inl mk), (2, .inl (nI TN))], [.inr (.inr (mu_r Q3 129 0))], Q3)) (C := [mu_is Q3 (some 129) 9]) rfl (show mu_is Q3 (some 129) 9 from (u3.1.1.is rfl)) ?_
    rw [(u3.1.1.r (p := 129) (j := 0) (q := 99) rfl)]
    refine mw_go mu_g299 (k := 1) (f1 := (40, [(4, .inl (nI i)), (3, .inl (nI (i * W))), (0, .inr (.inr (some 129))), (1, .inl mk), (2, .inl (nI TN))], [.inr (.inr (mu_r Q3 99 1))], Q3)) (C := [mu_is Q3 (some 99) 13]) rfl (show mu_is Q3 (some 99) 13 from (u3.1.1.is rfl)) ?_
    rw [(u3.1.1.r (p := 99) (j := 1) (q := 100) rfl)]
    refine mw_cA (fun _ => rfl) (show mu_is Q3 (some 100) 5 from (u3.1.1.is rfl)) (mc_results2 (d := (d + 2)) (C := C) u3 d3 hRS tp1) (fun x4 Q4 q4 => ?_)
    obtain ⟨rfl, u4, r4, z4, hres⟩ := q4
    have ht4 : ur m C H Q4 := ht3.trans r4
    obtain ⟨V4, d4⟩ : ∃ V, ud m Q4 = V := ⟨_, rfl⟩
    rw [d4] at z4 hres
    have qf4 : uq F299 U V4 := qf3.tr z4 rfl
    have hres2 : ∀ k, k < ln → (V4.2.2.1 100 9).2 k = trz Y U f mk od i0 a0 N0 (i * W + k) := fun k hk => by rw [hres k hk, vlz_same (U := U) (V := Va) hA15 hA98, vlz_same (U := U) (V := Va) hA15 hA98]; rfl
    refine mw_go mu_g299 (k := 3) (f1 := (48, [(4, .inl (nI i)), (3, .inl (nI (i * W))), (0, .inr (.inr (some 129))), (1, .inl mk), (2, .inl (nI TN))], [.inr (.inr (mu_r Q4 129 6)), .inl (0 : Int32), .inr (.inr (some 107))], Q4)) (C := [mu_is Q4 (some 129) 9]) rfl (show mu_is Q4 (some 129) 9 from (u4.1.1.is rfl)) ?_
    rw [(show mu_r Q4 129 6 = (U.2.2.2.1 129 6) from (ud_q (U := V4) (m := m) (P := 129) (j := 6) d4 rfl).trans ((z4.r 129 6 rfl).trans ((z3.r 129 6 rfl).trans ((zza.r 129 6 rfl).trans (z1.r 129 6 rfl)))))]
    refine mw_go mu_g299 (k := 3) (f1 := (53, [(4, .inl (nI i)), (3, .inl (nI (i * W))), (0, .inr (.inr (some 129))), (1, .inl mk), (2, .inl (nI TN))], [.inr (.inr (mu_r Q4 129 0)), .inl (nI (i * W)), .inr (.inr (U.2.2.2.1 129 6)), .inl (0 : Int32), .inr (.inr (some 107))], Q4)) (C := [mu_is Q4 (some 129) 9]) rfl (show mu_is Q4 (some 129) 9 from (u4.1.1.is rfl)) ?_
    rw [(u4.1.1.r (p := 129) (j := 0) (q := 99) rfl)]
    refine mw_go mu_g299 (k := 1) (f1 := (56, [(4, .inl (nI i)), (3, .inl (nI (i * W))), (0, .inr (.inr (some 129))), (1, .inl mk), (2, .inl (nI TN))], [.inr (.inr (mu_r Q4 99 1)), .inl (nI (i * W)), .inr (.inr (U.2.2.2.1 129 6)), .inl (0 : Int32), .inr (.inr (some 107))], Q4)) (C := [mu_is Q4 (some 99) 13]) rfl (show mu_is Q4 (some 99) 13 from (u4.1.1.is rfl)) ?_
    rw [(u4.1.1.r (p := 99) (j := 1) (q := 100) rfl)]
    refine mw_go mu_g299 (k := 1) (f1 := (59, [(4, .inl (nI i)), (3, .inl (nI (i * W))), (0, .inr (.inr (some 129))), (1, .inl mk), (2, .inl (nI TN))], [.inl (mu_i Q4 100 18), .inl (nI (i * W)), .inr (.inr (U.2.2.2.1 129 6)), .inl (0 : Int32), .inr (.inr (some 107))], Q4)) (C := [mu_is Q4 (some 100) 5]) rfl (show mu_is Q4 (some 100) 5 from (u4.1.1.is rfl)) ?_
    rw [(show mu_i Q4 100 18 = (nI ln) from (ud_i (U := V4) (m := m) (P := 100) (j := 18) d4 rfl).trans ((z4.i 100 18 rfl).trans l18))]
    refine mw_copyI (t := 0) rfl (show mu_is Q4 (some 107) 100 from (u4.iA d4 rfl rfl ((ud_q (m := m) (P := 100) (j := 9) d4 rfl).symm.trans (u4.1.1.r (p := 100) (j := 9) (q := 107) rfl)))) (show mu_is Q4 (U.2.2.2.1 129 6) 100 from (u4.iA d4 rfl rfl (show V4.2.2.2.1 129 6 = (U.2.2.2.1 129 6) from ((z4.r 129 6 rfl).trans ((z3.r 129 6 rfl).trans ((zza.r 129 6 rfl).trans (z1.r 129 6 rfl))))))) (by decide) (by decide) (nI_pos (by omega)) (nI_pos (by omega)) (by rw [show mu_n Q4 (mu_p (some 107)) = 1024 from (u4.1.1.a (p := 107) (x := (100, 1024)) rfl).2, (show (0 : Int32).toNatClampNeg = 0 from by decide), (show (nI ln).toNatClampNeg = ln from nI_clamp (by omega))]; omega) (by rw [show mu_n Q4 (mu_p (U.2.2.2.1 129 6)) = (U.2.2.1 129 6).1 from (u4.nA d4 rfl rfl (show V4.2.2.2.1 129 6 = (U.2.2.2.1 129 6) from ((z4.r 129 6 rfl).trans ((z3.r 129 6 rfl).trans ((zza.r 129 6 rfl).trans (z1.r 129 6 rfl))))) (show (V4.2.2.1 129 6).1 = (U.2.2.1 129 6).1 from ((z4.n 129 6 rfl).trans ((z3.n 129 6 rfl).trans ((zza.n 129 6 rfl).trans (z1.n 129 6 rfl)))))), (show (nI (i * W)).toNatClampNeg = i * W from nI_clamp (by omega)), (show (nI ln).toNatClampNeg = ln from nI_clamp (by omega))]; omega) (fun z => by cases z) (by decide) ?_
    rw [(show (0 : Int32).toNatClampNeg = 0 from by decide), (show (nI (i * W)).toNatClampNeg = i * W from nI_clamp (by omega)), (show (nI ln).toNatClampNeg = ln from nI_clamp (by omega))]
    show mu_W _ _ (62, [(4, .inl (nI i)), (3, .inl (nI (i * W))), (0, .inr (.inr (some 129))), (1, .inl mk), (2, .inl (nI TN))], [], (mu_cpi Q4 107 0 (mu_p (U.2.2.2.1 129 6)) (i * W) ln)) _
    obtain ⟨u5, r5, d5⟩ : um m (mu_cpi Q4 107 0 (mu_p (U.2.2.2.1 129 6)) (i * W) ln) ∧ ur m C Q4 (mu_cpi Q4 107 0 (mu_p (U.2.2.2.1 129 6)) (i * W) ln) ∧ ud m (mu_cpi Q4 107 0 (mu_p (U.2.2.2.1 129 6)) (i * W) ln) = (upF V4 129 6 (i * W) (fun i => (V4.2.2.1 100 9).2 (0 + i)) ln) := u4.cA (C := C) d4 rfl rfl ((ud_q (m := m) (P := 100) (j := 9) d4 rfl).symm.trans (u4.1.1.r (p := 100) (j := 9) (q := 107) rfl)) rfl rfl (show V4.2.2.2.1 129 6 = (U.2.2.2.1 129 6) from ((z4.r 129 6 rfl).trans ((z3.r 129 6 rfl).trans ((zza.r 129 6 rfl).trans (z1.r 129 6 rfl)))))
    generalize (mu_cpi Q4 107 0 (mu_p (U.2.2.2.1 129 6)) (i * W) ln) = Q5 at u5 r5 d5 ⊢
    have qf5 : uq F299 U (upF V4 129 6 (i * W) (fun i => (V4.2.2.1 100 9).2 (0 + i)) ln) := qf4.F rfl
    have ht5 : ur m C H Q5 := ht4.trans r5
    refine mw_go mu_g299 (k := 3) (f1 := (67, [(4, .inl (nI i)), (3, .inl (nI (i * W))), (0, .inr (.inr (some 129))), (1, .inl mk), (2, .inl (nI TN))], [.inr (.inr (mu_r Q5 129 0)), .inl (nI (i * W))], Q5)) (C := [mu_is Q5 (some 129) 9]) rfl (show mu_is Q5 (some 129) 9 from (u5.1.1.is rfl)) ?_
    rw [(u5.1.1.r (p := 129) (j := 0) (q := 99) rfl)]
    refine mw_go mu_g299 (k := 1) (f1 := (70, [(4, .inl (nI i)), (3, .inl (nI (i * W))), (0, .inr (.inr (some 129))), (1, .inl mk), (2, .inl (nI TN))], [.inr (.inr (mu_r Q5 99 1)), .inl (nI (i * W))], Q5)) (C := [mu_is Q5 (some 99) 13]) rfl (show mu_is Q5 (some 99) 13 from (u5.1.1.is rfl)) ?_
    rw [(u5.1.1.r (p := 99) (j := 1) (q := 100) rfl)]
    refine mw_go mu_g299 (k := 1) (f1 := (73, [(4, .inl (nI i)), (3, .inl (nI (i * W))), (0, .inr (.inr (some 129))), (1, .inl mk), (2, .inl (nI TN))], [.inl (mu_i Q5 100 18), .inl (nI (i * W))], Q5)) (C := [mu_is Q5 (some 100) 5]) rfl (show mu_is Q5 (some 100) 5 from (u5.1.1.is rfl)) ?_
    rw [(show mu_i Q5 100 18 = (nI ln) from (ud_i (U := (upF V4 129 6 (i * W) (fun i => (V4.2.2.1 100 9).2 (0 + i)) ln)) (m := m) (P := 100) (j := 18) d5 rfl).trans ((z4.i 100 18 rfl).trans l18))]
    refine mw_go mu_g299 (k := 1) (f1 := (74, [(4, .inl (nI i)), (3, .inl (nI (i * W))), (0, .inr (.inr (some 129))), (1, .inl mk), (2, .inl (nI TN))], [.inl ((nI (i * W)) + (nI ln))], Q5)) (C := []) rfl trivial ?_
    rw [(show ((nI (i * W)) + (nI ln)) = (nI ((i * W) + ln)) from (nI_add (i * W) ln))]
    refine mw_go mu_g299 (k := 1) (f1 := (75, [(3, .inl (nI ((i * W) + ln))), (4, .inl (nI i)), (0, .inr (.inr (some 129))), (1, .inl mk), (2, .inl (nI TN))], [], Q5)) (C := []) rfl trivial ?_
    have hsm : (i + 1) * W = i * W + W := Nat.succ_mul i W
    rw [show (nI ((i * W) + ln)) = nI (mwz W T0 (i + 1)) from congrArg nI (by rw [mwz_eq]; omega)]
    refine mw_go mu_g299 (k := 2) (f1 := (79, [(3, .inl (nI (mwz W T0 (i + 1)))), (4, .inl (nI i)), (0, .inr (.inr (some 129))), (1, .inl mk), (2, .inl (nI TN))], [.inr (.inr (mu_r Q5 129 0))], Q5)) (C := [mu_is Q5 (some 129) 9]) rfl (show mu_is Q5 (some 129) 9 from (u5.1.1.is rfl)) ?_
    rw [(u5.1.1.r (p := 129) (j := 0) (q := 99) rfl)]
    refine mw_go mu_g299 (k := 1) (f1 := (82, [(3, .inl (nI (mwz W T0 (i + 1)))), (4, .inl (nI i)), (0, .inr (.inr (some 129))), (1, .inl mk), (2, .inl (nI TN))], [.inr (.inr (mu_r Q5 99 1))], Q5)) (C := [mu_is Q5 (some 99) 13]) rfl (show mu_is Q5 (some 99) 13 from (u5.1.1.is rfl)) ?_
    rw [(u5.1.1.r (p := 99) (j := 1) (q := 100) rfl)]
    have hTDt : TRD (upF V4 129 6 (i * W) (fun i => (V4.2.2.1 100 9).2 (0 + i)) ln) Y P f od a0 N0 i0 mk T0 W i := hTD.keep (show ((upF V4 129 6 (i * W) (fun i => (V4.2.2.1 100 9).2 (0 + i)) ln).1 21) = (V3.1 21) from (z4.t 21 rfl)) (show ((upF V4 129 6 (i * W) (fun i => (V4.2.2.1 100 9).2 (0 + i)) ln).1 22) = (V3.1 22) from (z4.t 22 rfl)) (show ((upF V4 129 6 (i * W) (fun i => (V4.2.2.1 100 9).2 (0 + i)) ln).1 15) = (V3.1 15) from (z4.t 15 rfl)) (show ((upF V4 129 6 (i * W) (fun i => (V4.2.2.1 100 9).2 (0 + i)) ln).2.2.1 100 3) = (V3.2.2.1 100 3) from (z4.a 100 3 rfl)) (show ((upF V4 129 6 (i * W) (fun i => (V4.2.2.1 100 9).2 (0 + i)) ln).2.1 100 5) = (V3.2.1 100 5) from (z4.i 100 5 rfl)) (show ((upF V4 129 6 (i * W) (fun i => (V4.2.2.1 100 9).2 (0 + i)) ln).2.1 100 7) = (V3.2.1 100 7) from (z4.i 100 7 rfl)) (show ((upF V4 129 6 (i * W) (fun i => (V4.2.2.1 100 9).2 (0 + i)) ln).2.1 100 17) = (V3.2.1 100 17) from (z4.i 100 17 rfl)) (show ((upF V4 129 6 (i * W) (fun i => (V4.2.2.1 100 9).2 (0 + i)) ln).2.1 100 4) = (V3.2.1 100 4) from (z4.i 100 4 rfl)) (show ((upF V4 129 6 (i * W) (fun i => (V4.2.2.1 100 9).2 (0 + i)) ln).2.1 100 18) = (V3.2.1 100 18) from (z4.i 100 18 rfl)) (show ((upF V4 129 6 (i * W) (fun i => (V4.2.2.1 100 9).2 (0 + i)) ln).2.1 100 19) = (V3.2.1 100 19) from (z4.i 100 19 rfl)) (show ((upF V4 129 6 (i * W) (fun i => (V4.2.2.1 100 9).2 (0 + i)) ln).2.1 100 20) = (V3.2.1 100 20) from (z4.i 100 20 rfl)) (show ((upF V4 129 6 (i * W) (fun i => (V4.2.2.1 100 9).2 (0 + i)) ln).2.2.1 100 8) = (V3.2.2.1 100 8) from (z4.a 100 8 rfl)) (show ((upF V4 129 6 (i * W) (fun i => (V4.2.2.1 100 9).2 (0 + i)) ln).2.2.1 100 12).1 = (V3.2.2.1 100 12).1 from (z4.n 100 12 rfl)) (show ((upF V4 129 6 (i * W) (fun i => (V4.2.2.1 100 9).2 (0 + i)) ln).2.2.1 100 13).1 = (V3.2.2.1 100 13).1 from (z4.n 100 13 rfl)) (show ((upF V4 129 6 (i * W) (fun i => (V4.2.2.1 100 9).2 (0 + i)) ln).2.2.1 100 15).1 = (V3.2.2.1 100 15).1 from (z4.n 100 15 rfl)) (show ((upF V4 129 6 (i * W) (fun i => (V4.2.2.1 100 9).2 (0 + i)) ln).2.2.1 99 8) = (V3.2.2.1 99 8) from (z4.a 99 8 rfl))
    have hMt := (show MCS (upF V4 129 6 (i * W) (fun i => (V4.2.2.1 100 9).2 (0 + i)) ln) from ⟨by rw [(show ((upF V4 129 6 (i * W) (fun i => (V4.2.2.1 100 9).2 (0 + i)) ln).1 22) = (V3.1 22) from (z4.t 22 rfl))]; exact hMu.1, by rw [(show ((upF V4 129 6 (i * W) (fun i => (V4.2.2.1 100 9).2 (0 + i)) ln).2.2.1 100 3).1 = (V3.2.2.1 100 3).1 from (z4.n 100 3 rfl))]; exact hMu.2.1, by rw [(show ((upF V4 129 6 (i * W) (fun i => (V4.2.2.1 100 9).2 (0 + i)) ln).2.2.1 100 8).1 = (V3.2.2.1 100 8).1 from (z4.n 100 8 rfl))]; exact hMu.2.2.1, by rw [(show ((upF V4 129 6 (i * W) (fun i => (V4.2.2.1 100 9).2 (0 + i)) ln).2.2.1 100 12).1 = (V3.2.2.1 100 12).1 from (z4.n 100 12 rfl))]; exact hMu.2.2.2.1, by rw [(show ((upF V4 129 6 (i * W) (fun i => (V4.2.2.1 100 9).2 (0 + i)) ln).2.2.1 100 13).1 = (V3.2.2.1 100 13).1 from (z4.n 100 13 rfl))]; exact hMu.2.2.2.2.1, by rw [(show ((upF V4 129 6 (i * W) (fun i => (V4.2.2.1 100 9).2 (0 + i)) ln).2.2.1 100 15).1 = (V3.2.2.1 100 15).1 from (z4.n 100 15 rfl))]; exact hMu.2.2.2.2.2⟩)
    have hKt : KNV m (upF V4 129 6 (i * W) (fun i => (V4.2.2.1 100 9).2 (0 + i)) ln) Y P f od es := hKu.q (show uq F299 _ _ from ((uq.mono z4 rfl).F rfl)) rfl
    refine mw_cV (fun _ => rfl) (show mu_is Q5 (some 100) 5 from (u5.1.1.is rfl)) (mc_turnT (d := (d + 1)) (C := C) u5 d5 hKt hMt hTDt hiW (by omega)) (fun Q6 q6 => ?_)
    obtain ⟨u6, r6, z6, hKn, hMn, hTRn⟩ := q6
    have ht6 : ur m C H Q6 := ht5.trans r6
    obtain ⟨V6, d6⟩ : ∃ V, ud m Q6 = V := ⟨_, rfl⟩
    rw [d6] at z6 hKn hMn hTRn
    have qf6 : uq F299 U V6 := qf5.tr z6 rfl
    refine mw_go mu_g299 (k := 1) (f1 := (88, [(4, .inl ((nI i) + 1)), (3, .inl (nI (mwz W T0 (i + 1)))), (0, .inr (.inr (some 129))), (1, .inl mk), (2, .inl (nI TN))], [], Q6)) (C := []) rfl trivial ?_
    rw [(show ((nI i) + 1) = (nI (i + 1)) from (nI_add i 1))]
    refine mw_go mu_g299 (k := 1) (f1 := (17, [(4, .inl (nI (i + 1))), (3, .inl (nI (mwz W T0 (i + 1)))), (0, .inr (.inr (some 129))), (1, .inl mk), (2, .inl (nI TN))], [], Q6)) (C := []) rfl trivial ?_
    exact mw_sub (by simp) (iha (i + 1, Q6) ⟨u6, ht6, (show uq F299a V1 (ud m Q6) from by rw [d6]; exact ((((zza.tr z3 rfl).tr z4 rfl).F rfl).tr z6 rfl)), (show (i + 1) ≤ TN from (by omega)), (show KNV m (ud m Q6) Y P f od es from by rw [d6]; exact hKn), (show MCS (ud m Q6) from by rw [d6]; exact hMn), (show TRN (ud m Q6) Y P f od a0 N0 i0 mk T0 W (i + 1) from by rw [d6]; exact hTRn), (show ∀ c, c < min ((i + 1) * W) T0 → ((ud m Q6).2.2.1 129 6).2 c = trz Y U f mk od i0 a0 N0 c from by rw [d6]; exact (fun c hc => by rw [(show (V6.2.2.1 129 6) = ((upF V4 129 6 (i * W) (fun i => (V4.2.2.1 100 9).2 (0 + i)) ln).2.2.1 129 6) from (z6.a 129 6 rfl))]; exact part_step (V := V4) (i := i * W) (l := ln) (c := c) (T := trz Y U f mk od i0 a0 N0) (by omega) (fun y => (congrFun (congrArg Prod.snd (show (V4.2.2.1 129 6) = (Va.2.2.1 129 6) from ((z4.a 129 6 rfl).trans (z3.a 129 6 rfl)))) c).trans (hRO c (by omega))) (fun j hj => hres2 j hj)))⟩ (by show TN - (i + 1) < TN - i; omega))
  · -- 91: not (nI i) < (nI TN)
    have nh2 : ¬ i < TN := fun z => h2 (show nI i < nI TN from (nI_ltI (by omega) (by omega)).mpr z)
    have hge : T0 ≤ i * W := turns_ge w1 (by rw [← hTN]; exact nh2)
    refine mw_go mu_g299 (k := 4) (f1 := (97, [(4, .inl (nI i)), (3, .inl (nI (mwz W T0 i))), (0, .inr (.inr (some 129))), (1, .inl mk), (2, .inl (nI TN))], [.inr (.inr (mu_r Hsa 129 6)), .inl mk, .inr (.inr (some 129))], Hsa)) (C := [mu_is Hsa (some 129) 9]) rfl (show mu_is Hsa (some 129) 9 from (ua.1.1.is rfl)) ?_
    rw [(show mu_r Hsa 129 6 = (U.2.2.2.1 129 6) from (ud_q (U := Va) (m := m) (P := 129) (j := 6) da rfl).trans ((zza.r 129 6 rfl).trans (z1.r 129 6 rfl)))]
    refine mw_go mu_g299 (k := 1) (f1 := (98, [(4, .inl (nI i)), (3, .inl (nI (mwz W T0 i))), (0, .inr (.inr (some 129))), (1, .inl mk), (2, .inl (nI TN))], [.inl (0 : Int32), .inr (.inr (U.2.2.2.1 129 6)), .inl mk, .inr (.inr (some 129))], Hsa)) (C := []) rfl trivial ?_
    have hkyv : ∀ t, t < pd f 0 P → tru Y U f P od i0 a0 N0 t = (Va.2.2.1 129 6).2 (0 + pj mk f P P t) := fun t ht => by rw [Nat.zero_add, hRO _ (by have y := hpj t ht; omega)]; exact (LDW.tru hK hl hmk hnx hi0 hr0 ht).symm
    refine mw_cV (fun _ => rfl) (show mu_is Hsa (some 129) 9 from (ua.1.1.is rfl)) (by have q := rl_refine6 (d := (d + 3)) (C := C) (kb := kb) (bs := 0) (mk := mk) (ky := fun t => tru Y U f P od i0 a0 N0 t) ua da (spx_keep hK.1 (show (Va.2.1 99 4) = (U.2.1 99 4) from ((zza.i 99 4 rfl).trans (z1.i 99 4 rfl))) (show (Va.2.1 99 10) = (U.2.1 99 10) from ((zza.i 99 10 rfl).trans (z1.i 99 10 rfl))) (show (Va.2.1 99 11) = (U.2.1 99 11) from ((zza.i 99 11 rfl).trans (z1.i 99 11 rfl))) (show (Va.2.1 99 12) = (U.2.1 99 12) from ((zza.i 99 12 rfl).trans (z1.i 99 12 rfl))) (show (Va.2.2.1 99 5) = (U.2.2.1 99 5) from ((zza.a 99 5 rfl).trans (z1.a 99 5 rfl))) (show (Va.2.2.1 99 7) = (U.2.2.1 99 7) from ((zza.a 99 7 rfl).trans (z1.a 99 7 rfl))) (show (Va.2.2.1 99 6) = (U.2.2.1 99 6) from ((zza.a 99 6 rfl).trans (z1.a 99 6 rfl))) (show (Va.2.2.1 99 8).1 = (U.2.2.1 99 8).1 from ((zza.n 99 8 rfl).trans (z1.n 99 8 rfl))) (show (Va.2.2.1 99 18).1 = (U.2.2.1 99 18).1 from ((zza.n 99 18 rfl).trans (z1.n 99 18 rfl))) (show (Va.2.2.2.1 100 0) = (U.2.2.2.1 100 0) from ((zza.r 100 0 rfl).trans (z1.r 100 0 rfl))) (show (Va.2.2.2.1 99 0) = (U.2.2.2.1 99 0) from ((zza.r 99 0 rfl).trans (z1.r 99 0 rfl)))) (by rw [(show (Va.2.2.1 129 7).1 = (U.2.2.1 129 7).1 from ((zza.n 129 7 rfl).trans (z1.n 129 7 rfl)))]; exact h7) (by rw [(show (Va.2.2.1 129 7).1 = (U.2.2.1 129 7).1 from ((zza.n 129 7 rfl).trans (z1.n 129 7 rfl)))]; exact h7b) (by rw [(show (Va.2.2.1 129 8).1 = (U.2.2.1 129 8).1 from ((zza.n 129 8 rfl).trans (z1.n 129 8 rfl)))]; exact h8) (by rw [(show (Va.2.2.1 129 8).1 = (U.2.2.1 129 8).1 from ((zza.n 129 8 rfl).trans (z1.n 129 8 rfl)))]; exact h8b) (by rw [(show (Va.2.2.1 129 9).1 = (U.2.2.1 129 9).1 from ((zza.n 129 9 rfl).trans (z1.n 129 9 rfl)))]; exact h9) hkb hTb hkyv (by rw [(show (Va.2.2.1 129 6).1 = (U.2.2.1 129 6).1 from ((zza.n 129 6 rfl).trans (z1.n 129 6 rfl)))]; omega) (by rw [(show (Va.2.2.1 129 6).1 = (U.2.2.1 129 6).1 from ((zza.n 129 6 rfl).trans (z1.n 129 6 rfl)))]; exact h6b) trivial; rw [(show (Va.2.2.2.1 129 6) = (U.2.2.2.1 129 6) from ((zza.r 129 6 rfl).trans (z1.r 129 6 rfl)))] at q; exact q) (fun Q7 q7 => ?_)
    obtain ⟨u7, r7, z7, hCL⟩ := q7
    have ht7 : ur m C H Q7 := hta.trans r7
    obtain ⟨V7, d7⟩ : ∃ V, ud m Q7 = V := ⟨_, rfl⟩
    rw [d7] at z7 hCL
    have qf7 : uq F299 U V7 := qfa.tr z7 rfl
    have hMe := (show MCS V7 from ⟨by rw [(show (V7.1 22) = (Va.1 22) from (z7.t 22 rfl))]; exact hMa.1, by rw [(show (V7.2.2.1 100 3).1 = (Va.2.2.1 100 3).1 from (z7.n 100 3 rfl))]; exact hMa.2.1, by rw [(show (V7.2.2.1 100 8).1 = (Va.2.2.1 100 8).1 from (z7.n 100 8 rfl))]; exact hMa.2.2.1, by rw [(show (V7.2.2.1 100 12).1 = (Va.2.2.1 100 12).1 from (z7.n 100 12 rfl))]; exact hMa.2.2.2.1, by rw [(show (V7.2.2.1 100 13).1 = (Va.2.2.1 100 13).1 from (z7.n 100 13 rfl))]; exact hMa.2.2.2.2.1, by rw [(show (V7.2.2.1 100 15).1 = (Va.2.2.1 100 15).1 from (z7.n 100 15 rfl))]; exact hMa.2.2.2.2.2⟩)
    have hle : LDW V7 Y P f od a0 N0 i0 := (hTRa.ldw hK.2.1).keep (show (V7.1 21) = (Va.1 21) from (z7.t 21 rfl)) (show (V7.1 22) = (Va.1 22) from (z7.t 22 rfl)) (show (V7.1 15) = (Va.1 15) from (z7.t 15 rfl)) (show (V7.2.2.1 100 3) = (Va.2.2.1 100 3) from (z7.a 100 3 rfl)) (show (V7.2.1 100 5) = (Va.2.1 100 5) from (z7.i 100 5 rfl)) (show (V7.2.1 100 7) = (Va.2.1 100 7) from (z7.i 100 7 rfl)) (show (V7.2.1 100 17) = (Va.2.1 100 17) from (z7.i 100 17 rfl)) (show (V7.2.1 100 4) = (Va.2.1 100 4) from (z7.i 100 4 rfl)) (show (V7.2.2.1 100 8) = (Va.2.2.1 100 8) from (z7.a 100 8 rfl)) (show (V7.2.2.1 100 12).1 = (Va.2.2.1 100 12).1 from (z7.n 100 12 rfl)) (show (V7.2.2.1 100 13).1 = (Va.2.2.1 100 13).1 from (z7.n 100 13 rfl)) (show (V7.2.2.1 100 15).1 = (Va.2.2.1 100 15).1 from (z7.n 100 15 rfl)) (show (V7.2.2.1 99 8) = (Va.2.2.1 99 8) from (z7.a 99 8 rfl))
    exact mw_of (fun _ => mu_ret rfl trivial ⟨Q7, rfl, u7, ht7, (by rw [d7]; exact qf7), (by rw [d7]; exact ⟨hK.q qf7 rfl, hMe, hle, CLS_base hCL (show (Va.2.2.1 129 7) = (U.2.2.1 129 7) from ((zza.a 129 7 rfl).trans (z1.a 129 7 rfl))) (fun _ _ => rfl)⟩)⟩)
end PartBy
