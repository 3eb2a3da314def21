/-! RELATION: partByInputs -/
/-- the first j pieces are alike in two STATES -/
def PTE (t3 : Tb) (Y : Ts) (U : Ud) (f : Nat → Nat) (P : Nat) (od : Nat → Nat) (j s s' : Nat) : Prop := ∀ r, r < j → ∀ b nb i1, b + nb ≤ (Y 0).1 → i1 < (Y 11).1 → t3.2 r 0 = nI b → t3.2 r 1 = nI (b + nb) → t3.2 r 2 = nI i1 → tru Y U f P od i1 b nb s = tru Y U f P od i1 b nb s'
/-- classes, and what STATES of one class have in common -/
def CLJ (V : Ud) (T : Nat) (R : Nat → Nat → Prop) : Prop := ∃ cl : Nat → Nat, (∀ t, t < T → (V.2.2.1 129 7).2 t = nI (cl t) ∧ cl t ≤ T) ∧ ∀ s s', s < T → s' < T → cl s = cl s' → R s s'
section PartInW
variable {H : mu_H} {U V V1 : Ud} {m d P nw kb T j k i0 a N : Nat} {C : Nat → Nat} {Y : Ts} {f od wa wn wi : Nat → Nat} {wk : Nat → Bool} {es : Nat → Int32} {R R' : Nat → Nat → Prop} {ky : Nat → Int32} {t3 : Tb} {x y : Int32} {s s' B : Nat}
theorem tru_same (h15 : V.1 15 = U.1 15) (h8 : V.2.2.1 99 8 = U.2.2.1 99 8) : tru Y V f P od i0 a N s = tru Y U f P od i0 a N s := by
  unfold tru
  rw [vst_same (f := f) (P := P) (s := s) h15 h8]
theorem EQT.same (h : EQT Y V f P od t3 i0 a N) (h15 : V.1 15 = U.1 15) (h8 : V.2.2.1 99 8 = U.2.2.1 99 8) : EQT Y U f P od t3 i0 a N := fun s s' hs t => by
  have y := h s s' (fun b nb hb => by rw [tru_same h15 h8, tru_same h15 h8]; exact hs b nb hb) t
  rw [trs_same h15 h8, trs_same h15 h8] at y
  exact y
theorem mb_orand (hj : j < 14) : (¬ mb (x ||| (y &&& (16383 : Int32))) j = 0) ↔ (¬ mb x j = 0 ∨ ¬ mb y j = 0) := by
  have key : ∀ j : Fin 14, (16383 : Int32).toBitVec.getLsbD j.1 = true := by decide
  rw [mb_bit _ j (by omega), mb_bit x j (by omega), mb_bit y j (by omega), Int32.toBitVec_or, Int32.toBitVec_and, BitVec.getLsbD_or, BitVec.getLsbD_and, key ⟨j, hj⟩, Bool.and_true, Bool.or_eq_true]
theorem CLJ.mono (h : CLJ V T R) (hR : ∀ s s', s < T → s' < T → R s s' → R' s s') : CLJ V T R' := by
  obtain ⟨cl, h1, h2⟩ := h
  exact ⟨cl, h1, fun s s' hs hs' hc => hR s s' hs hs' (h2 s s' hs hs' hc)⟩
theorem CLJ.same (h : CLJ V T R) (e : V1.2.2.1 129 7 = V.2.2.1 129 7) : CLJ V1 T R := by
  unfold CLJ at *
  rw [e]
  exact h
theorem CLJ.cls (h : CLJ V T R) (hT : T ≤ 16384) (hC : CLS V V1 T ky) (hR : ∀ s s', s < T → s' < T → R s s' → ky s = ky s' → R' s s') : CLJ V1 T R' := by
  obtain ⟨cl, h1, h2⟩ := h
  obtain ⟨cn, c1, c2⟩ := hC
  refine ⟨cn, fun t ht => ⟨(c1 t ht).1, Nat.le_of_lt (c1 t ht).2⟩, fun s s' hs hs' hc => ?_⟩
  obtain ⟨w1, w2⟩ := (c2 s s' hs hs').mp hc
  rw [(h1 s hs).1, (h1 s' hs').1] at w1
  have w3 : cl s = cl s' := nI_inj (by have := (h1 s hs).2; omega) (by have := (h1 s' hs').2; omega) w1
  exact hR s s' hs hs' (h2 s s' hs hs' w3) w2
theorem PTE.next (h : PTE t3 Y U f P od j s s') {b nb i1 : Nat} (hb : b + nb ≤ (Y 0).1) (hi : i1 < (Y 11).1) (hY0 : (Y 0).1 ≤ 67108864) (hY11 : (Y 11).1 ≤ 67108864) (e0 : t3.2 j 0 = nI b) (e1 : t3.2 j 1 = nI (b + nb)) (e2 : t3.2 j 2 = nI i1) (he : tru Y U f P od i1 b nb s = tru Y U f P od i1 b nb s') : PTE t3 Y U f P od (j + 1) s s' := by
  intro r hr b' nb' i1' hb' hi' w0 w1 w2
  by_cases e : r = j
  · rw [e] at w0 w1 w2
    have x0 : b' = b := nI_inj (by omega) (by omega) (w0.symm.trans e0)
    have x1 : b' + nb' = b + nb := nI_inj (by omega) (by omega) (w1.symm.trans e1)
    have x2 : i1' = i1 := nI_inj (by omega) (by omega) (w2.symm.trans e2)
    have x3 : nb' = nb := by omega
    rw [x0, x2, x3]
    exact he
  · exact h r (by omega) b' nb' i1' hb' hi' w0 w1 w2
theorem PTE.eqt (h : PTE t3 Y U f P od t3.1 s s') (he : EQT Y U f P od t3 i0 a N) (hi : i0 < (Y 11).1) (t : Nat) : trs Y U f P od i0 a N s t = trs Y U f P od i0 a N s' t := he s s' (fun b nb ⟨rb, r, r1, r2, r3, r4⟩ => h r r1 b nb i0 rb hi r2 r3 r4) t
def F293 : Uf := ⟨[21, 22, 18, 23], [(100, 4), (100, 5), (100, 6), (100, 7), (100, 17), (100, 18), (100, 21), (100, 19), (100, 20), (100, 14), (100, 16)], [(100, 3), (100, 8), (100, 12), (100, 13), (100, 15), (100, 9), (100, 10), (100, 11), (129, 6), (99, 18), (129, 7), (129, 8), (129, 9)], [(100, 3), (100, 8), (100, 12), (100, 13), (100, 15)], [], false⟩
theorem sm_up {g : Nat → Nat} {n n' : Nat} (h : n ≤ n') : sm g 0 n ≤ sm g 0 n' := by
  induction n' with
  | zero => rw [Nat.le_zero.mp h]; exact Nat.le_refl _
  | succ n' ih =>
    by_cases e : n = n' + 1
    · rw [e]; exact Nat.le_refl _
    · exact Nat.le_trans (ih (by omega)) (Nat.le_add_right _ _)
def F293a : Uf := ⟨[21, 22, 18, 23], [(100, 4), (100, 5), (100, 6), (100, 7), (100, 17)], [(100, 3), (100, 8), (100, 12), (100, 13), (100, 15)], [(100, 3), (100, 8), (100, 12), (100, 13), (100, 15)], [], false⟩
def F293b : Uf := ⟨[21, 22], [(100, 4), (100, 5), (100, 6), (100, 7), (100, 17), (100, 18), (100, 21), (100, 19), (100, 20), (100, 14), (100, 16)], [(100, 3), (100, 8), (100, 12), (100, 13), (100, 15), (100, 9), (100, 10), (100, 11), (129, 6), (99, 18), (129, 7), (129, 8), (129, 9)], [(100, 3), (100, 8), (100, 12), (100, 13), (100, 15)], [], false⟩
/-- PathProver$Relation.partByInputs()V -/
abbrev mu_m293 : ev_M := (3, none, [], ev_b293)
theorem mu_g293 : mu_good mu_m293 := mu_goodk ev_k293
theorem rl_partIn (h : um m H) (e : ud m H = U) (hK : KNV m U Y P f od es) (hM : MCS U) (hL : MLW U Y P f od) (hWD : WIDw Y es P (U.1 15) (U.1 25) nw wa wn wi wk) (hTx : ∀ r, r < nw → (U.1 25).2 r 3 = -1 → ∃ q, q < wn r ∧ oc Y (wa r + q) = 3) (hB : sm wn 0 nw ≤ B) {cl0 : Nat → Nat} (hcl0 : ∀ t, t < pd f 0 P → (U.2.2.1 129 7).2 t = nI (cl0 t) ∧ cl0 t ≤ pd f 0 P) (hC21 : 2 * (((Y 13).1 + 2) * 4) + 4 ≤ C 21) (hC21b : C 21 ≤ 8388608) (hC23 : 10 * (B + 14000 + 1) + 5 ≤ C 23) (hC23b : C 23 ≤ 8388608) (hC18 : 4 * 14001 + 2 ≤ C 18) (hC18b : C 18 ≤ 8388608) (h6 : pd f 0 P ≤ (U.2.2.1 129 6).1) (h6b : (U.2.2.1 129 6).1 ≤ 16777216) (h7 : pd f 0 P ≤ (U.2.2.1 129 7).1) (h7b : (U.2.2.1 129 7).1 ≤ 16777216) (h8 : 2 * pd f 0 P ≤ (U.2.2.1 129 8).1) (h8b : (U.2.2.1 129 8).1 ≤ 16777216) (h9 : (U.2.2.1 129 9).1 = 2 ^ kb) (hkb : kb ≤ 15) (hTb : pd f 0 P < 2 ^ kb) : mu_TV (mu_D (d + 8)) 293 [.inr (.inr (some 129))] H (fun H1 => um m H1 ∧ ur m C H H1 ∧ uq F293 U (ud m H1) ∧ KNV m (ud m H1) Y P f od es ∧ MCS (ud m H1) ∧ MLW (ud m H1) Y P f od ∧ CLJ (ud m H1) (pd f 0 P) (fun s s' => (U.2.2.1 129 7).2 s = (U.2.2.1 129 7).2 s' ∧ ∀ r, r < nw → (U.1 25).2 r 3 = -1 → ∀ t, trs Y U f P od (wi r) (wa r) (wn r) s t = trs Y U f P od (wi r) (wa r) (wn r) s' t)) := by
  obtain ⟨⟨s4, s10, s11, s12⟩, hk5, ⟨g8, g8b, g18, g18b⟩, ⟨gP, gpd, gsm⟩, hsp, hmo'⟩ := id hK.1
  have hmo : U.2.2.2.1 99 0 = some m := hmo'
  have hnw := hWD.1.1
  have hnwb := hWD.1.2
  have hCc : Cc Y := hK.2.2.2.1.1.2.2.2.2.2.1.2
  have hYb := hK.2.2.2.1.2.2.2.1
  have hY11 := hK.2.2.2.1.1.2.2.2.2.2.2 11 (by decide)
  have hY15 := hK.2.2.2.1.1.2.2.2.2.2.2 15 (by decide)
  refine mu_meth (M := mu_m293) rfl rfl ?_
  refine mw_ht (mu_fn_of (show [0].Nodup by decide)) ?_
  refine mw_go mu_g293 (k := 2) (f1 := (4, [(0, .inr (.inr (some 129)))], [.inr (.inr (mu_r H 129 2))], H)) (C := [mu_is H (some 129) 9]) rfl (show mu_is H (some 129) 9 from (h.1.1.is rfl)) ?_
  rw [(h.1.1.r (p := 129) (j := 2) (q := 118) rfl)]
  refine mw_cV (fun _ => rfl) (show mu_is H (some 118) 10 from (h.1.1.is rfl)) (h.clearr (C := C) (d := (d + 6)) e (j := 23) (Or.inr ⟨by decide, by decide⟩) rfl) (fun Q1 q1 => ?_)
  obtain ⟨u1, r1, d1⟩ := q1
  have ht1 : ur m C H Q1 := (ur.refl m C H).trans r1
  have qf1 : uq F293 U (upT U (ac 23 U.1 0)) := (uq.refl F293 U).ac rfl
  refine mw_go mu_g293 (k := 4) (f1 := (11, [(2, .inl (0 : Int32)), (1, .inl (0 : Int32)), (0, .inr (.inr (some 129)))], [], Q1)) (C := []) rfl trivial ?_
  show mu_W _ _ (11, [(2, .inl (nI 0)), (1, .inl (0 : Int32)), (0, .inr (.inr (some 129)))], [], Q1) _
  refine mw_sub (L' := [(2, .inl (nI 0)), (1, .inl (0 : Int32)), (0, .inr (.inr (some 129)))]) (by simp) ?_
  refine mw_down (α := Nat × Int32 × mu_H) (fun zs => (11, [(2, .inl (nI zs.1)), (1, .inl zs.2.1), (0, .inr (.inr (some 129)))], [], zs.2.2)) (fun zs => nw - zs.1) (fun zs => um m zs.2.2 ∧ ur m C H zs.2.2 ∧ (uq F293a (upT U (ac 23 U.1 0)) (ud m zs.2.2)) ∧ (zs.1 ≤ nw) ∧ (KNV m (ud m zs.2.2) Y P f od es) ∧ (MCS (ud m zs.2.2)) ∧ (MLW (ud m zs.2.2) Y P f od) ∧ (((ud m zs.2.2).1 23).1 ≤ sm wn 0 zs.1) ∧ (VLA ((ud m zs.2.2).1 23) Y es) ∧ (∀ r, r < zs.1 → (U.1 25).2 r 3 = -1 → EQT Y U f P od ((ud m zs.2.2).1 23) (wi r) (wa r) (wn r)) ∧ (∀ r, r < zs.1 → (U.1 25).2 r 3 = -1 → ∀ s s', (∀ j, j < P → ¬ mb zs.2.1 j = 0 → dgz f P s j = dgz f P s' j) → ∀ t, trs Y U f P od (wi r) (wa r) (wn r) s t = trs Y U f P od (wi r) (wa r) (wn r) s' t)) (fun zs hza iha => ?_) (0, (0 : Int32), Q1) ⟨u1, ht1, (show uq F293a (upT U (ac 23 U.1 0)) (ud m Q1) from by rw [d1]; exact uq.refl _ _), (show 0 ≤ nw from (by omega)), (show KNV m (ud m Q1) Y P f od es from by rw [d1]; exact (hK.q (show uq F293 U _ from (uq.refl F293 U).ac rfl) rfl)), (show MCS (ud m Q1) from by rw [d1]; exact (show MCS (upT U (ac 23 U.1 0)) from ⟨by rw [(show ((upT U (ac 23 U.1 0)).1 22) = (U.1 22) from rfl)]; exact hM.1, by rw [(show ((upT U (ac 23 U.1 0)).2.2.1 100 3).1 = (U.2.2.1 100 3).1 from rfl)]; exact hM.2.1, by rw [(show ((upT U (ac 23 U.1 0)).2.2.1 100 8).1 = (U.2.2.1 100 8).1 from rfl)]; exact hM.2.2.1, by rw [(show ((upT U (ac 23 U.1 0)).2.2.1 100 12).1 = (U.2.2.1 100 12).1 from rfl)]; exact hM.2.2.2.1, by rw [(show ((upT U (ac 23 U.1 0)).2.2.1 100 13).1 = (U.2.2.1 100 13).1 from rfl)]; exact hM.2.2.2.2.1, by rw [(show ((upT U (ac 23 U.1 0)).2.2.1 100 15).1 = (U.2.2.1 100 15).1 from rfl)]; exact hM.2.2.2.2.2⟩)), (show MLW (ud m Q1) Y P f od from by rw [d1]; exact (show MLW (upT U (ac 23 U.1 0)) Y P f od from hL.imp (fun y => by rw [(show ((upT U (ac 23 U.1 0)).1 21) = (U.1 21) from rfl)]; exact y) (fun ⟨a0, N0, i0, y1, y2, y3⟩ => ⟨a0, N0, i0, y1, y2, y3.keep (show ((upT U (ac 23 U.1 0)).1 21) = (U.1 21) from rfl) (show ((upT U (ac 23 U.1 0)).1 22) = (U.1 22) from rfl) (show ((upT U (ac 23 U.1 0)).1 15) = (U.1 15) from rfl) (show ((upT U (ac 23 U.1 0)).2.2.1 100 3) = (U.2.2.1 100 3) from rfl) (show ((upT U (ac 23 U.1 0)).2.1 100 5) = (U.2.1 100 5) from rfl) (show ((upT U (ac 23 U.1 0)).2.1 100 7) = (U.2.1 100 7) from rfl) (show ((upT U (ac 23 U.1 0)).2.1 100 17) = (U.2.1 100 17) from rfl) (show ((upT U (ac 23 U.1 0)).2.1 100 4) = (U.2.1 100 4) from rfl) (show ((upT U (ac 23 U.1 0)).2.2.1 100 8) = (U.2.2.1 100 8) from rfl) (show ((upT U (ac 23 U.1 0)).2.2.1 100 12).1 = (U.2.2.1 100 12).1 from rfl) (show ((upT U (ac 23 U.1 0)).2.2.1 100 13).1 = (U.2.2.1 100 13).1 from rfl) (show ((upT U (ac 23 U.1 0)).2.2.1 100 15).1 = (U.2.2.1 100 15).1 from rfl) (show ((upT U (ac 23 U.1 0)).2.2.1 99 8) = (U.2.2.1 99 8) from rfl)⟩))), (show ((ud m Q1).1 23).1 ≤ sm wn 0 0 from by rw [d1]; exact (by show 0 ≤ _; omega)), (show VLA ((ud m Q1).1 23) Y es from by rw [d1]; exact (fun r hr => absurd hr (Nat.not_lt_zero r))), (show ∀ r, r < 0 → (U.1 25).2 r 3 = -1 → EQT Y U f P od ((ud m Q1).1 23) (wi r) (wa r) (wn r) from by rw [d1]; exact (fun r hr => absurd hr (Nat.not_lt_zero r))), (show ∀ r, r < 0 → (U.1 25).2 r 3 = -1 → ∀ s s', (∀ j, j < P → ¬ mb (0 : Int32) j = 0 → dgz f P s j = dgz f P s' j) → ∀ t, trs Y U f P od (wi r) (wa r) (wn r) s t = trs Y U f P od (wi r) (wa r) (wn r) s' t from (fun r hr => absurd hr (Nat.not_lt_zero r)))⟩
  obtain ⟨k, am, Hsa⟩ := zs
  obtain ⟨ua, hta, da, hk, hKN, hMC, hLD, hsz, hVL, hEQ, hAM⟩ := hza
  have ua : um m Hsa := ua
  have hta : ur m C H Hsa := hta
  have zza : uq F293a (upT U (ac 23 U.1 0)) (ud m Hsa) := da
  have hk : k ≤ nw := hk
  have hKN : KNV m (ud m Hsa) Y P f od es := hKN
  have hMC : MCS (ud m Hsa) := hMC
  have hLD : MLW (ud m Hsa) Y P f od := hLD
  have hsz : ((ud m Hsa).1 23).1 ≤ sm wn 0 k := hsz
  have hVL : VLA ((ud m Hsa).1 23) Y es := hVL
  have hEQ : ∀ r, r < k → (U.1 25).2 r 3 = -1 → EQT Y U f P od ((ud m Hsa).1 23) (wi r) (wa r) (wn r) := hEQ
  have hAM : ∀ r, r < k → (U.1 25).2 r 3 = -1 → ∀ s s', (∀ j, j < P → ¬ mb am j = 0 → dgz f P s j = dgz f P s' j) → ∀ t, trs Y U f P od (wi r) (wa r) (wn r) s t = trs Y U f P od (wi r) (wa r) (wn r) s' t := hAM
  obtain ⟨Va, da⟩ : ∃ V, ud m Hsa = V := ⟨_, rfl⟩
  rw [da] at zza hKN hMC hLD hsz hVL hEQ
  have qfa : uq F293 U Va := qf1.tr zza rfl
  show mu_W _ _ (11, [(2, .inl (nI k)), (1, .inl am), (0, .inr (.inr (some 129)))], [], Hsa) _
  refine mw_go mu_g293 (k := 3) (f1 := (16, [(2, .inl (nI k)), (1, .inl am), (0, .inr (.inr (some 129)))], [.inr (.inr (mu_r Hsa 129 3)), .inl (nI k)], Hsa)) (C := [mu_is Hsa (some 129) 9]) rfl (show mu_is Hsa (some 129) 9 from (ua.1.1.is rfl)) ?_
  rw [(ua.1.1.r (p := 129) (j := 3) (q := 132) rfl)]
  refine mw_go mu_g293 (k := 1) (f1 := (19, [(2, .inl (nI k)), (1, .inl am), (0, .inr (.inr (some 129)))], [.inl (mu_i Hsa 132 2), .inl (nI k)], Hsa)) (C := [mu_is Hsa (some 132) 10]) rfl (show mu_is Hsa (some 132) 10 from (ua.1.1.is rfl)) ?_
  rw [(show mu_i Hsa 132 2 = (nI nw) from (ua.size da (j := 25) (by decide) rfl).trans (congrArg nI ((congrArg Prod.fst (show Va.1 25 = (U.1 25) from (zza.t 25 rfl))).trans hnw)))]
  refine mw_if (P := (nI k) < (nI nw)) (a := 22) (b := 125) (fun _ => rfl) trivial (fun h2 => ?_) (fun h2 => ?_)
  · -- 22: (nI k) < (nI nw)
    have nh2 : k < nw := (nI_ltI (by omega) (by omega)).mp (show nI k < nI nw from h2)
    have hkn : k < nw := by omega
    obtain ⟨⟨w0, w1, w2, hwi⟩, hwr⟩ := hWD.2 k hkn
    have hsk : sm wn 0 (k + 1) = sm wn 0 k + wn k := by show sm wn 0 k + wn (0 + k) = _; rw [Nat.zero_add]
    have hsB : sm wn 0 (k + 1) ≤ B := Nat.le_trans (sm_up (by omega)) hB
    refine mw_go mu_g293 (k := 2) (f1 := (26, [(2, .inl (nI k)), (1, .inl am), (0, .inr (.inr (some 129)))], [.inr (.inr (mu_r Hsa 129 3))], Hsa)) (C := [mu_is Hsa (some 129) 9]) rfl (show mu_is Hsa (some 129) 9 from (ua.1.1.is rfl)) ?_
    rw [(ua.1.1.r (p := 129) (j := 3) (q := 132) rfl)]
    refine mw_go mu_g293 (k := 2) (f1 := (28, [(2, .inl (nI k)), (1, .inl am), (0, .inr (.inr (some 129)))], [.inl (3 : Int32), .inl (nI k), .inr (.inr (some 132))], Hsa)) (C := []) rfl trivial ?_
    refine mw_cIe (fun _ => rfl) (show mu_is Hsa (some 132) 10 from (ua.1.1.is rfl)) (ua.getr (d := (d + 6)) da (j := 25) (by decide) rfl (nI k) (c := 3) (by decide)) ?_
    rw [show (tget (Va.1 25) (nI k) 3) = ((U.1 25).2 k 3) from (congrArg (fun z => tget z (nI k) 3) (show Va.1 25 = (U.1 25) from (zza.t 25 rfl))).trans (tget_nI (by omega))]
    refine mw_if (P := ((U.1 25).2 k 3) < 0) (a := 34) (b := 119) (fun _ => rfl) trivial (fun h4 => ?_) (fun h4 => ?_)
    · -- 34: ((U.1 25).2 k 3) < 0
      obtain ⟨h3, hrg, rs, hs0, hst⟩ : (U.1 25).2 k 3 = -1 ∧ rg Y (im Y (wi k)) false (wa k) (wa k + wn k) ∧ ∃ rs, SRT Y es (wi k) 1 (wa k) rs (wn k) ∧ stk Y rs (wa k) (wn k) 0 = 1 := hwr.resolve_right (fun ⟨pl, y1, y2, _⟩ => nI_pos (show pl < 2147483648 by omega) (by rw [← y2]; exact h4))
      have hrb := hrg.2.1
      refine mw_go mu_g293 (k := 3) (f1 := (39, [(2, .inl (nI k)), (1, .inl am), (0, .inr (.inr (some 129)))], [.inr (.inr (mu_r Hsa 129 3)), .inr (.inr (some 129))], Hsa)) (C := [mu_is Hsa (some 129) 9]) rfl (show mu_is Hsa (some 129) 9 from (ua.1.1.is rfl)) ?_
      rw [(ua.1.1.r (p := 129) (j := 3) (q := 132) rfl)]
      refine mw_go mu_g293 (k := 2) (f1 := (41, [(2, .inl (nI k)), (1, .inl am), (0, .inr (.inr (some 129)))], [.inl (0 : Int32), .inl (nI k), .inr (.inr (some 132)), .inr (.inr (some 129))], Hsa)) (C := []) rfl trivial ?_
      refine mw_cIe (fun _ => rfl) (show mu_is Hsa (some 132) 10 from (ua.1.1.is rfl)) (ua.getr (d := (d + 6)) da (j := 25) (by decide) rfl (nI k) (c := 0) (by decide)) ?_
      rw [show (tget (Va.1 25) (nI k) 0) = (nI (wa k)) from ((congrArg (fun z => tget z (nI k) 0) (show Va.1 25 = (U.1 25) from (zza.t 25 rfl))).trans (tget_nI (by omega))).trans w0]
      refine mw_go mu_g293 (k := 2) (f1 := (48, [(2, .inl (nI k)), (1, .inl am), (0, .inr (.inr (some 129)))], [.inr (.inr (mu_r Hsa 129 3)), .inl (nI (wa k)), .inr (.inr (some 129))], Hsa)) (C := [mu_is Hsa (some 129) 9]) rfl (show mu_is Hsa (some 129) 9 from (ua.1.1.is rfl)) ?_
      rw [(ua.1.1.r (p := 129) (j := 3) (q := 132) rfl)]
      refine mw_go mu_g293 (k := 2) (f1 := (50, [(2, .inl (nI k)), (1, .inl am), (0, .inr (.inr (some 129)))], [.inl (1 : Int32), .inl (nI k), .inr (.inr (some 132)), .inl (nI (wa k)), .inr (.inr (some 129))], Hsa)) (C := []) rfl trivial ?_
      refine mw_cIe (fun _ => rfl) (show mu_is Hsa (some 132) 10 from (ua.1.1.is rfl)) (ua.getr (d := (d + 6)) da (j := 25) (by decide) rfl (nI k) (c := 1) (by decide)) ?_
      rw [show (tget (Va.1 25) (nI k) 1) = (nI (wa k + wn k)) from ((congrArg (fun z => tget z (nI k) 1) (show Va.1 25 = (U.1 25) from (zza.t 25 rfl))).trans (tget_nI (by omega))).trans w1]
      refine mw_go mu_g293 (k := 2) (f1 := (57, [(2, .inl (nI k)), (1, .inl am), (0, .inr (.inr (some 129)))], [.inr (.inr (mu_r Hsa 129 3)), .inl (nI (wa k + wn k)), .inl (nI (wa k)), .inr (.inr (some 129))], Hsa)) (C := [mu_is Hsa (some 129) 9]) rfl (show mu_is Hsa (some 129) 9 from (ua.1.1.is rfl)) ?_
      rw [(ua.1.1.r (p := 129) (j := 3) (q := 132) rfl)]
      refine mw_go mu_g293 (k := 2) (f1 := (59, [(2, .inl (nI k)), (1, .inl am), (0, .inr (.inr (some 129)))], [.inl (2 : Int32), .inl (nI k), .inr (.inr (some 132)), .inl (nI (wa k + wn k)), .inl (nI (wa k)), .inr (.inr (some 129))], Hsa)) (C := []) rfl trivial ?_
      refine mw_cIe (fun _ => rfl) (show mu_is Hsa (some 132) 10 from (ua.1.1.is rfl)) (ua.getr (d := (d + 6)) da (j := 25) (by decide) rfl (nI k) (c := 2) (by decide)) ?_
      rw [show (tget (Va.1 25) (nI k) 2) = (nI (wi k)) from ((congrArg (fun z => tget z (nI k) 2) (show Va.1 25 = (U.1 25) from (zza.t 25 rfl))).trans (tget_nI (by omega))).trans w2]
      have hj0c : Va.1 0 = Y 0 := hKN.2.2.1.1 0 (by decide)
      refine mw_cV (fun _ => rfl) (show mu_is Hsa (some 129) 9 from (ua.1.1.is rfl)) (rl_note (d := (d + 3)) (C := C) (a := wa k) (N := wn k) (i0 := wi k) (n0 := (Va.1 23).1) (f := f) (P := P) (od := od) ua da (show (Va.2.2.2.1 99 0) = some m from ((zza.r 99 0 rfl).trans hmo)) hj0c hCc (by omega) (by omega) hrg hs0 rfl (by omega) hC23b (by omega) hC18b) (fun Q8 q8 => ?_)
      obtain ⟨u8, r8, z8, hNV⟩ := q8
      have ht8 : ur m C H Q8 := hta.trans r8
      obtain ⟨V8, d8⟩ : ∃ V, ud m Q8 = V := ⟨_, rfl⟩
      rw [d8] at z8 hNV
      have qf8 : uq F293 U V8 := qfa.tr z8 rfl
      have hKN2 : KNV m V8 Y P f od es := hKN.q z8 rfl
      refine mw_go mu_g293 (k := 2) (f1 := (69, [(2, .inl (nI k)), (1, .inl am), (0, .inr (.inr (some 129)))], [.inr (.inr (mu_r Q8 129 0))], Q8)) (C := [mu_is Q8 (some 129) 9]) rfl (show mu_is Q8 (some 129) 9 from (u8.1.1.is rfl)) ?_
      rw [(u8.1.1.r (p := 129) (j := 0) (q := 99) rfl)]
      refine mw_go mu_g293 (k := 1) (f1 := (72, [(2, .inl (nI k)), (1, .inl am), (0, .inr (.inr (some 129)))], [.inr (.inr (mu_r Q8 99 1))], Q8)) (C := [mu_is Q8 (some 99) 13]) rfl (show mu_is Q8 (some 99) 13 from (u8.1.1.is rfl)) ?_
      rw [(u8.1.1.r (p := 99) (j := 1) (q := 100) rfl)]
      refine mw_go mu_g293 (k := 2) (f1 := (76, [(2, .inl (nI k)), (1, .inl am), (0, .inr (.inr (some 129)))], [.inr (.inr (mu_r Q8 129 3)), .inr (.inr (some 100))], Q8)) (C := [mu_is Q8 (some 129) 9]) rfl (show mu_is Q8 (some 129) 9 from (u8.1.1.is rfl)) ?_
      rw [(u8.1.1.r (p := 129) (j := 3) (q := 132) rfl)]
      refine mw_go mu_g293 (k := 2) (f1 := (78, [(2, .inl (nI k)), (1, .inl am), (0, .inr (.inr (some 129)))], [.inl (0 : Int32), .inl (nI k), .inr (.inr (some 132)), .inr (.inr (some 100))], Q8)) (C := []) rfl trivial ?_
      refine mw_cIe (fun _ => rfl) (show mu_is Q8 (some 132) 10 from (u8.1.1.is rfl)) (u8.getr (d := (d + 6)) d8 (j := 25) (by decide) rfl (nI k) (c := 0) (by decide)) ?_
      rw [show (tget (V8.1 25) (nI k) 0) = (nI (wa k)) from ((congrArg (fun z => tget z (nI k) 0) (show V8.1 25 = (U.1 25) from ((z8.t 25 rfl).trans (zza.t 25 rfl)))).trans (tget_nI (by omega))).trans w0]
      refine mw_go mu_g293 (k := 2) (f1 := (85, [(2, .inl (nI k)), (1, .inl am), (0, .inr (.inr (some 129)))], [.inr (.inr (mu_r Q8 129 3)), .inl (nI (wa k)), .inr (.inr (some 100))], Q8)) (C := [mu_is Q8 (some 129) 9]) rfl (show mu_is Q8 (some 129) 9 from (u8.1.1.is rfl)) ?_
      rw [(u8.1.1.r (p := 129) (j := 3) (q := 132) rfl)]
      refine mw_go mu_g293 (k := 2) (f1 := (87, [(2, .inl (nI k)), (1, .inl am), (0, .inr (.inr (some 129)))], [.inl (1 : Int32), .inl (nI k), .inr (.inr (some 132)), .inl (nI (wa k)), .inr (.inr (some 100))], Q8)) (C := []) rfl trivial ?_
      refine mw_cIe (fun _ => rfl) (show mu_is Q8 (some 132) 10 from (u8.1.1.is rfl)) (u8.getr (d := (d + 6)) d8 (j := 25) (by decide) rfl (nI k) (c := 1) (by decide)) ?_
      rw [show (tget (V8.1 25) (nI k) 1) = (nI (wa k + wn k)) from ((congrArg (fun z => tget z (nI k) 1) (show V8.1 25 = (U.1 25) from ((z8.t 25 rfl).trans (zza.t 25 rfl)))).trans (tget_nI (by omega))).trans w1]
      refine mw_go mu_g293 (k := 2) (f1 := (94, [(2, .inl (nI k)), (1, .inl am), (0, .inr (.inr (some 129)))], [.inr (.inr (mu_r Q8 129 3)), .inl (nI (wa k + wn k)), .inl (nI (wa k)), .inr (.inr (some 100))], Q8)) (C := [mu_is Q8 (some 129) 9]) rfl (show mu_is Q8 (some 129) 9 from (u8.1.1.is rfl)) ?_
      rw [(u8.1.1.r (p := 129) (j := 3) (q := 132) rfl)]
      refine mw_go mu_g293 (k := 2) (f1 := (96, [(2, .inl (nI k)), (1, .inl am), (0, .inr (.inr (some 129)))], [.inl (2 : Int32), .inl (nI k), .inr (.inr (some 132)), .inl (nI (wa k + wn k)), .inl (nI (wa k)), .inr (.inr (some 100))], Q8)) (C := []) rfl trivial ?_
      refine mw_cIe (fun _ => rfl) (show mu_is Q8 (some 132) 10 from (u8.1.1.is rfl)) (u8.getr (d := (d + 6)) d8 (j := 25) (by decide) rfl (nI k) (c := 2) (by decide)) ?_
      rw [show (tget (V8.1 25) (nI k) 2) = (nI (wi k)) from ((congrArg (fun z => tget z (nI k) 2) (show V8.1 25 = (U.1 25) from ((z8.t 25 rfl).trans (zza.t 25 rfl)))).trans (tget_nI (by omega))).trans w2]
      have hMC2 := (show MCS V8 from ⟨by rw [(show (V8.1 22) = (Va.1 22) from (z8.t 22 rfl))]; exact hMC.1, by rw [(show (V8.2.2.1 100 3).1 = (Va.2.2.1 100 3).1 from (z8.n 100 3 rfl))]; exact hMC.2.1, by rw [(show (V8.2.2.1 100 8).1 = (Va.2.2.1 100 8).1 from (z8.n 100 8 rfl))]; exact hMC.2.2.1, by rw [(show (V8.2.2.1 100 12).1 = (Va.2.2.1 100 12).1 from (z8.n 100 12 rfl))]; exact hMC.2.2.2.1, by rw [(show (V8.2.2.1 100 13).1 = (Va.2.2.1 100 13).1 from (z8.n 100 13 rfl))]; exact hMC.2.2.2.2.1, by rw [(show (V8.2.2.1 100 15).1 = (Va.2.2.1 100 15).1 from (z8.n 100 15 rfl))]; exact hMC.2.2.2.2.2⟩)
      have hLD2 := (show MLW V8 Y P f od from hLD.imp (fun y => by rw [(show (V8.1 21) = (Va.1 21) from (z8.t 21 rfl))]; exact y) (fun ⟨a0, N0, i0, y1, y2, y3⟩ => ⟨a0, N0, i0, y1, y2, y3.keep (show (V8.1 21) = (Va.1 21) from (z8.t 21 rfl)) (show (V8.1 22) = (Va.1 22) from (z8.t 22 rfl)) (show (V8.1 15) = (Va.1 15) from (z8.t 15 rfl)) (show (V8.2.2.1 100 3) = (Va.2.2.1 100 3) from (z8.a 100 3 rfl)) (show (V8.2.1 100 5) = (Va.2.1 100 5) from (z8.i 100 5 rfl)) (show (V8.2.1 100 7) = (Va.2.1 100 7) from (z8.i 100 7 rfl)) (show (V8.2.1 100 17) = (Va.2.1 100 17) from (z8.i 100 17 rfl)) (show (V8.2.1 100 4) = (Va.2.1 100 4) from (z8.i 100 4 rfl)) (show (V8.2.2.1 100 8) = (Va.2.2.1 100 8) from (z8.a 100 8 rfl)) (show (V8.2.2.1 100 12).1 = (Va.2.2.1 100 12).1 from (z8.n 100 12 rfl)) (show (V8.2.2.1 100 13).1 = (Va.2.2.1 100 13).1 from (z8.n 100 13 rfl)) (show (V8.2.2.1 100 15).1 = (Va.2.2.1 100 15).1 from (z8.n 100 15 rfl)) (show (V8.2.2.1 99 8) = (Va.2.2.1 99 8) from (z8.a 99 8 rfl))⟩))
      refine mw_cV (fun _ => rfl) (show mu_is Q8 (some 100) 5 from (u8.1.1.is rfl)) (mc_load3 (d := (d + 2)) (C := C) (a0 := wa k) (N0 := wn k) (i0 := wi k) (Lk := [false]) u8 d8 hKN2 hMC2 hLD2 hwi hrg hC21 hC21b) (fun Q12 q12 => ?_)
      obtain ⟨u12, r12, z12, hKN1, hMC1, hLD1, -⟩ := q12
      have ht12 : ur m C H Q12 := ht8.trans r12
      obtain ⟨V12, d12⟩ : ∃ V, ud m Q12 = V := ⟨_, rfl⟩
      rw [d12] at z12 hKN1 hMC1 hLD1
      have qf12 : uq F293 U V12 := qf8.tr z12 rfl
      obtain ⟨mk, hmk⟩ : ∃ mk, V12.2.1 100 4 = mk := ⟨_, rfl⟩
      have hEk : EQT Y U f P od (V12.1 23) (wi k) (wa k) (wn k) := by
        rw [show V12.1 23 = V8.1 23 from (z12.t 23 rfl)]
        exact (hNV.eqt hrg (hTx k hkn h3)).same (show Va.1 15 = U.1 15 from (zza.t 15 rfl)) (show Va.2.2.1 99 8 = U.2.2.1 99 8 from (zza.a 99 8 rfl))
      obtain ⟨hVL2, hTk1, hTk2⟩ := hNV.vla hVL rfl hwi
      have hTk3 : (V8.1 23).1 + 1 ≤ (Va.1 23).1 + wn k := by obtain ⟨gg, mm, y1, y2, y3, y4, y5, y6, y7⟩ := hNV; have y8 := rg_1 hrg; rw [Nat.add_sub_cancel_left] at y8; rw [y8] at y7; exact y7
      have hDk : ∀ s s', (∀ j, j < P → ¬ mb (am ||| (mk &&& (16383 : Int32))) j = 0 → dgz f P s j = dgz f P s' j) → ∀ t, trs Y U f P od (wi k) (wa k) (wn k) s t = trs Y U f P od (wi k) (wa k) (wn k) s' t := fun s s' hd t => by
        have y := trs_dig (s := s) (s' := s') (t := t) hKN1 hLD1 hmk hwi hrg (fun j hj hb => hd j hj ((mb_orand (by omega)).mpr (Or.inr hb)))
        rw [trs_same (U := U) (show V12.1 15 = U.1 15 from ((z12.t 15 rfl).trans ((z8.t 15 rfl).trans (zza.t 15 rfl)))) (show V12.2.2.1 99 8 = U.2.2.1 99 8 from ((z12.a 99 8 rfl).trans ((z8.a 99 8 rfl).trans (zza.a 99 8 rfl)))), trs_same (U := U) (show V12.1 15 = U.1 15 from ((z12.t 15 rfl).trans ((z8.t 15 rfl).trans (zza.t 15 rfl)))) (show V12.2.2.1 99 8 = U.2.2.1 99 8 from ((z12.a 99 8 rfl).trans ((z8.a 99 8 rfl).trans (zza.a 99 8 rfl))))] at y
        exact y
      refine mw_go mu_g293 (k := 3) (f1 := (107, [(2, .inl (nI k)), (1, .inl am), (0, .inr (.inr (some 129)))], [.inr (.inr (mu_r Q12 129 0)), .inl am], Q12)) (C := [mu_is Q12 (some 129) 9]) rfl (show mu_is Q12 (some 129) 9 from (u12.1.1.is rfl)) ?_
      rw [(u12.1.1.r (p := 129) (j := 0) (q := 99) rfl)]
      refine mw_go mu_g293 (k := 1) (f1 := (110, [(2, .inl (nI k)), (1, .inl am), (0, .inr (.inr (some 129)))], [.inr (.inr (mu_r Q12 99 1)), .inl am], Q12)) (C := [mu_is Q12 (some 99) 13]) rfl (show mu_is Q12 (some 99) 13 from (u12.1.1.is rfl)) ?_
      rw [(u12.1.1.r (p := 99) (j := 1) (q := 100) rfl)]
      refine mw_go mu_g293 (k := 1) (f1 := (113, [(2, .inl (nI k)), (1, .inl am), (0, .inr (.inr (some 129)))], [.inl (mu_i Q12 100 4), .inl am], Q12)) (C := [mu_is Q12 (some 100) 5]) rfl (show mu_is Q12 (some 100) 5 from (u12.1.1.is rfl)) ?_
      rw [(show mu_i Q12 100 4 = mk from (ud_i (U := V12) (m := m) (P := 100) (j := 4) d12 rfl).trans hmk)]
      refine mw_go mu_g293 (k := 4) (f1 := (119, [(1, .inl (am ||| (mk &&& (16383 : Int32)))), (2, .inl (nI k)), (0, .inr (.inr (some 129)))], [], Q12)) (C := []) rfl trivial ?_
      refine mw_go mu_g293 (k := 1) (f1 := (122, [(2, .inl ((nI k) + 1)), (1, .inl (am ||| (mk &&& (16383 : Int32)))), (0, .inr (.inr (some 129)))], [], Q12)) (C := []) rfl trivial ?_
      rw [(show ((nI k) + 1) = (nI (k + 1)) from (nI_add k 1))]
      refine mw_go mu_g293 (k := 1) (f1 := (11, [(2, .inl (nI (k + 1))), (1, .inl (am ||| (mk &&& (16383 : Int32)))), (0, .inr (.inr (some 129)))], [], Q12)) (C := []) rfl trivial ?_
      exact mw_sub (by simp) (iha (k + 1, (am ||| (mk &&& (16383 : Int32))), Q12) ⟨u12, ht12, (show uq F293a (upT U (ac 23 U.1 0)) (ud m Q12) from by rw [d12]; exact ((zza.tr z8 rfl).tr z12 rfl)), (show (k + 1) ≤ nw from (by omega)), (show KNV m (ud m Q12) Y P f od es from by rw [d12]; exact hKN1), (show MCS (ud m Q12) from by rw [d12]; exact hMC1), (show MLW (ud m Q12) Y P f od from by rw [d12]; exact (Or.inr ⟨wa k, wn k, wi k, by omega, hwi, hLD1⟩)), (show ((ud m Q12).1 23).1 ≤ sm wn 0 (k + 1) from by rw [d12]; exact (by rw [hsk, (show V12.1 23 = V8.1 23 from (z12.t 23 rfl))]; omega)), (show VLA ((ud m Q12).1 23) Y es from by rw [d12]; exact (by rw [(show V12.1 23 = V8.1 23 from (z12.t 23 rfl))]; exact hVL2)), (show ∀ r, r < (k + 1) → (U.1 25).2 r 3 = -1 → EQT Y U f P od ((ud m Q12).1 23) (wi r) (wa r) (wn r) from by rw [d12]; exact (fun r hr y3 => by by_cases y : r = k; (rw [y]; exact hEk); (rw [(show V12.1 23 = V8.1 23 from (z12.t 23 rfl))]; exact (hEQ r (by omega) y3).up hTk1 hTk2))), (show ∀ r, r < (k + 1) → (U.1 25).2 r 3 = -1 → ∀ s s', (∀ j, j < P → ¬ mb (am ||| (mk &&& (16383 : Int32))) j = 0 → dgz f P s j = dgz f P s' j) → ∀ t, trs Y U f P od (wi r) (wa r) (wn r) s t = trs Y U f P od (wi r) (wa r) (wn r) s' t from (fun r hr y3 s s' hd t => by by_cases y : r = k; (rw [y]; exact hDk s s' hd t); (exact hAM r (by omega) y3 s s' (fun j hj hb => hd j hj ((mb_orand (by omega)).mpr (Or.inl hb))) t)))⟩ (by show nw - (k + 1) < nw - k; omega))
    · -- 119: not ((U.1 25).2 k 3) < 0
      have h3n : ¬ (U.1 25).2 k 3 = -1 := fun y => h4 (by rw [y]; decide)
      refine mw_go mu_g293 (k := 1) (f1 := (122, [(2, .inl ((nI k) + 1)), (1, .inl am), (0, .inr (.inr (some 129)))], [], Hsa)) (C := []) rfl trivial ?_
      rw [(show ((nI k) + 1) = (nI (k + 1)) from (nI_add k 1))]
      refine mw_go mu_g293 (k := 1) (f1 := (11, [(2, .inl (nI (k + 1))), (1, .inl am), (0, .inr (.inr (some 129)))], [], Hsa)) (C := []) rfl trivial ?_
      exact mw_sub (by simp) (iha (k + 1, am, Hsa) ⟨ua, hta, (show uq F293a (upT U (ac 23 U.1 0)) (ud m Hsa) from by rw [da]; exact zza), (show (k + 1) ≤ nw from (by omega)), (show KNV m (ud m Hsa) Y P f od es from by rw [da]; exact hKN), (show MCS (ud m Hsa) from by rw [da]; exact hMC), (show MLW (ud m Hsa) Y P f od from by rw [da]; exact hLD), (show ((ud m Hsa).1 23).1 ≤ sm wn 0 (k + 1) from by rw [da]; exact (by rw [hsk]; omega)), (show VLA ((ud m Hsa).1 23) Y es from by rw [da]; exact hVL), (show ∀ r, r < (k + 1) → (U.1 25).2 r 3 = -1 → EQT Y U f P od ((ud m Hsa).1 23) (wi r) (wa r) (wn r) from by rw [da]; exact (fun r hr y3 => by by_cases y : r = k; (rw [y] at y3; exact absurd y3 h3n); (exact hEQ r (by omega) y3))), (show ∀ r, r < (k + 1) → (U.1 25).2 r 3 = -1 → ∀ s s', (∀ j, j < P → ¬ mb am j = 0 → dgz f P s j = dgz f P s' j) → ∀ t, trs Y U f P od (wi r) (wa r) (wn r) s t = trs Y U f P od (wi r) (wa r) (wn r) s' t from (fun r hr y3 => by by_cases y : r = k; (rw [y] at y3; exact absurd y3 h3n); (exact hAM r (by omega) y3)))⟩ (by show nw - (k + 1) < nw - k; omega))
  · -- 125: not (nI k) < (nI nw)
    have nh2 : ¬ k < nw := fun z => h2 (show nI k < nI nw from (nI_ltI (by omega) (by omega)).mpr z)
    have hsB2 : (Va.1 23).1 ≤ B := Nat.le_trans hsz (Nat.le_trans (sm_up (by omega)) hB)
    refine mw_go mu_g293 (k := 2) (f1 := (129, [(2, .inl (nI k)), (1, .inl am), (0, .inr (.inr (some 129)))], [.inr (.inr (mu_r Hsa 129 2))], Hsa)) (C := [mu_is Hsa (some 129) 9]) rfl (show mu_is Hsa (some 129) 9 from (ua.1.1.is rfl)) ?_
    rw [(ua.1.1.r (p := 129) (j := 2) (q := 118) rfl)]
    refine mw_go mu_g293 (k := 1) (f1 := (132, [(2, .inl (nI k)), (1, .inl am), (0, .inr (.inr (some 129)))], [.inl (mu_i Hsa 118 2)], Hsa)) (C := [mu_is Hsa (some 118) 10]) rfl (show mu_is Hsa (some 118) 10 from (ua.1.1.is rfl)) ?_
    rw [(show mu_i Hsa 118 2 = (nI (Va.1 23).1) from (ua.size da (j := 23) (by decide) rfl).trans (congrArg (fun z => nI z.1) (show Va.1 23 = (Va.1 23) from rfl)))]
    refine mw_go mu_g293 (k := 1) (f1 := (134, [(2, .inl (nI k)), (1, .inl am), (0, .inr (.inr (some 129)))], [.inl (64 : Int32), .inl (nI (Va.1 23).1)], Hsa)) (C := []) rfl trivial ?_
    refine mw_if (P := (64 : Int32) < (nI (Va.1 23).1)) (a := 137) (b := 145) (fun _ => rfl) trivial (fun h13 => ?_) (fun h13 => ?_)
    · -- 137: (64 : Int32) < (nI (Va.1 23).1)
      have nh13 : 64 < ((Va.1 23).1) := (nI_ltI (by omega) (by omega)).mp (show nI 64 < nI ((Va.1 23).1) from h13)
      refine mw_go mu_g293 (k := 4) (f1 := (141, [(2, .inl (nI k)), (1, .inl am), (0, .inr (.inr (some 129)))], [.inl (0 : Int32), .inr (.inr none), .inl am, .inr (.inr (some 129))], Hsa)) (C := []) rfl trivial ?_
      refine mw_cV (fun _ => rfl) (show mu_is Hsa (some 129) 9 from (ua.1.1.is rfl)) (rl_refine (d := (d + 4)) (C := C) (kb := kb) (bs := 0) (mk := am) (ky := fun t => nI (pj am f P P t)) ua da (spx_keep hK.1 (show (Va.2.1 99 4) = (U.2.1 99 4) from (zza.i 99 4 rfl)) (show (Va.2.1 99 10) = (U.2.1 99 10) from (zza.i 99 10 rfl)) (show (Va.2.1 99 11) = (U.2.1 99 11) from (zza.i 99 11 rfl)) (show (Va.2.1 99 12) = (U.2.1 99 12) from (zza.i 99 12 rfl)) (show (Va.2.2.1 99 5) = (U.2.2.1 99 5) from (zza.a 99 5 rfl)) (show (Va.2.2.1 99 7) = (U.2.2.1 99 7) from (zza.a 99 7 rfl)) (show (Va.2.2.1 99 6) = (U.2.2.1 99 6) from (zza.a 99 6 rfl)) (show (Va.2.2.1 99 8).1 = (U.2.2.1 99 8).1 from (zza.n 99 8 rfl)) (show (Va.2.2.1 99 18).1 = (U.2.2.1 99 18).1 from (zza.n 99 18 rfl)) (show (Va.2.2.2.1 100 0) = (U.2.2.2.1 100 0) from (zza.r 100 0 rfl)) (show (Va.2.2.2.1 99 0) = (U.2.2.2.1 99 0) from (zza.r 99 0 rfl))) (by rw [(show (Va.2.2.1 129 7).1 = (U.2.2.1 129 7).1 from (zza.n 129 7 rfl))]; exact h7) (by rw [(show (Va.2.2.1 129 7).1 = (U.2.2.1 129 7).1 from (zza.n 129 7 rfl))]; exact h7b) (by rw [(show (Va.2.2.1 129 8).1 = (U.2.2.1 129 8).1 from (zza.n 129 8 rfl))]; exact h8) (by rw [(show (Va.2.2.1 129 8).1 = (U.2.2.1 129 8).1 from (zza.n 129 8 rfl))]; exact h8b) (by rw [(show (Va.2.2.1 129 9).1 = (U.2.2.1 129 9).1 from (zza.n 129 9 rfl))]; exact h9) hkb hTb (fun _ _ => rfl)) (fun Q14 q14 => ?_)
      obtain ⟨u14, r14, z14, hCL⟩ := q14
      have ht14 : ur m C H Q14 := hta.trans r14
      obtain ⟨V14, d14⟩ : ∃ V, ud m Q14 = V := ⟨_, rfl⟩
      rw [d14] at z14 hCL
      have qf14 : uq F293 U V14 := qfa.tr z14 rfl
      refine mw_of (fun _ => mu_ret rfl trivial ⟨Q14, rfl, u14, ht14, (by rw [d14]; exact qf14), ?_⟩)
      rw [d14]
      have hCJ : CLJ Va (pd f 0 P) (fun s s' => (U.2.2.1 129 7).2 s = (U.2.2.1 129 7).2 s') := CLJ.same (V := U) ⟨cl0, hcl0, fun s s' hs hs' hc => (show (U.2.2.1 129 7).2 s = (U.2.2.1 129 7).2 s' by rw [(hcl0 s hs).1, (hcl0 s' hs').1, hc])⟩ (show Va.2.2.1 129 7 = U.2.2.1 129 7 from (zza.a 129 7 rfl))
      refine ⟨hKN.q z14 rfl, (show MCS V14 from ⟨by rw [(show (V14.1 22) = (Va.1 22) from (z14.t 22 rfl))]; exact hMC.1, by rw [(show (V14.2.2.1 100 3).1 = (Va.2.2.1 100 3).1 from (z14.n 100 3 rfl))]; exact hMC.2.1, by rw [(show (V14.2.2.1 100 8).1 = (Va.2.2.1 100 8).1 from (z14.n 100 8 rfl))]; exact hMC.2.2.1, by rw [(show (V14.2.2.1 100 12).1 = (Va.2.2.1 100 12).1 from (z14.n 100 12 rfl))]; exact hMC.2.2.2.1, by rw [(show (V14.2.2.1 100 13).1 = (Va.2.2.1 100 13).1 from (z14.n 100 13 rfl))]; exact hMC.2.2.2.2.1, by rw [(show (V14.2.2.1 100 15).1 = (Va.2.2.1 100 15).1 from (z14.n 100 15 rfl))]; exact hMC.2.2.2.2.2⟩), (show MLW V14 Y P f od from hLD.imp (fun y => by rw [(show (V14.1 21) = (Va.1 21) from (z14.t 21 rfl))]; exact y) (fun ⟨a0, N0, i0, y1, y2, y3⟩ => ⟨a0, N0, i0, y1, y2, y3.keep (show (V14.1 21) = (Va.1 21) from (z14.t 21 rfl)) (show (V14.1 22) = (Va.1 22) from (z14.t 22 rfl)) (show (V14.1 15) = (Va.1 15) from (z14.t 15 rfl)) (show (V14.2.2.1 100 3) = (Va.2.2.1 100 3) from (z14.a 100 3 rfl)) (show (V14.2.1 100 5) = (Va.2.1 100 5) from (z14.i 100 5 rfl)) (show (V14.2.1 100 7) = (Va.2.1 100 7) from (z14.i 100 7 rfl)) (show (V14.2.1 100 17) = (Va.2.1 100 17) from (z14.i 100 17 rfl)) (show (V14.2.1 100 4) = (Va.2.1 100 4) from (z14.i 100 4 rfl)) (show (V14.2.2.1 100 8) = (Va.2.2.1 100 8) from (z14.a 100 8 rfl)) (show (V14.2.2.1 100 12).1 = (Va.2.2.1 100 12).1 from (z14.n 100 12 rfl)) (show (V14.2.2.1 100 13).1 = (Va.2.2.1 100 13).1 from (z14.n 100 13 rfl)) (show (V14.2.2.1 100 15).1 = (Va.2.2.1 100 15).1 from (z14.n 100 15 rfl)) (show (V14.2.2.1 99 8) = (Va.2.2.1 99 8) from (z14.a 99 8 rfl))⟩)), hCJ.cls gpd hCL (fun s s' hs hs' hR he => ⟨hR, fun r hr h3 t => hAM r (by omega) h3 s s' (fun j hj hb => ?_) t⟩)⟩
      have p1 := pj_16 (mk := am) hK hs
      have p2 := pj_16 (mk := am) hK hs'
      exact pj_dig hK.2.1 hs hs' (nI_inj (by omega) (by omega) he) hj hb
    · -- 145: not (64 : Int32) < (nI (Va.1 23).1)
      have nh13 : ¬ 64 < ((Va.1 23).1) := fun z => h13 (show nI 64 < nI ((Va.1 23).1) from (nI_ltI (by omega) (by omega)).mpr z)
      refine mw_go mu_g293 (k := 2) (f1 := (147, [(2, .inl (0 : Int32)), (1, .inl am), (0, .inr (.inr (some 129)))], [], Hsa)) (C := []) rfl trivial ?_
      show mu_W _ _ (147, [(2, .inl (nI 0)), (1, .inl am), (0, .inr (.inr (some 129)))], [], Hsa) _
      refine mw_sub (L' := [(2, .inl (nI 0)), (0, .inr (.inr (some 129)))]) (by simp) ?_
      refine mw_down (α := Nat × mu_H) (fun zs => (147, [(2, .inl (nI zs.1)), (0, .inr (.inr (some 129)))], [], zs.2)) (fun zs => (Va.1 23).1 - zs.1) (fun zs => um m zs.2 ∧ ur m C H zs.2 ∧ (uq F293b Va (ud m zs.2)) ∧ (zs.1 ≤ (Va.1 23).1) ∧ (KNV m (ud m zs.2) Y P f od es) ∧ (MCS (ud m zs.2)) ∧ (MLW (ud m zs.2) Y P f od) ∧ (CLJ (ud m zs.2) (pd f 0 P) (fun s s' => (U.2.2.1 129 7).2 s = (U.2.2.1 129 7).2 s' ∧ PTE (Va.1 23) Y U f P od zs.1 s s'))) (fun zs hzb ihb => ?_) (0, Hsa) ⟨ua, hta, (show uq F293b Va (ud m Hsa) from by rw [da]; exact uq.refl _ _), (show 0 ≤ (Va.1 23).1 from (by omega)), (show KNV m (ud m Hsa) Y P f od es from by rw [da]; exact hKN), (show MCS (ud m Hsa) from by rw [da]; exact hMC), (show MLW (ud m Hsa) Y P f od from by rw [da]; exact hLD), (show CLJ (ud m Hsa) (pd f 0 P) (fun s s' => (U.2.2.1 129 7).2 s = (U.2.2.1 129 7).2 s' ∧ PTE (Va.1 23) Y U f P od 0 s s') from by rw [da]; exact (CLJ.same (V := U) ⟨cl0, hcl0, fun s s' hs hs' hc => ⟨by rw [(hcl0 s hs).1, (hcl0 s' hs').1, hc], fun r hr => absurd hr (Nat.not_lt_zero r)⟩⟩ (show (Va.2.2.1 129 7) = (U.2.2.1 129 7) from (zza.a 129 7 rfl))))⟩
      obtain ⟨x, Hsb⟩ := zs
      obtain ⟨ub, htb, db, hx, hKNb, hMCb, hLDb, hCJ⟩ := hzb
      have ub : um m Hsb := ub
      have htb : ur m C H Hsb := htb
      have zzb : uq F293b Va (ud m Hsb) := db
      have hx : x ≤ (Va.1 23).1 := hx
      have hKNb : KNV m (ud m Hsb) Y P f od es := hKNb
      have hMCb : MCS (ud m Hsb) := hMCb
      have hLDb : MLW (ud m Hsb) Y P f od := hLDb
      have hCJ : CLJ (ud m Hsb) (pd f 0 P) (fun s s' => (U.2.2.1 129 7).2 s = (U.2.2.1 129 7).2 s' ∧ PTE (Va.1 23) Y U f P od x s s') := hCJ
      obtain ⟨Vb, db⟩ : ∃ V, ud m Hsb = V := ⟨_, rfl⟩
      rw [db] at zzb hKNb hMCb hLDb hCJ
      have qfb : uq F293 U Vb := qfa.tr zzb rfl
      show mu_W _ _ (147, [(2, .inl (nI x)), (0, .inr (.inr (some 129)))], [], Hsb) _
      refine mw_go mu_g293 (k := 3) (f1 := (152, [(2, .inl (nI x)), (0, .inr (.inr (some 129)))], [.inr (.inr (mu_r Hsb 129 2)), .inl (nI x)], Hsb)) (C := [mu_is Hsb (some 129) 9]) rfl (show mu_is Hsb (some 129) 9 from (ub.1.1.is rfl)) ?_
      rw [(ub.1.1.r (p := 129) (j := 2) (q := 118) rfl)]
      refine mw_go mu_g293 (k := 1) (f1 := (155, [(2, .inl (nI x)), (0, .inr (.inr (some 129)))], [.inl (mu_i Hsb 118 2), .inl (nI x)], Hsb)) (C := [mu_is Hsb (some 118) 10]) rfl (show mu_is Hsb (some 118) 10 from (ub.1.1.is rfl)) ?_
      rw [(show mu_i Hsb 118 2 = (nI (Va.1 23).1) from (ub.size db (j := 23) (by decide) rfl).trans (congrArg (fun z => nI z.1) (show Vb.1 23 = (Va.1 23) from (zzb.t 23 rfl))))]
      refine mw_if (P := (nI x) < (nI (Va.1 23).1)) (a := 158) (b := 228) (fun _ => rfl) trivial (fun h15 => ?_) (fun h15 => ?_)
      · -- 158: (nI x) < (nI (Va.1 23).1)
        have nh15 : x < ((Va.1 23).1) := (nI_ltI (by omega) (by omega)).mp (show nI x < nI ((Va.1 23).1) from h15)
        have hxn : x < (Va.1 23).1 := by omega
        obtain ⟨b, nb, i1, rs1, v0, v1, v2, hi1, hrg1, hsr1, hno1⟩ := hVL x hxn
        have hrb1 := hrg1.2.1
        refine mw_go mu_g293 (k := 2) (f1 := (162, [(2, .inl (nI x)), (0, .inr (.inr (some 129)))], [.inr (.inr (mu_r Hsb 129 0))], Hsb)) (C := [mu_is Hsb (some 129) 9]) rfl (show mu_is Hsb (some 129) 9 from (ub.1.1.is rfl)) ?_
        rw [(ub.1.1.r (p := 129) (j := 0) (q := 99) rfl)]
        refine mw_go mu_g293 (k := 1) (f1 := (165, [(2, .inl (nI x)), (0, .inr (.inr (some 129)))], [.inr (.inr (mu_r Hsb 99 1))], Hsb)) (C := [mu_is Hsb (some 99) 13]) rfl (show mu_is Hsb (some 99) 13 from (ub.1.1.is rfl)) ?_
        rw [(ub.1.1.r (p := 99) (j := 1) (q := 100) rfl)]
        refine mw_go mu_g293 (k := 2) (f1 := (169, [(2, .inl (nI x)), (0, .inr (.inr (some 129)))], [.inr (.inr (mu_r Hsb 129 2)), .inr (.inr (some 100))], Hsb)) (C := [mu_is Hsb (some 129) 9]) rfl (show mu_is Hsb (some 129) 9 from (ub.1.1.is rfl)) ?_
        rw [(ub.1.1.r (p := 129) (j := 2) (q := 118) rfl)]
        refine mw_go mu_g293 (k := 2) (f1 := (171, [(2, .inl (nI x)), (0, .inr (.inr (some 129)))], [.inl (0 : Int32), .inl (nI x), .inr (.inr (some 118)), .inr (.inr (some 100))], Hsb)) (C := []) rfl trivial ?_
        refine mw_cIe (fun _ => rfl) (show mu_is Hsb (some 118) 10 from (ub.1.1.is rfl)) (ub.getr (d := (d + 6)) db (j := 23) (by decide) rfl (nI x) (c := 0) (by decide)) ?_
        rw [show (tget (Vb.1 23) (nI x) 0) = (nI b) from ((congrArg (fun z => tget z (nI x) 0) (show Vb.1 23 = (Va.1 23) from (zzb.t 23 rfl))).trans (tget_nI (by omega))).trans v0]
        refine mw_go mu_g293 (k := 2) (f1 := (178, [(2, .inl (nI x)), (0, .inr (.inr (some 129)))], [.inr (.inr (mu_r Hsb 129 2)), .inl (nI b), .inr (.inr (some 100))], Hsb)) (C := [mu_is Hsb (some 129) 9]) rfl (show mu_is Hsb (some 129) 9 from (ub.1.1.is rfl)) ?_
        rw [(ub.1.1.r (p := 129) (j := 2) (q := 118) rfl)]
        refine mw_go mu_g293 (k := 2) (f1 := (180, [(2, .inl (nI x)), (0, .inr (.inr (some 129)))], [.inl (1 : Int32), .inl (nI x), .inr (.inr (some 118)), .inl (nI b), .inr (.inr (some 100))], Hsb)) (C := []) rfl trivial ?_
        refine mw_cIe (fun _ => rfl) (show mu_is Hsb (some 118) 10 from (ub.1.1.is rfl)) (ub.getr (d := (d + 6)) db (j := 23) (by decide) rfl (nI x) (c := 1) (by decide)) ?_
        rw [show (tget (Vb.1 23) (nI x) 1) = (nI (b + nb)) from ((congrArg (fun z => tget z (nI x) 1) (show Vb.1 23 = (Va.1 23) from (zzb.t 23 rfl))).trans (tget_nI (by omega))).trans v1]
        refine mw_go mu_g293 (k := 2) (f1 := (187, [(2, .inl (nI x)), (0, .inr (.inr (some 129)))], [.inr (.inr (mu_r Hsb 129 2)), .inl (nI (b + nb)), .inl (nI b), .inr (.inr (some 100))], Hsb)) (C := [mu_is Hsb (some 129) 9]) rfl (show mu_is Hsb (some 129) 9 from (ub.1.1.is rfl)) ?_
        rw [(ub.1.1.r (p := 129) (j := 2) (q := 118) rfl)]
        refine mw_go mu_g293 (k := 2) (f1 := (189, [(2, .inl (nI x)), (0, .inr (.inr (some 129)))], [.inl (2 : Int32), .inl (nI x), .inr (.inr (some 118)), .inl (nI (b + nb)), .inl (nI b), .inr (.inr (some 100))], Hsb)) (C := []) rfl trivial ?_
        refine mw_cIe (fun _ => rfl) (show mu_is Hsb (some 118) 10 from (ub.1.1.is rfl)) (ub.getr (d := (d + 6)) db (j := 23) (by decide) rfl (nI x) (c := 2) (by decide)) ?_
        rw [show (tget (Vb.1 23) (nI x) 2) = (nI i1) from ((congrArg (fun z => tget z (nI x) 2) (show Vb.1 23 = (Va.1 23) from (zzb.t 23 rfl))).trans (tget_nI (by omega))).trans v2]
        refine mw_cV (fun _ => rfl) (show mu_is Hsb (some 100) 5 from (ub.1.1.is rfl)) (mc_load3 (d := (d + 2)) (C := C) (a0 := b) (N0 := nb) (i0 := i1) (Lk := [false]) ub db hKNb hMCb hLDb hi1 hrg1 hC21 hC21b) (fun Q19 q19 => ?_)
        obtain ⟨u19, r19, z19, hKN1, hMC1, hLD1, -⟩ := q19
        have ht19 : ur m C H Q19 := htb.trans r19
        obtain ⟨V19, d19⟩ : ∃ V, ud m Q19 = V := ⟨_, rfl⟩
        rw [d19] at z19 hKN1 hMC1 hLD1
        have qf19 : uq F293 U V19 := qfb.tr z19 rfl
        obtain ⟨mk, hmk⟩ : ∃ mk, V19.2.1 100 4 = mk := ⟨_, rfl⟩
        refine mw_go mu_g293 (k := 2) (f1 := (199, [(2, .inl (nI x)), (0, .inr (.inr (some 129)))], [.inr (.inr (mu_r Q19 129 0))], Q19)) (C := [mu_is Q19 (some 129) 9]) rfl (show mu_is Q19 (some 129) 9 from (u19.1.1.is rfl)) ?_
        rw [(u19.1.1.r (p := 129) (j := 0) (q := 99) rfl)]
        refine mw_go mu_g293 (k := 1) (f1 := (202, [(2, .inl (nI x)), (0, .inr (.inr (some 129)))], [.inr (.inr (mu_r Q19 99 1))], Q19)) (C := [mu_is Q19 (some 99) 13]) rfl (show mu_is Q19 (some 99) 13 from (u19.1.1.is rfl)) ?_
        rw [(u19.1.1.r (p := 99) (j := 1) (q := 100) rfl)]
        refine mw_go mu_g293 (k := 1) (f1 := (205, [(2, .inl (nI x)), (0, .inr (.inr (some 129)))], [.inl (mu_i Q19 100 4)], Q19)) (C := [mu_is Q19 (some 100) 5]) rfl (show mu_is Q19 (some 100) 5 from (u19.1.1.is rfl)) ?_
        rw [(show mu_i Q19 100 4 = mk from (ud_i (U := V19) (m := m) (P := 100) (j := 4) d19 rfl).trans hmk)]
        refine mw_if (P := mk = 0) (a := 222) (b := 208) (fun _ => rfl) trivial (fun h20 => ?_) (fun h20 => ?_)
        · -- 222: mk = 0
          refine mw_go mu_g293 (k := 1) (f1 := (225, [(2, .inl ((nI x) + 1)), (0, .inr (.inr (some 129)))], [], Q19)) (C := []) rfl trivial ?_
          rw [(show ((nI x) + 1) = (nI (x + 1)) from (nI_add x 1))]
          refine mw_go mu_g293 (k := 1) (f1 := (147, [(2, .inl (nI (x + 1))), (0, .inr (.inr (some 129)))], [], Q19)) (C := []) rfl trivial ?_
          exact mw_sub (by simp) (ihb (x + 1, Q19) ⟨u19, ht19, (show uq F293b Va (ud m Q19) from by rw [d19]; exact (zzb.tr z19 rfl)), (show (x + 1) ≤ (Va.1 23).1 from (by omega)), (show KNV m (ud m Q19) Y P f od es from by rw [d19]; exact hKN1), (show MCS (ud m Q19) from by rw [d19]; exact hMC1), (show MLW (ud m Q19) Y P f od from by rw [d19]; exact (Or.inr ⟨b, nb, i1, by omega, hi1, hLD1⟩)), (show CLJ (ud m Q19) (pd f 0 P) (fun s s' => (U.2.2.1 129 7).2 s = (U.2.2.1 129 7).2 s' ∧ PTE (Va.1 23) Y U f P od (x + 1) s s') from by rw [d19]; exact ((hCJ.same (show (V19.2.2.1 129 7) = (Vb.2.2.1 129 7) from (z19.a 129 7 rfl))).mono (fun s s' hs hs' hR => ⟨hR.1, hR.2.next (by omega) hi1 (by omega) (by omega) v0 v1 v2 (by have he := tru_dig (s := s) (s' := s') hKN1 hLD1 hmk hi1 hrg1 hno1 (fun j hj hb => absurd (by rw [h20]; exact mb_0 j (by omega)) hb); rw [tru_same (U := U) (show (V19.1 15) = (U.1 15) from ((z19.t 15 rfl).trans ((zzb.t 15 rfl).trans (zza.t 15 rfl)))) (show (V19.2.2.1 99 8) = (U.2.2.1 99 8) from ((z19.a 99 8 rfl).trans ((zzb.a 99 8 rfl).trans (zza.a 99 8 rfl)))), tru_same (U := U) (show (V19.1 15) = (U.1 15) from ((z19.t 15 rfl).trans ((zzb.t 15 rfl).trans (zza.t 15 rfl)))) (show (V19.2.2.1 99 8) = (U.2.2.1 99 8) from ((z19.a 99 8 rfl).trans ((zzb.a 99 8 rfl).trans (zza.a 99 8 rfl))))] at he; exact he)⟩)))⟩ (by show (Va.1 23).1 - (x + 1) < (Va.1 23).1 - x; omega))
        · -- 208: not mk = 0
          refine mw_go mu_g293 (k := 3) (f1 := (213, [(2, .inl (nI x)), (0, .inr (.inr (some 129)))], [.inr (.inr (mu_r Q19 129 0)), .inr (.inr (some 129))], Q19)) (C := [mu_is Q19 (some 129) 9]) rfl (show mu_is Q19 (some 129) 9 from (u19.1.1.is rfl)) ?_
          rw [(u19.1.1.r (p := 129) (j := 0) (q := 99) rfl)]
          refine mw_go mu_g293 (k := 1) (f1 := (216, [(2, .inl (nI x)), (0, .inr (.inr (some 129)))], [.inr (.inr (mu_r Q19 99 1)), .inr (.inr (some 129))], Q19)) (C := [mu_is Q19 (some 99) 13]) rfl (show mu_is Q19 (some 99) 13 from (u19.1.1.is rfl)) ?_
          rw [(u19.1.1.r (p := 99) (j := 1) (q := 100) rfl)]
          refine mw_go mu_g293 (k := 1) (f1 := (219, [(2, .inl (nI x)), (0, .inr (.inr (some 129)))], [.inl (mu_i Q19 100 4), .inr (.inr (some 129))], Q19)) (C := [mu_is Q19 (some 100) 5]) rfl (show mu_is Q19 (some 100) 5 from (u19.1.1.is rfl)) ?_
          rw [(show mu_i Q19 100 4 = mk from (ud_i (U := V19) (m := m) (P := 100) (j := 4) d19 rfl).trans hmk)]
          refine mw_cV (fun _ => rfl) (show mu_is Q19 (some 129) 9 from (u19.1.1.is rfl)) (rl_partBy (d := d) (C := C) (kb := kb) (a0 := b) (N0 := nb) (i0 := i1) (mk := mk) u19 d19 hKN1 hMC1 hLD1 hi1 hrg1 hsr1 (by decide) hmk (fun ⟨q, q1, q2, _⟩ => hno1 q q1 q2) (by rw [(show (V19.2.2.1 129 6).1 = (U.2.2.1 129 6).1 from ((z19.n 129 6 rfl).trans ((zzb.n 129 6 rfl).trans (zza.n 129 6 rfl))))]; exact h6) (by rw [(show (V19.2.2.1 129 6).1 = (U.2.2.1 129 6).1 from ((z19.n 129 6 rfl).trans ((zzb.n 129 6 rfl).trans (zza.n 129 6 rfl))))]; exact h6b) (by rw [(show (V19.2.2.1 129 7).1 = (U.2.2.1 129 7).1 from ((z19.n 129 7 rfl).trans ((zzb.n 129 7 rfl).trans (zza.n 129 7 rfl))))]; exact h7) (by rw [(show (V19.2.2.1 129 7).1 = (U.2.2.1 129 7).1 from ((z19.n 129 7 rfl).trans ((zzb.n 129 7 rfl).trans (zza.n 129 7 rfl))))]; exact h7b) (by rw [(show (V19.2.2.1 129 8).1 = (U.2.2.1 129 8).1 from ((z19.n 129 8 rfl).trans ((zzb.n 129 8 rfl).trans (zza.n 129 8 rfl))))]; exact h8) (by rw [(show (V19.2.2.1 129 8).1 = (U.2.2.1 129 8).1 from ((z19.n 129 8 rfl).trans ((zzb.n 129 8 rfl).trans (zza.n 129 8 rfl))))]; exact h8b) (by rw [(show (V19.2.2.1 129 9).1 = (U.2.2.1 129 9).1 from ((z19.n 129 9 rfl).trans ((zzb.n 129 9 rfl).trans (zza.n 129 9 rfl))))]; exact h9) hkb hTb) (fun Q21 q21 => ?_)
          obtain ⟨u21, r21, z21, hKNp, hMCp, hLDp, hCL⟩ := q21
          have ht21 : ur m C H Q21 := ht19.trans r21
          obtain ⟨V21, d21⟩ : ∃ V, ud m Q21 = V := ⟨_, rfl⟩
          rw [d21] at z21 hKNp hMCp hLDp hCL
          have qf21 : uq F293 U V21 := qf19.tr z21 rfl
          refine mw_go mu_g293 (k := 1) (f1 := (225, [(2, .inl ((nI x) + 1)), (0, .inr (.inr (some 129)))], [], Q21)) (C := []) rfl trivial ?_
          rw [(show ((nI x) + 1) = (nI (x + 1)) from (nI_add x 1))]
          refine mw_go mu_g293 (k := 1) (f1 := (147, [(2, .inl (nI (x + 1))), (0, .inr (.inr (some 129)))], [], Q21)) (C := []) rfl trivial ?_
          exact mw_sub (by simp) (ihb (x + 1, Q21) ⟨u21, ht21, (show uq F293b Va (ud m Q21) from by rw [d21]; exact ((zzb.tr z19 rfl).tr z21 rfl)), (show (x + 1) ≤ (Va.1 23).1 from (by omega)), (show KNV m (ud m Q21) Y P f od es from by rw [d21]; exact hKNp), (show MCS (ud m Q21) from by rw [d21]; exact hMCp), (show MLW (ud m Q21) Y P f od from by rw [d21]; exact (Or.inr ⟨b, nb, i1, by omega, hi1, hLDp⟩)), (show CLJ (ud m Q21) (pd f 0 P) (fun s s' => (U.2.2.1 129 7).2 s = (U.2.2.1 129 7).2 s' ∧ PTE (Va.1 23) Y U f P od (x + 1) s s') from by rw [d21]; exact (CLJ.cls (hCJ.same (show (V19.2.2.1 129 7) = (Vb.2.2.1 129 7) from (z19.a 129 7 rfl))) gpd hCL (fun s s' hs hs' hR he => ⟨hR.1, hR.2.next (by omega) hi1 (by omega) (by omega) v0 v1 v2 (by have he : tru Y V19 f P od i1 b nb s = tru Y V19 f P od i1 b nb s' := he; rw [tru_same (U := U) (show (V19.1 15) = (U.1 15) from ((z19.t 15 rfl).trans ((zzb.t 15 rfl).trans (zza.t 15 rfl)))) (show (V19.2.2.1 99 8) = (U.2.2.1 99 8) from ((z19.a 99 8 rfl).trans ((zzb.a 99 8 rfl).trans (zza.a 99 8 rfl)))), tru_same (U := U) (show (V19.1 15) = (U.1 15) from ((z19.t 15 rfl).trans ((zzb.t 15 rfl).trans (zza.t 15 rfl)))) (show (V19.2.2.1 99 8) = (U.2.2.1 99 8) from ((z19.a 99 8 rfl).trans ((zzb.a 99 8 rfl).trans (zza.a 99 8 rfl))))] at he; exact he)⟩)))⟩ (by show (Va.1 23).1 - (x + 1) < (Va.1 23).1 - x; omega))
      · -- 228: not (nI x) < (nI (Va.1 23).1)
        have nh15 : ¬ x < ((Va.1 23).1) := fun z => h15 (show nI x < nI ((Va.1 23).1) from (nI_ltI (by omega) (by omega)).mpr z)
        refine mw_of (fun _ => mu_ret rfl trivial ⟨Hsb, rfl, ub, htb, (by rw [db]; exact qfb), ?_⟩)
        rw [db]
        refine ⟨hKNb, hMCb, hLDb, hCJ.mono (fun s s' hs hs' hR => ⟨hR.1, fun r hr h3 t => ?_⟩)⟩
        have hx2 : x = (Va.1 23).1 := by omega
        rw [hx2] at hR
        exact hR.2.eqt (hEQ r (by omega) h3) (hWD.2 r (by omega)).1.2.2.2 t
end PartInW
