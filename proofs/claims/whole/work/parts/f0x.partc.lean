/-! RELATION: partClasses -/
/-- the first j pieces are alike in two STATES -/
def PTE (t3 : Tb) (Y : Ts) (U : Ud) (f : Nat → Nat) (P : Nat) (od : Nat → Nat) (j s s' : Nat) : Prop := ∀ r, r < j → ∀ b nb i1, b + nb ≤ (Y 0).1 → i1 < (Y 11).1 → t3.2 r 0 = nI b → t3.2 r 1 = nI (b + nb) → t3.2 r 2 = nI i1 → tru Y U f P od i1 b nb s = tru Y U f P od i1 b nb s'
/-- classes, and what STATES of one class have in common -/
def CLJ (V : Ud) (T : Nat) (R : Nat → Nat → Prop) : Prop := ∃ cl : Nat → Nat, (∀ t, t < T → (V.2.2.1 129 7).2 t = nI (cl t) ∧ cl t ≤ T) ∧ ∀ s s', s < T → s' < T → cl s = cl s' → R s s'
section PartInW
variable {H : mu_H} {U V V1 : Ud} {m d P nw nf kb T j k i0 a N : Nat} {C : Nat → Nat} {Y : Ts} {f od wa wn wi bs : Nat → Nat} {nm : Nat → Int32} {wk : Nat → Bool} {es : Nat → Int32} {R R' : Nat → Nat → Prop} {ky : Nat → Int32} {t3 : Tb} {x y : Int32} {s s' B : Nat}
theorem tru_same (h15 : V.1 15 = U.1 15) (h8 : V.2.2.1 99 8 = U.2.2.1 99 8) : tru Y V f P od i0 a N s = tru Y U f P od i0 a N s := by
  unfold tru
  rw [vst_same (f := f) (P := P) (s := s) h15 h8]
theorem EQT.same (h : EQT Y V f P od t3 i0 a N) (h15 : V.1 15 = U.1 15) (h8 : V.2.2.1 99 8 = U.2.2.1 99 8) : EQT Y U f P od t3 i0 a N := fun s s' hs t => by
  have y := h s s' (fun b nb hb => by rw [tru_same h15 h8, tru_same h15 h8]; exact hs b nb hb) t
  rw [trs_same h15 h8, trs_same h15 h8] at y
  exact y
theorem mb_orand (hj : j < 14) : (¬ mb (x ||| (y &&& (16383 : Int32))) j = 0) ↔ (¬ mb x j = 0 ∨ ¬ mb y j = 0) := by
  have key : ∀ j : Fin 14, (16383 : Int32).toBitVec.getLsbD j.1 = true := by decide
  rw [mb_bit _ j (by omega), mb_bit x j (by omega), mb_bit y j (by omega), Int32.toBitVec_or, Int32.toBitVec_and, BitVec.getLsbD_or, BitVec.getLsbD_and, key ⟨j, hj⟩, Bool.and_true, Bool.or_eq_true]
theorem CLJ.mono (h : CLJ V T R) (hR : ∀ s s', s < T → s' < T → R s s' → R' s s') : CLJ V T R' := by
  obtain ⟨cl, h1, h2⟩ := h
  exact ⟨cl, h1, fun s s' hs hs' hc => hR s s' hs hs' (h2 s s' hs hs' hc)⟩
theorem CLJ.same (h : CLJ V T R) (e : V1.2.2.1 129 7 = V.2.2.1 129 7) : CLJ V1 T R := by
  unfold CLJ at *
  rw [e]
  exact h
theorem CLJ.cls (h : CLJ V T R) (hT : T ≤ 16384) (hC : CLS V V1 T ky) (hR : ∀ s s', s < T → s' < T → R s s' → ky s = ky s' → R' s s') : CLJ V1 T R' := by
  obtain ⟨cl, h1, h2⟩ := h
  obtain ⟨cn, c1, c2⟩ := hC
  refine ⟨cn, fun t ht => ⟨(c1 t ht).1, Nat.le_of_lt (c1 t ht).2⟩, fun s s' hs hs' hc => ?_⟩
  obtain ⟨w1, w2⟩ := (c2 s s' hs hs').mp hc
  rw [(h1 s hs).1, (h1 s' hs').1] at w1
  have w3 : cl s = cl s' := nI_inj (by have := (h1 s hs).2; omega) (by have := (h1 s' hs').2; omega) w1
  exact hR s s' hs hs' (h2 s s' hs hs' w3) w2
theorem PTE.next (h : PTE t3 Y U f P od j s s') {b nb i1 : Nat} (hb : b + nb ≤ (Y 0).1) (hi : i1 < (Y 11).1) (hY0 : (Y 0).1 ≤ 67108864) (hY11 : (Y 11).1 ≤ 67108864) (e0 : t3.2 j 0 = nI b) (e1 : t3.2 j 1 = nI (b + nb)) (e2 : t3.2 j 2 = nI i1) (he : tru Y U f P od i1 b nb s = tru Y U f P od i1 b nb s') : PTE t3 Y U f P od (j + 1) s s' := by
  intro r hr b' nb' i1' hb' hi' w0 w1 w2
  by_cases e : r = j
  · rw [e] at w0 w1 w2
    have x0 : b' = b := nI_inj (by omega) (by omega) (w0.symm.trans e0)
    have x1 : b' + nb' = b + nb := nI_inj (by omega) (by omega) (w1.symm.trans e1)
    have x2 : i1' = i1 := nI_inj (by omega) (by omega) (w2.symm.trans e2)
    have x3 : nb' = nb := by omega
    rw [x0, x2, x3]
    exact he
  · exact h r (by omega) b' nb' i1' hb' hi' w0 w1 w2
theorem PTE.eqt (h : PTE t3 Y U f P od t3.1 s s') (he : EQT Y U f P od t3 i0 a N) (hi : i0 < (Y 11).1) (t : Nat) : trs Y U f P od i0 a N s t = trs Y U f P od i0 a N s' t := he s s' (fun b nb ⟨rb, r, r1, r2, r3, r4⟩ => h r r1 b nb i0 rb hi r2 r3 r4) t
def F293 : Uf := ⟨[21, 22, 18, 23], [(100, 4), (100, 5), (100, 6), (100, 7), (100, 17), (100, 18), (100, 21), (100, 19), (100, 20), (100, 14), (100, 16)], [(100, 3), (100, 8), (100, 12), (100, 13), (100, 15), (99, 18), (129, 7), (129, 8), (129, 9), (100, 9), (100, 10), (100, 11), (129, 6)], [(100, 3), (100, 8), (100, 12), (100, 13), (100, 15)], [], false⟩
theorem CHSw_same {bb : Bool} {s : Nat} {v : Int32} (h15 : V.1 15 = U.1 15) (ha8 : V.2.2.1 99 8 = U.2.2.1 99 8) : CHSw Y V f P od bb a N i0 s v ↔ CHSw Y U f P od bb a N i0 s v := by
  unfold CHSw
  rw [vst_same h15 ha8]
theorem rgs_nil {a k : Nat} (h : a ≤ (Y 0).1) : rgs Y k [] a (a + 0) := ⟨Nat.le_refl _, h, by rw [Nat.add_zero, Nat.sub_self]; rfl, fun p h1 h2 => absurd h2 (by omega)⟩
theorem WID3 {t15 t : Tb} {r : Nat} (h : (t.2 r 3 = -1 ∧ t.2 r 4 = 1 ∧ (wn r = 0 ∨ WTC Y es (wa r) (wn r) (wi r))) ∨ (∃ pl, pl < P ∧ t.2 r 3 = nI pl ∧ t.2 r 4 = 0 ∧ ¬ NXW Y t15 P (wa r) (wn r) (wi r) ∧ ∃ al Lk rs, ¬ al = 2 ∧ rgs Y (im Y (wi r)) Lk (wa r) (wa r + wn r) ∧ 1 ≤ Lk.length ∧ SRT Y es (wi r) al (wa r) rs (wn r) ∧ (wk r = true → Lk = [true]) ∧ (wk r = false → ¬ true ∈ Lk)) ∨ ∃ pl, pl < P ∧ t.2 r 3 = nI pl ∧ t.2 r 4 = 1 ∧ WTC Y es (wa r) (wn r) (wi r) ∧ ∀ q, NXP Y t15 P (wa r) (wn r) (wi r) q → q = pl) : (t.2 r 4 = 1 ∧ wn r = 0) ∨ (t.2 r 4 = 0 ∧ ∃ pl : Nat, ¬ NXW Y t15 P (wa r) (wn r) (wi r) ∧ ∃ al Lk rs, ¬ al = 2 ∧ rgs Y (im Y (wi r)) Lk (wa r) (wa r + wn r) ∧ 1 ≤ Lk.length ∧ SRT Y es (wi r) al (wa r) rs (wn r) ∧ (wk r = true → Lk = [true]) ∧ (wk r = false → ¬ true ∈ Lk)) ∨ (t.2 r 4 = 1 ∧ WTC Y es (wa r) (wn r) (wi r)) := by
  rcases h with ⟨-, h4, y | y⟩ | ⟨pl, -, -, h4, y⟩ | ⟨pl, -, -, h4, y, -⟩
  · exact Or.inl ⟨h4, y⟩
  · exact Or.inr (Or.inr ⟨h4, y⟩)
  · exact Or.inr (Or.inl ⟨h4, pl, y⟩)
  · exact Or.inr (Or.inr ⟨h4, y⟩)
theorem NIF.vla {t3 t0 : Tb} {n0 : Nat} (h : NIF t3 t0 Y es U f P od i0 a N n0) (h0 : VLA t0 Y es) (hn0 : n0 = t0.1) (hi : i0 < (Y 11).1) (hb : n0 ≤ 65) : VLA t3 Y es ∧ t0.1 ≤ t3.1 ∧ (∀ r c, r < t0.1 → t3.2 r c = t0.2 r c) ∧ t3.1 ≤ 65 ∧ (t3.1 ≤ 64 → EQT Y U f P od t3 i0 a N) := by
  obtain ⟨hVL, hTK, hcn, hE⟩ := h
  subst hn0
  refine ⟨fun r hr => ?_, hTK.1, hTK.2, by omega, hE⟩
  by_cases c : r < t0.1
  · obtain ⟨b, nb, i1, rs, z1, z2, z3, z4⟩ := h0 r c
    exact ⟨b, nb, i1, rs, by rw [hTK.2 r 0 c]; exact z1, by rw [hTK.2 r 1 c]; exact z2, by rw [hTK.2 r 2 c]; exact z3, z4⟩
  · obtain ⟨b, nb, rs, z1, z2, z3, z4, z5, z6⟩ := hVL r (by omega) hr
    exact ⟨b, nb, i0, rs, z1, z2, z3, hi, z4, z5, z6⟩
def F293a : Uf := ⟨[], [], [(99, 18), (129, 7), (129, 8), (129, 9)], [], [], false⟩
def F293b : Uf := ⟨[21, 22, 18, 23], [(100, 4), (100, 5), (100, 6), (100, 7), (100, 17)], [(100, 3), (100, 8), (100, 12), (100, 13), (100, 15), (99, 18), (129, 7), (129, 8), (129, 9)], [(100, 3), (100, 8), (100, 12), (100, 13), (100, 15)], [], false⟩
def F293c : Uf := ⟨[21, 22], [(100, 4), (100, 5), (100, 6), (100, 7), (100, 17), (100, 18), (100, 21), (100, 19), (100, 20), (100, 14), (100, 16)], [(100, 3), (100, 8), (100, 12), (100, 13), (100, 15), (100, 9), (100, 10), (100, 11), (129, 6), (99, 18), (129, 7), (129, 8), (129, 9)], [(100, 3), (100, 8), (100, 12), (100, 13), (100, 15)], [], false⟩
/-- PathProver$Relation.partClasses()V -/
abbrev mu_m293 : ev_M := (3, none, [], ev_b293)
theorem mu_g293 : mu_good mu_m293 := mu_goodk ev_k293
theorem rl_partC (h : um m H) (e : ud m H = U) (hK : KNV m U Y P f od es) (hM : MCS U) (hL : MLW U Y P f od) (hnf : (U.1 24).1 = nf) (hnfb : nf ≤ 67108864) (hF : ∀ q, q < nf → (U.1 24).2 q 0 = nm q ∧ (U.1 24).2 q 2 = nI (bs q) ∧ bs q + pm (nm q) f P ≤ (U.2.2.1 129 4).1) (h4b : (U.2.2.1 129 4).1 ≤ 16777216) (hWD : WIDw Y es P (U.1 15) (U.1 25) nw wa wn wi wk) {cl0 : Nat → Nat} (hcl0 : ∀ t, t < pd f 0 P → (U.2.2.1 129 7).2 t = nI (cl0 t) ∧ cl0 t ≤ pd f 0 P) (hC21 : 2 * (((Y 13).1 + 2) * 4) + 4 ≤ C 21) (hC21b : C 21 ≤ 8388608) (hC23 : 2000 ≤ C 23) (hC23b : C 23 ≤ 8388608) (hC18 : 4 * 14001 + 2 ≤ C 18) (hC18b : C 18 ≤ 8388608) (ha6 : pd f 0 P ≤ (U.2.2.1 129 6).1) (ha6b : (U.2.2.1 129 6).1 ≤ 16777216) (ha7 : pd f 0 P ≤ (U.2.2.1 129 7).1) (ha7b : (U.2.2.1 129 7).1 ≤ 16777216) (ha8 : 2 * pd f 0 P ≤ (U.2.2.1 129 8).1) (ha8b : (U.2.2.1 129 8).1 ≤ 16777216) (ha9 : (U.2.2.1 129 9).1 = 2 ^ kb) (hkb : kb ≤ 15) (hTb : pd f 0 P < 2 ^ kb) : mu_TV (mu_D (d + 8)) 293 [.inr (.inr (some 129))] H (fun H1 => um m H1 ∧ ur m C H H1 ∧ uq F293 U (ud m H1) ∧ KNV m (ud m H1) Y P f od es ∧ MCS (ud m H1) ∧ MLW (ud m H1) Y P f od ∧ CLJ (ud m H1) (pd f 0 P) (fun s s' => (∀ r, r < nf → (U.2.2.1 129 4).2 (bs r + pj (nm r) f P P s) = (U.2.2.1 129 4).2 (bs r + pj (nm r) f P P s')) ∧ (∀ r, r < nw → (U.1 25).2 r 4 = 0 → ∀ v, CHSw Y U f P od (wk r) (wa r) (wn r) (wi r) s v ↔ CHSw Y U f P od (wk r) (wa r) (wn r) (wi r) s' v) ∧ ∀ r, r < nw → (U.1 25).2 r 4 = 1 → ¬ wn r = 0 → (∀ t, trs Y U f P od (wi r) (wa r) (wn r) s t = trs Y U f P od (wi r) (wa r) (wn r) s' t))) := by
  obtain ⟨⟨s4, s10, s11, s12⟩, hk5, ⟨g8, g8b, g18, g18b⟩, ⟨gP, gpd, gsm⟩, hsp, hmo'⟩ := id hK.1
  have hmo : U.2.2.2.1 99 0 = some m := hmo'
  have hnw := hWD.1.1
  have hnwb := hWD.1.2
  have hCc : Cc Y := hK.2.2.2.1.1.2.2.2.2.2.1.2
  have hYb := hK.2.2.2.1.2.2.2.1
  have hY11 := hK.2.2.2.1.1.2.2.2.2.2.2 11 (by decide)
  have hY15 := hK.2.2.2.1.1.2.2.2.2.2.2 15 (by decide)
  refine mu_meth (M := mu_m293) rfl rfl ?_
  refine mw_ht (mu_fn_of (show [0].Nodup by decide)) ?_
  refine mw_go mu_g293 (k := 2) (f1 := (2, [(1, .inl (0 : Int32)), (0, .inr (.inr (some 129)))], [], H)) (C := []) rfl trivial ?_
  show mu_W _ _ (2, [(1, .inl (nI 0)), (0, .inr (.inr (some 129)))], [], H) _
  refine mw_sub (L' := [(1, .inl (nI 0)), (0, .inr (.inr (some 129)))]) (by simp) ?_
  refine mw_down (α := Nat × mu_H) (fun zs => (2, [(1, .inl (nI zs.1)), (0, .inr (.inr (some 129)))], [], zs.2)) (fun zs => nf - zs.1) (fun zs => um m zs.2 ∧ ur m C H zs.2 ∧ (uq F293a U (ud m zs.2)) ∧ (zs.1 ≤ nf) ∧ (CLJ (ud m zs.2) (pd f 0 P) (fun s s' => (∀ r, r < zs.1 → (U.2.2.1 129 4).2 (bs r + pj (nm r) f P P s) = (U.2.2.1 129 4).2 (bs r + pj (nm r) f P P s'))))) (fun zs hza iha => ?_) (0, H) ⟨h, (ur.refl m C H), (show uq F293a U (ud m H) from by rw [e]; exact uq.refl _ _), (show 0 ≤ nf from (by omega)), (show CLJ (ud m H) (pd f 0 P) (fun s s' => (∀ r, r < 0 → (U.2.2.1 129 4).2 (bs r + pj (nm r) f P P s) = (U.2.2.1 129 4).2 (bs r + pj (nm r) f P P s'))) from by rw [e]; exact ⟨cl0, hcl0, fun s s' hs hs' hc r hr => absurd hr (Nat.not_lt_zero r)⟩)⟩
  obtain ⟨q, Hsa⟩ := zs
  obtain ⟨ua, hta, da, hq, hCJ0⟩ := hza
  have ua : um m Hsa := ua
  have hta : ur m C H Hsa := hta
  have zza : uq F293a U (ud m Hsa) := da
  have hq : q ≤ nf := hq
  have hCJ0 : CLJ (ud m Hsa) (pd f 0 P) (fun s s' => (∀ r, r < q → (U.2.2.1 129 4).2 (bs r + pj (nm r) f P P s) = (U.2.2.1 129 4).2 (bs r + pj (nm r) f P P s'))) := hCJ0
  obtain ⟨Va, da⟩ : ∃ V, ud m Hsa = V := ⟨_, rfl⟩
  rw [da] at zza hCJ0
  have qfa : uq F293 U Va := (uq.refl F293 U).tr zza rfl
  show mu_W _ _ (2, [(1, .inl (nI q)), (0, .inr (.inr (some 129)))], [], Hsa) _
  refine mw_go mu_g293 (k := 3) (f1 := (7, [(1, .inl (nI q)), (0, .inr (.inr (some 129)))], [.inr (.inr (mu_r Hsa 129 1)), .inl (nI q)], Hsa)) (C := [mu_is Hsa (some 129) 9]) rfl (show mu_is Hsa (some 129) 9 from (ua.1.1.is rfl)) ?_
  rw [(ua.1.1.r (p := 129) (j := 1) (q := 130) rfl)]
  refine mw_go mu_g293 (k := 1) (f1 := (10, [(1, .inl (nI q)), (0, .inr (.inr (some 129)))], [.inl (mu_i Hsa 130 2), .inl (nI q)], Hsa)) (C := [mu_is Hsa (some 130) 10]) rfl (show mu_is Hsa (some 130) 10 from (ua.1.1.is rfl)) ?_
  rw [(show mu_i Hsa 130 2 = (nI nf) from (ua.size da (j := 24) (by decide) rfl).trans (congrArg nI ((congrArg Prod.fst (show Va.1 24 = (U.1 24) from (zza.t 24 rfl))).trans hnf)))]
  refine mw_if (P := (nI q) < (nI nf)) (a := 13) (b := 45) (fun _ => rfl) trivial (fun h1 => ?_) (fun h1 => ?_)
  · -- 13: (nI q) < (nI nf)
    have nh1 : q < nf := (nI_ltI (by omega) (by omega)).mp (show nI q < nI nf from h1)
    refine mw_go mu_g293 (k := 3) (f1 := (18, [(1, .inl (nI q)), (0, .inr (.inr (some 129)))], [.inr (.inr (mu_r Hsa 129 1)), .inr (.inr (some 129))], Hsa)) (C := [mu_is Hsa (some 129) 9]) rfl (show mu_is Hsa (some 129) 9 from (ua.1.1.is rfl)) ?_
    rw [(ua.1.1.r (p := 129) (j := 1) (q := 130) rfl)]
    refine mw_go mu_g293 (k := 2) (f1 := (20, [(1, .inl (nI q)), (0, .inr (.inr (some 129)))], [.inl (0 : Int32), .inl (nI q), .inr (.inr (some 130)), .inr (.inr (some 129))], Hsa)) (C := []) rfl trivial ?_
    refine mw_cIe (fun _ => rfl) (show mu_is Hsa (some 130) 10 from (ua.1.1.is rfl)) (ua.getr (d := (d + 6)) da (j := 24) (by decide) rfl (nI q) (c := 0) (by decide)) ?_
    rw [show (tget (Va.1 24) (nI q) 0) = (nm q) from ((congrArg (fun z => tget z (nI q) 0) (show Va.1 24 = (U.1 24) from (zza.t 24 rfl))).trans (tget_nI (by first | omega | decide))).trans (hF q (by omega)).1]
    refine mw_go mu_g293 (k := 2) (f1 := (27, [(1, .inl (nI q)), (0, .inr (.inr (some 129)))], [.inr (.inr (mu_r Hsa 129 4)), .inl (nm q), .inr (.inr (some 129))], Hsa)) (C := [mu_is Hsa (some 129) 9]) rfl (show mu_is Hsa (some 129) 9 from (ua.1.1.is rfl)) ?_
    rw [(show mu_r Hsa 129 4 = (U.2.2.2.1 129 4) from (ud_q (U := Va) (m := m) (P := 129) (j := 4) da rfl).trans (zza.r 129 4 rfl))]
    refine mw_go mu_g293 (k := 2) (f1 := (31, [(1, .inl (nI q)), (0, .inr (.inr (some 129)))], [.inr (.inr (mu_r Hsa 129 1)), .inr (.inr (U.2.2.2.1 129 4)), .inl (nm q), .inr (.inr (some 129))], Hsa)) (C := [mu_is Hsa (some 129) 9]) rfl (show mu_is Hsa (some 129) 9 from (ua.1.1.is rfl)) ?_
    rw [(ua.1.1.r (p := 129) (j := 1) (q := 130) rfl)]
    refine mw_go mu_g293 (k := 2) (f1 := (33, [(1, .inl (nI q)), (0, .inr (.inr (some 129)))], [.inl (2 : Int32), .inl (nI q), .inr (.inr (some 130)), .inr (.inr (U.2.2.2.1 129 4)), .inl (nm q), .inr (.inr (some 129))], Hsa)) (C := []) rfl trivial ?_
    refine mw_cIe (fun _ => rfl) (show mu_is Hsa (some 130) 10 from (ua.1.1.is rfl)) (ua.getr (d := (d + 6)) da (j := 24) (by decide) rfl (nI q) (c := 2) (by decide)) ?_
    rw [show (tget (Va.1 24) (nI q) 2) = (nI (bs q)) from ((congrArg (fun z => tget z (nI q) 2) (show Va.1 24 = (U.1 24) from (zza.t 24 rfl))).trans (tget_nI (by first | omega | decide))).trans (hF q (by omega)).2.1]
    have hqn : q < nf := by omega
    refine mw_cV (fun _ => rfl) (show mu_is Hsa (some 129) 9 from (ua.1.1.is rfl)) (by have y := rl_refine4 (d := (d + 4)) (C := C) (kb := kb) (bs := bs q) (mk := nm q) (ky := fun t => (U.2.2.1 129 4).2 (bs q + pj (nm q) f P P t)) ua da (spx_keep hK.1 (show (Va.2.1 99 4) = (U.2.1 99 4) from (zza.i 99 4 rfl)) (show (Va.2.1 99 10) = (U.2.1 99 10) from (zza.i 99 10 rfl)) (show (Va.2.1 99 11) = (U.2.1 99 11) from (zza.i 99 11 rfl)) (show (Va.2.1 99 12) = (U.2.1 99 12) from (zza.i 99 12 rfl)) (show (Va.2.2.1 99 5) = (U.2.2.1 99 5) from (zza.a 99 5 rfl)) (show (Va.2.2.1 99 7) = (U.2.2.1 99 7) from (zza.a 99 7 rfl)) (show (Va.2.2.1 99 6) = (U.2.2.1 99 6) from (zza.a 99 6 rfl)) (show (Va.2.2.1 99 8).1 = (U.2.2.1 99 8).1 from (zza.n 99 8 rfl)) (show (Va.2.2.1 99 18).1 = (U.2.2.1 99 18).1 from (zza.n 99 18 rfl)) (show (Va.2.2.2.1 100 0) = (U.2.2.2.1 100 0) from (zza.r 100 0 rfl)) (show (Va.2.2.2.1 99 0) = (U.2.2.2.1 99 0) from (zza.r 99 0 rfl))) (by rw [(show (Va.2.2.1 129 7).1 = (U.2.2.1 129 7).1 from (zza.n 129 7 rfl))]; exact ha7) (by rw [(show (Va.2.2.1 129 7).1 = (U.2.2.1 129 7).1 from (zza.n 129 7 rfl))]; exact ha7b) (by rw [(show (Va.2.2.1 129 8).1 = (U.2.2.1 129 8).1 from (zza.n 129 8 rfl))]; exact ha8) (by rw [(show (Va.2.2.1 129 8).1 = (U.2.2.1 129 8).1 from (zza.n 129 8 rfl))]; exact ha8b) (by rw [(show (Va.2.2.1 129 9).1 = (U.2.2.1 129 9).1 from (zza.n 129 9 rfl))]; exact ha9) hkb hTb (fun t _ => by rw [(show (Va.2.2.1 129 4) = (U.2.2.1 129 4) from (zza.a 129 4 rfl))]) (by rw [(show (Va.2.2.1 129 4).1 = (U.2.2.1 129 4).1 from (zza.n 129 4 rfl))]; exact (hF q hqn).2.2) (by rw [(show (Va.2.2.1 129 4).1 = (U.2.2.1 129 4).1 from (zza.n 129 4 rfl))]; exact h4b) trivial; rw [show Va.2.2.2.1 129 4 = U.2.2.2.1 129 4 from (zza.r 129 4 rfl)] at y; exact y) (fun Q4 q4 => ?_)
    obtain ⟨u4, r4, z4, hCL⟩ := q4
    have ht4 : ur m C H Q4 := hta.trans r4
    obtain ⟨V4, d4⟩ : ∃ V, ud m Q4 = V := ⟨_, rfl⟩
    rw [d4] at z4 hCL
    have qf4 : uq F293 U V4 := qfa.tr z4 rfl
    refine mw_go mu_g293 (k := 1) (f1 := (42, [(1, .inl ((nI q) + 1)), (0, .inr (.inr (some 129)))], [], Q4)) (C := []) rfl trivial ?_
    rw [(show ((nI q) + 1) = (nI (q + 1)) from (nI_add q 1))]
    refine mw_go mu_g293 (k := 1) (f1 := (2, [(1, .inl (nI (q + 1))), (0, .inr (.inr (some 129)))], [], Q4)) (C := []) rfl trivial ?_
    exact mw_sub (by simp) (iha (q + 1, Q4) ⟨u4, ht4, (show uq F293a U (ud m Q4) from by rw [d4]; exact (zza.tr z4 rfl)), (show (q + 1) ≤ nf from (by omega)), (show CLJ (ud m Q4) (pd f 0 P) (fun s s' => (∀ r, r < (q + 1) → (U.2.2.1 129 4).2 (bs r + pj (nm r) f P P s) = (U.2.2.1 129 4).2 (bs r + pj (nm r) f P P s'))) from by rw [d4]; exact (CLJ.cls hCJ0 gpd hCL (fun s s' hs hs' hR he r hr => by by_cases y : r = q; (rw [y]; exact he); (exact hR r (by omega)))))⟩ (by show nf - (q + 1) < nf - q; omega))
  · -- 45: not (nI q) < (nI nf)
    have nh1 : ¬ q < nf := fun z => h1 (show nI q < nI nf from (nI_ltI (by omega) (by omega)).mpr z)
    refine mw_go mu_g293 (k := 2) (f1 := (49, [(1, .inl (nI q)), (0, .inr (.inr (some 129)))], [.inr (.inr (mu_r Hsa 129 2))], Hsa)) (C := [mu_is Hsa (some 129) 9]) rfl (show mu_is Hsa (some 129) 9 from (ua.1.1.is rfl)) ?_
    rw [(ua.1.1.r (p := 129) (j := 2) (q := 118) rfl)]
    refine mw_cV (fun _ => rfl) (show mu_is Hsa (some 118) 10 from (ua.1.1.is rfl)) (ua.clearr (C := C) (d := (d + 6)) da (j := 23) (Or.inr ⟨by decide, by decide⟩) rfl) (fun Q5 q5 => ?_)
    obtain ⟨u5, r5, d5⟩ := q5
    have ht5 : ur m C H Q5 := hta.trans r5
    have qf5 : uq F293 U (upT Va (ac 23 Va.1 0)) := qfa.ac rfl
    refine mw_go mu_g293 (k := 4) (f1 := (56, [(2, .inl (0 : Int32)), (1, .inl (0 : Int32)), (0, .inr (.inr (some 129)))], [], Q5)) (C := []) rfl trivial ?_
    show mu_W _ _ (56, [(2, .inl (nI 0)), (1, .inl (0 : Int32)), (0, .inr (.inr (some 129)))], [], Q5) _
    refine mw_sub (L' := [(2, .inl (nI 0)), (1, .inl (0 : Int32)), (0, .inr (.inr (some 129)))]) (by simp) ?_
    refine mw_down (α := Nat × Int32 × mu_H) (fun zs => (56, [(2, .inl (nI zs.1)), (1, .inl zs.2.1), (0, .inr (.inr (some 129)))], [], zs.2.2)) (fun zs => nw - zs.1) (fun zs => um m zs.2.2 ∧ ur m C H zs.2.2 ∧ (uq F293b (upT Va (ac 23 Va.1 0)) (ud m zs.2.2)) ∧ (zs.1 ≤ nw) ∧ (KNV m (ud m zs.2.2) Y P f od es) ∧ (MCS (ud m zs.2.2)) ∧ (MLW (ud m zs.2.2) Y P f od) ∧ (((ud m zs.2.2).1 23).1 ≤ 65) ∧ (VLA ((ud m zs.2.2).1 23) Y es) ∧ (∀ r, r < zs.1 → (U.1 25).2 r 4 = 1 → ¬ wn r = 0 → ((ud m zs.2.2).1 23).1 ≤ 64 → EQT Y U f P od ((ud m zs.2.2).1 23) (wi r) (wa r) (wn r)) ∧ (∀ r, r < zs.1 → (U.1 25).2 r 4 = 1 → ¬ wn r = 0 → ∀ s s', (∀ j, j < P → ¬ mb zs.2.1 j = 0 → dgz f P s j = dgz f P s' j) → (∀ t, trs Y U f P od (wi r) (wa r) (wn r) s t = trs Y U f P od (wi r) (wa r) (wn r) s' t)) ∧ (CLJ (ud m zs.2.2) (pd f 0 P) (fun s s' => (∀ r, r < nf → (U.2.2.1 129 4).2 (bs r + pj (nm r) f P P s) = (U.2.2.1 129 4).2 (bs r + pj (nm r) f P P s')) ∧ (∀ r, r < zs.1 → (U.1 25).2 r 4 = 0 → ∀ v, CHSw Y U f P od (wk r) (wa r) (wn r) (wi r) s v ↔ CHSw Y U f P od (wk r) (wa r) (wn r) (wi r) s' v)))) (fun zs hzb ihb => ?_) (0, (0 : Int32), Q5) ⟨u5, ht5, (show uq F293b (upT Va (ac 23 Va.1 0)) (ud m Q5) from by rw [d5]; exact uq.refl _ _), (show 0 ≤ nw from (by omega)), (show KNV m (ud m Q5) Y P f od es from by rw [d5]; exact (hK.q qf5 rfl)), (show MCS (ud m Q5) from by rw [d5]; exact (show MCS (upT Va (ac 23 Va.1 0)) from ⟨by rw [(show ((upT Va (ac 23 Va.1 0)).1 22) = (U.1 22) from (zza.t 22 rfl))]; exact hM.1, by rw [(show ((upT Va (ac 23 Va.1 0)).2.2.1 100 3).1 = (U.2.2.1 100 3).1 from (zza.n 100 3 rfl))]; exact hM.2.1, by rw [(show ((upT Va (ac 23 Va.1 0)).2.2.1 100 8).1 = (U.2.2.1 100 8).1 from (zza.n 100 8 rfl))]; exact hM.2.2.1, by rw [(show ((upT Va (ac 23 Va.1 0)).2.2.1 100 12).1 = (U.2.2.1 100 12).1 from (zza.n 100 12 rfl))]; exact hM.2.2.2.1, by rw [(show ((upT Va (ac 23 Va.1 0)).2.2.1 100 13).1 = (U.2.2.1 100 13).1 from (zza.n 100 13 rfl))]; exact hM.2.2.2.2.1, by rw [(show ((upT Va (ac 23 Va.1 0)).2.2.1 100 15).1 = (U.2.2.1 100 15).1 from (zza.n 100 15 rfl))]; exact hM.2.2.2.2.2⟩)), (show MLW (ud m Q5) Y P f od from by rw [d5]; exact (show MLW (upT Va (ac 23 Va.1 0)) Y P f od from hL.imp (fun y => by rw [(show ((upT Va (ac 23 Va.1 0)).1 21) = (U.1 21) from (zza.t 21 rfl))]; exact y) (fun ⟨a0, N0, i0, y1, y2, y3⟩ => ⟨a0, N0, i0, y1, y2, y3.keep (show ((upT Va (ac 23 Va.1 0)).1 21) = (U.1 21) from (zza.t 21 rfl)) (show ((upT Va (ac 23 Va.1 0)).1 22) = (U.1 22) from (zza.t 22 rfl)) (show ((upT Va (ac 23 Va.1 0)).1 15) = (U.1 15) from (zza.t 15 rfl)) (show ((upT Va (ac 23 Va.1 0)).2.2.1 100 3) = (U.2.2.1 100 3) from (zza.a 100 3 rfl)) (show ((upT Va (ac 23 Va.1 0)).2.1 100 5) = (U.2.1 100 5) from (zza.i 100 5 rfl)) (show ((upT Va (ac 23 Va.1 0)).2.1 100 7) = (U.2.1 100 7) from (zza.i 100 7 rfl)) (show ((upT Va (ac 23 Va.1 0)).2.1 100 17) = (U.2.1 100 17) from (zza.i 100 17 rfl)) (show ((upT Va (ac 23 Va.1 0)).2.1 100 4) = (U.2.1 100 4) from (zza.i 100 4 rfl)) (show ((upT Va (ac 23 Va.1 0)).2.2.1 100 8) = (U.2.2.1 100 8) from (zza.a 100 8 rfl)) (show ((upT Va (ac 23 Va.1 0)).2.2.1 100 12).1 = (U.2.2.1 100 12).1 from (zza.n 100 12 rfl)) (show ((upT Va (ac 23 Va.1 0)).2.2.1 100 13).1 = (U.2.2.1 100 13).1 from (zza.n 100 13 rfl)) (show ((upT Va (ac 23 Va.1 0)).2.2.1 100 15).1 = (U.2.2.1 100 15).1 from (zza.n 100 15 rfl)) (show ((upT Va (ac 23 Va.1 0)).2.2.1 99 8) = (U.2.2.1 99 8) from (zza.a 99 8 rfl))⟩))), (show ((ud m Q5).1 23).1 ≤ 65 from by rw [d5]; exact (by show 0 ≤ 65; omega)), (show VLA ((ud m Q5).1 23) Y es from by rw [d5]; exact (fun r hr => absurd hr (Nat.not_lt_zero r))), (show ∀ r, r < 0 → (U.1 25).2 r 4 = 1 → ¬ wn r = 0 → ((ud m Q5).1 23).1 ≤ 64 → EQT Y U f P od ((ud m Q5).1 23) (wi r) (wa r) (wn r) from by rw [d5]; exact (fun r hr => absurd hr (Nat.not_lt_zero r))), (show ∀ r, r < 0 → (U.1 25).2 r 4 = 1 → ¬ wn r = 0 → ∀ s s', (∀ j, j < P → ¬ mb (0 : Int32) j = 0 → dgz f P s j = dgz f P s' j) → (∀ t, trs Y U f P od (wi r) (wa r) (wn r) s t = trs Y U f P od (wi r) (wa r) (wn r) s' t) from (fun r hr => absurd hr (Nat.not_lt_zero r))), (show CLJ (ud m Q5) (pd f 0 P) (fun s s' => (∀ r, r < nf → (U.2.2.1 129 4).2 (bs r + pj (nm r) f P P s) = (U.2.2.1 129 4).2 (bs r + pj (nm r) f P P s')) ∧ (∀ r, r < 0 → (U.1 25).2 r 4 = 0 → ∀ v, CHSw Y U f P od (wk r) (wa r) (wn r) (wi r) s v ↔ CHSw Y U f P od (wk r) (wa r) (wn r) (wi r) s' v)) from by rw [d5]; exact ((hCJ0.same (show ((upT Va (ac 23 Va.1 0)).2.2.1 129 7) = (Va.2.2.1 129 7) from rfl)).mono (fun s s' hs hs' hR => ⟨fun r hr => hR r (by omega), fun r hr => absurd hr (Nat.not_lt_zero r)⟩)))⟩
    obtain ⟨k, am, Hsb⟩ := zs
    obtain ⟨ub, htb, db, hk, hKN, hMC, hLD, hsz, hVL, hEQ, hAM, hCJ1⟩ := hzb
    have ub : um m Hsb := ub
    have htb : ur m C H Hsb := htb
    have zzb : uq F293b (upT Va (ac 23 Va.1 0)) (ud m Hsb) := db
    have hk : k ≤ nw := hk
    have hKN : KNV m (ud m Hsb) Y P f od es := hKN
    have hMC : MCS (ud m Hsb) := hMC
    have hLD : MLW (ud m Hsb) Y P f od := hLD
    have hsz : ((ud m Hsb).1 23).1 ≤ 65 := hsz
    have hVL : VLA ((ud m Hsb).1 23) Y es := hVL
    have hEQ : ∀ r, r < k → (U.1 25).2 r 4 = 1 → ¬ wn r = 0 → ((ud m Hsb).1 23).1 ≤ 64 → EQT Y U f P od ((ud m Hsb).1 23) (wi r) (wa r) (wn r) := hEQ
    have hAM : ∀ r, r < k → (U.1 25).2 r 4 = 1 → ¬ wn r = 0 → ∀ s s', (∀ j, j < P → ¬ mb am j = 0 → dgz f P s j = dgz f P s' j) → (∀ t, trs Y U f P od (wi r) (wa r) (wn r) s t = trs Y U f P od (wi r) (wa r) (wn r) s' t) := hAM
    have hCJ1 : CLJ (ud m Hsb) (pd f 0 P) (fun s s' => (∀ r, r < nf → (U.2.2.1 129 4).2 (bs r + pj (nm r) f P P s) = (U.2.2.1 129 4).2 (bs r + pj (nm r) f P P s')) ∧ (∀ r, r < k → (U.1 25).2 r 4 = 0 → ∀ v, CHSw Y U f P od (wk r) (wa r) (wn r) (wi r) s v ↔ CHSw Y U f P od (wk r) (wa r) (wn r) (wi r) s' v)) := hCJ1
    obtain ⟨Vb, db⟩ : ∃ V, ud m Hsb = V := ⟨_, rfl⟩
    rw [db] at zzb hKN hMC hLD hsz hVL hEQ hCJ1
    have qfb : uq F293 U Vb := qf5.tr zzb rfl
    show mu_W _ _ (56, [(2, .inl (nI k)), (1, .inl am), (0, .inr (.inr (some 129)))], [], Hsb) _
    refine mw_go mu_g293 (k := 3) (f1 := (61, [(2, .inl (nI k)), (1, .inl am), (0, .inr (.inr (some 129)))], [.inr (.inr (mu_r Hsb 129 3)), .inl (nI k)], Hsb)) (C := [mu_is Hsb (some 129) 9]) rfl (show mu_is Hsb (some 129) 9 from (ub.1.1.is rfl)) ?_
    rw [(ub.1.1.r (p := 129) (j := 3) (q := 132) rfl)]
    refine mw_go mu_g293 (k := 1) (f1 := (64, [(2, .inl (nI k)), (1, .inl am), (0, .inr (.inr (some 129)))], [.inl (mu_i Hsb 132 2), .inl (nI k)], Hsb)) (C := [mu_is Hsb (some 132) 10]) rfl (show mu_is Hsb (some 132) 10 from (ub.1.1.is rfl)) ?_
    rw [(show mu_i Hsb 132 2 = (nI nw) from (ub.size db (j := 25) (by decide) rfl).trans (congrArg nI ((congrArg Prod.fst (show Vb.1 25 = (U.1 25) from ((zzb.t 25 rfl).trans (zza.t 25 rfl)))).trans hnw)))]
    refine mw_if (P := (nI k) < (nI nw)) (a := 67) (b := 189) (fun _ => rfl) trivial (fun h6 => ?_) (fun h6 => ?_)
    · -- 67: (nI k) < (nI nw)
      have nh6 : k < nw := (nI_ltI (by omega) (by omega)).mp (show nI k < nI nw from h6)
      have hkn : k < nw := by omega
      have h1k : (fun y : Nat => y) k = k := rfl
      obtain ⟨⟨w0, w1, w2, hwi, hwb⟩, hwr⟩ := hWD.2 k hkn
      rcases WID3 hwr with ⟨w4, hw0n⟩ | ⟨w4, pl, hnx0, al, Lk, rs, hal, hrg, hLk, hsr, hwk⟩ | ⟨w4, hrg, rs, hs0, hst⟩
      · -- E
        have hrg : rgs Y (im Y (wi k)) [] (wa k) (wa k + wn k) := by rw [hw0n]; exact rgs_nil (by omega)
        refine mw_go mu_g293 (k := 2) (f1 := (71, [(2, .inl (nI k)), (1, .inl am), (0, .inr (.inr (some 129)))], [.inr (.inr (mu_r Hsb 129 0))], Hsb)) (C := [mu_is Hsb (some 129) 9]) rfl (show mu_is Hsb (some 129) 9 from (ub.1.1.is rfl)) ?_
        rw [(ub.1.1.r (p := 129) (j := 0) (q := 99) rfl)]
        refine mw_go mu_g293 (k := 1) (f1 := (74, [(2, .inl (nI k)), (1, .inl am), (0, .inr (.inr (some 129)))], [.inr (.inr (mu_r Hsb 99 1))], Hsb)) (C := [mu_is Hsb (some 99) 13]) rfl (show mu_is Hsb (some 99) 13 from (ub.1.1.is rfl)) ?_
        rw [(ub.1.1.r (p := 99) (j := 1) (q := 100) rfl)]
        refine mw_go mu_g293 (k := 2) (f1 := (78, [(2, .inl (nI k)), (1, .inl am), (0, .inr (.inr (some 129)))], [.inr (.inr (mu_r Hsb 129 3)), .inr (.inr (some 100))], Hsb)) (C := [mu_is Hsb (some 129) 9]) rfl (show mu_is Hsb (some 129) 9 from (ub.1.1.is rfl)) ?_
        rw [(ub.1.1.r (p := 129) (j := 3) (q := 132) rfl)]
        refine mw_go mu_g293 (k := 2) (f1 := (80, [(2, .inl (nI k)), (1, .inl am), (0, .inr (.inr (some 129)))], [.inl (0 : Int32), .inl (nI k), .inr (.inr (some 132)), .inr (.inr (some 100))], Hsb)) (C := []) rfl trivial ?_
        refine mw_cIe (fun _ => rfl) (show mu_is Hsb (some 132) 10 from (ub.1.1.is rfl)) (ub.getr (d := (d + 6)) db (j := 25) (by decide) rfl (nI k) (c := 0) (by decide)) ?_
        rw [show (tget (Vb.1 25) (nI k) 0) = (nI (wa k)) from ((congrArg (fun z => tget z (nI k) 0) (show Vb.1 25 = (U.1 25) from ((zzb.t 25 rfl).trans (zza.t 25 rfl)))).trans (tget_nI (by first | omega | decide))).trans w0]
        refine mw_go mu_g293 (k := 2) (f1 := (87, [(2, .inl (nI k)), (1, .inl am), (0, .inr (.inr (some 129)))], [.inr (.inr (mu_r Hsb 129 3)), .inl (nI (wa k)), .inr (.inr (some 100))], Hsb)) (C := [mu_is Hsb (some 129) 9]) rfl (show mu_is Hsb (some 129) 9 from (ub.1.1.is rfl)) ?_
        rw [(ub.1.1.r (p := 129) (j := 3) (q := 132) rfl)]
        refine mw_go mu_g293 (k := 2) (f1 := (89, [(2, .inl (nI k)), (1, .inl am), (0, .inr (.inr (some 129)))], [.inl (1 : Int32), .inl (nI k), .inr (.inr (some 132)), .inl (nI (wa k)), .inr (.inr (some 100))], Hsb)) (C := []) rfl trivial ?_
        refine mw_cIe (fun _ => rfl) (show mu_is Hsb (some 132) 10 from (ub.1.1.is rfl)) (ub.getr (d := (d + 6)) db (j := 25) (by decide) rfl (nI k) (c := 1) (by decide)) ?_
        rw [show (tget (Vb.1 25) (nI k) 1) = (nI (wa k + wn k)) from ((congrArg (fun z => tget z (nI k) 1) (show Vb.1 25 = (U.1 25) from ((zzb.t 25 rfl).trans (zza.t 25 rfl)))).trans (tget_nI (by first | omega | decide))).trans w1]
        refine mw_go mu_g293 (k := 2) (f1 := (96, [(2, .inl (nI k)), (1, .inl am), (0, .inr (.inr (some 129)))], [.inr (.inr (mu_r Hsb 129 3)), .inl (nI (wa k + wn k)), .inl (nI (wa k)), .inr (.inr (some 100))], Hsb)) (C := [mu_is Hsb (some 129) 9]) rfl (show mu_is Hsb (some 129) 9 from (ub.1.1.is rfl)) ?_
        rw [(ub.1.1.r (p := 129) (j := 3) (q := 132) rfl)]
        refine mw_go mu_g293 (k := 2) (f1 := (98, [(2, .inl (nI k)), (1, .inl am), (0, .inr (.inr (some 129)))], [.inl (2 : Int32), .inl (nI k), .inr (.inr (some 132)), .inl (nI (wa k + wn k)), .inl (nI (wa k)), .inr (.inr (some 100))], Hsb)) (C := []) rfl trivial ?_
        refine mw_cIe (fun _ => rfl) (show mu_is Hsb (some 132) 10 from (ub.1.1.is rfl)) (ub.getr (d := (d + 6)) db (j := 25) (by decide) rfl (nI k) (c := 2) (by decide)) ?_
        rw [show (tget (Vb.1 25) (nI k) 2) = (nI (wi k)) from ((congrArg (fun z => tget z (nI k) 2) (show Vb.1 25 = (U.1 25) from ((zzb.t 25 rfl).trans (zza.t 25 rfl)))).trans (tget_nI (by first | omega | decide))).trans w2]
        refine mw_cV (fun _ => rfl) (show mu_is Hsb (some 100) 5 from (ub.1.1.is rfl)) (mc_load3 (d := (d + 2)) (C := C) (a0 := wa k) (N0 := wn k) (i0 := wi k) ub db hKN hMC hLD hwi hrg hC21 hC21b) (fun Q10 q10 => ?_)
        obtain ⟨u10, r10, z10, hKN1, hMC1, hLD1, -⟩ := q10
        have ht10 : ur m C H Q10 := htb.trans r10
        obtain ⟨V10, d10⟩ : ∃ V, ud m Q10 = V := ⟨_, rfl⟩
        rw [d10] at z10 hKN1 hMC1 hLD1
        have qf10 : uq F293 U V10 := qfb.tr z10 rfl
        obtain ⟨mk, hmk⟩ : ∃ mk, V10.2.1 100 4 = mk := ⟨_, rfl⟩
        refine mw_go mu_g293 (k := 2) (f1 := (108, [(2, .inl (nI k)), (1, .inl am), (0, .inr (.inr (some 129)))], [.inr (.inr (mu_r Q10 129 3))], Q10)) (C := [mu_is Q10 (some 129) 9]) rfl (show mu_is Q10 (some 129) 9 from (u10.1.1.is rfl)) ?_
        rw [(u10.1.1.r (p := 129) (j := 3) (q := 132) rfl)]
        refine mw_go mu_g293 (k := 2) (f1 := (110, [(2, .inl (nI k)), (1, .inl am), (0, .inr (.inr (some 129)))], [.inl (4 : Int32), .inl (nI k), .inr (.inr (some 132))], Q10)) (C := []) rfl trivial ?_
        refine mw_cIe (fun _ => rfl) (show mu_is Q10 (some 132) 10 from (u10.1.1.is rfl)) (u10.getr (d := (d + 6)) d10 (j := 25) (by decide) rfl (nI k) (c := 4) (by decide)) ?_
        rw [show (tget (V10.1 25) (nI k) 4) = (1 : Int32) from ((congrArg (fun z => tget z (nI k) 4) (show V10.1 25 = (U.1 25) from ((z10.t 25 rfl).trans ((zzb.t 25 rfl).trans (zza.t 25 rfl))))).trans (tget_nI (by first | omega | decide))).trans w4]
        refine mw_if (P := (1 : Int32) = 0) (a := 116) (b := 135) (fun _ => rfl) trivial (fun h12 => absurd h12 (by decide)) (fun h12 => ?_)
        refine mw_go mu_g293 (k := 3) (f1 := (140, [(2, .inl (nI k)), (1, .inl am), (0, .inr (.inr (some 129)))], [.inr (.inr (mu_r Q10 129 3)), .inr (.inr (some 129))], Q10)) (C := [mu_is Q10 (some 129) 9]) rfl (show mu_is Q10 (some 129) 9 from (u10.1.1.is rfl)) ?_
        rw [(u10.1.1.r (p := 129) (j := 3) (q := 132) rfl)]
        refine mw_go mu_g293 (k := 2) (f1 := (142, [(2, .inl (nI k)), (1, .inl am), (0, .inr (.inr (some 129)))], [.inl (0 : Int32), .inl (nI k), .inr (.inr (some 132)), .inr (.inr (some 129))], Q10)) (C := []) rfl trivial ?_
        refine mw_cIe (fun _ => rfl) (show mu_is Q10 (some 132) 10 from (u10.1.1.is rfl)) (u10.getr (d := (d + 6)) d10 (j := 25) (by decide) rfl (nI k) (c := 0) (by decide)) ?_
        rw [show (tget (V10.1 25) (nI k) 0) = (nI (wa k)) from ((congrArg (fun z => tget z (nI k) 0) (show V10.1 25 = (U.1 25) from ((z10.t 25 rfl).trans ((zzb.t 25 rfl).trans (zza.t 25 rfl))))).trans (tget_nI (by first | omega | decide))).trans w0]
        refine mw_go mu_g293 (k := 2) (f1 := (149, [(2, .inl (nI k)), (1, .inl am), (0, .inr (.inr (some 129)))], [.inr (.inr (mu_r Q10 129 3)), .inl (nI (wa k)), .inr (.inr (some 129))], Q10)) (C := [mu_is Q10 (some 129) 9]) rfl (show mu_is Q10 (some 129) 9 from (u10.1.1.is rfl)) ?_
        rw [(u10.1.1.r (p := 129) (j := 3) (q := 132) rfl)]
        refine mw_go mu_g293 (k := 2) (f1 := (151, [(2, .inl (nI k)), (1, .inl am), (0, .inr (.inr (some 129)))], [.inl (1 : Int32), .inl (nI k), .inr (.inr (some 132)), .inl (nI (wa k)), .inr (.inr (some 129))], Q10)) (C := []) rfl trivial ?_
        refine mw_cIe (fun _ => rfl) (show mu_is Q10 (some 132) 10 from (u10.1.1.is rfl)) (u10.getr (d := (d + 6)) d10 (j := 25) (by decide) rfl (nI k) (c := 1) (by decide)) ?_
        rw [show (tget (V10.1 25) (nI k) 1) = (nI (wa k + wn k)) from ((congrArg (fun z => tget z (nI k) 1) (show V10.1 25 = (U.1 25) from ((z10.t 25 rfl).trans ((zzb.t 25 rfl).trans (zza.t 25 rfl))))).trans (tget_nI (by first | omega | decide))).trans w1]
        refine mw_go mu_g293 (k := 2) (f1 := (158, [(2, .inl (nI k)), (1, .inl am), (0, .inr (.inr (some 129)))], [.inr (.inr (mu_r Q10 129 3)), .inl (nI (wa k + wn k)), .inl (nI (wa k)), .inr (.inr (some 129))], Q10)) (C := [mu_is Q10 (some 129) 9]) rfl (show mu_is Q10 (some 129) 9 from (u10.1.1.is rfl)) ?_
        rw [(u10.1.1.r (p := 129) (j := 3) (q := 132) rfl)]
        refine mw_go mu_g293 (k := 2) (f1 := (160, [(2, .inl (nI k)), (1, .inl am), (0, .inr (.inr (some 129)))], [.inl (2 : Int32), .inl (nI k), .inr (.inr (some 132)), .inl (nI (wa k + wn k)), .inl (nI (wa k)), .inr (.inr (some 129))], Q10)) (C := []) rfl trivial ?_
        refine mw_cIe (fun _ => rfl) (show mu_is Q10 (some 132) 10 from (u10.1.1.is rfl)) (u10.getr (d := (d + 6)) d10 (j := 25) (by decide) rfl (nI k) (c := 2) (by decide)) ?_
        rw [show (tget (V10.1 25) (nI k) 2) = (nI (wi k)) from ((congrArg (fun z => tget z (nI k) 2) (show V10.1 25 = (U.1 25) from ((z10.t 25 rfl).trans ((zzb.t 25 rfl).trans (zza.t 25 rfl))))).trans (tget_nI (by first | omega | decide))).trans w2]
        have hj0c : V10.1 0 = Y 0 := hKN1.2.2.1.1 0 (by decide)
        refine mw_cV (fun _ => rfl) (show mu_is Q10 (some 129) 9 from (u10.1.1.is rfl)) (rl_noteE (d := (d + 3)) (C := C) (a := wa k) (N := wn k) (i0 := wi k) (Y := Y) u10 d10 (show (V10.2.2.2.1 99 0) = some m from ((z10.r 99 0 rfl).trans ((zzb.r 99 0 rfl).trans ((zza.r 99 0 rfl).trans hmo)))) hj0c hCc (by omega) (by omega) hw0n) (fun Q16 q16 => ?_)
        obtain ⟨u16, r16, z16, hN23⟩ := q16
        have ht16 : ur m C H Q16 := ht10.trans r16
        obtain ⟨V16, d16⟩ : ∃ V, ud m Q16 = V := ⟨_, rfl⟩
        rw [d16] at z16 hN23
        have qf16 : uq F293 U V16 := qf10.tr z16 rfl
        have hKN2 : KNV m V16 Y P f od es := hKN1.q z16 rfl
        refine mw_go mu_g293 (k := 3) (f1 := (171, [(2, .inl (nI k)), (1, .inl am), (0, .inr (.inr (some 129)))], [.inr (.inr (mu_r Q16 129 0)), .inl am], Q16)) (C := [mu_is Q16 (some 129) 9]) rfl (show mu_is Q16 (some 129) 9 from (u16.1.1.is rfl)) ?_
        rw [(u16.1.1.r (p := 129) (j := 0) (q := 99) rfl)]
        refine mw_go mu_g293 (k := 1) (f1 := (174, [(2, .inl (nI k)), (1, .inl am), (0, .inr (.inr (some 129)))], [.inr (.inr (mu_r Q16 99 1)), .inl am], Q16)) (C := [mu_is Q16 (some 99) 13]) rfl (show mu_is Q16 (some 99) 13 from (u16.1.1.is rfl)) ?_
        rw [(u16.1.1.r (p := 99) (j := 1) (q := 100) rfl)]
        refine mw_go mu_g293 (k := 1) (f1 := (177, [(2, .inl (nI k)), (1, .inl am), (0, .inr (.inr (some 129)))], [.inl (mu_i Q16 100 4), .inl am], Q16)) (C := [mu_is Q16 (some 100) 5]) rfl (show mu_is Q16 (some 100) 5 from (u16.1.1.is rfl)) ?_
        rw [(show mu_i Q16 100 4 = mk from (ud_i (U := V16) (m := m) (P := 100) (j := 4) d16 rfl).trans ((z16.i 100 4 rfl).trans hmk))]
        refine mw_go mu_g293 (k := 5) (f1 := (186, [(2, .inl ((nI k) + 1)), (1, .inl (am ||| (mk &&& (16383 : Int32)))), (0, .inr (.inr (some 129)))], [], Q16)) (C := []) rfl trivial ?_
        rw [(show ((nI k) + 1) = (nI (k + 1)) from (nI_add k 1))]
        refine mw_go mu_g293 (k := 1) (f1 := (56, [(2, .inl (nI (k + 1))), (1, .inl (am ||| (mk &&& (16383 : Int32)))), (0, .inr (.inr (some 129)))], [], Q16)) (C := []) rfl trivial ?_
        exact mw_sub (by simp) (ihb (k + 1, (am ||| (mk &&& (16383 : Int32))), Q16) ⟨u16, ht16, (show uq F293b (upT Va (ac 23 Va.1 0)) (ud m Q16) from by rw [d16]; exact ((zzb.tr z10 rfl).tr z16 rfl)), (show (k + 1) ≤ nw from (by omega)), (show KNV m (ud m Q16) Y P f od es from by rw [d16]; exact hKN2), (show MCS (ud m Q16) from by rw [d16]; exact (show MCS V16 from ⟨by rw [(show (V16.1 22) = (V10.1 22) from (z16.t 22 rfl))]; exact hMC1.1, by rw [(show (V16.2.2.1 100 3).1 = (V10.2.2.1 100 3).1 from (z16.n 100 3 rfl))]; exact hMC1.2.1, by rw [(show (V16.2.2.1 100 8).1 = (V10.2.2.1 100 8).1 from (z16.n 100 8 rfl))]; exact hMC1.2.2.1, by rw [(show (V16.2.2.1 100 12).1 = (V10.2.2.1 100 12).1 from (z16.n 100 12 rfl))]; exact hMC1.2.2.2.1, by rw [(show (V16.2.2.1 100 13).1 = (V10.2.2.1 100 13).1 from (z16.n 100 13 rfl))]; exact hMC1.2.2.2.2.1, by rw [(show (V16.2.2.1 100 15).1 = (V10.2.2.1 100 15).1 from (z16.n 100 15 rfl))]; exact hMC1.2.2.2.2.2⟩)), (show MLW (ud m Q16) Y P f od from by rw [d16]; exact (Or.inr ⟨wa k, wn k, wi k, by omega, hwi, hLD1.keep (show (V16.1 21) = (V10.1 21) from (z16.t 21 rfl)) (show (V16.1 22) = (V10.1 22) from (z16.t 22 rfl)) (show (V16.1 15) = (V10.1 15) from (z16.t 15 rfl)) (show (V16.2.2.1 100 3) = (V10.2.2.1 100 3) from (z16.a 100 3 rfl)) (show (V16.2.1 100 5) = (V10.2.1 100 5) from (z16.i 100 5 rfl)) (show (V16.2.1 100 7) = (V10.2.1 100 7) from (z16.i 100 7 rfl)) (show (V16.2.1 100 17) = (V10.2.1 100 17) from (z16.i 100 17 rfl)) (show (V16.2.1 100 4) = (V10.2.1 100 4) from (z16.i 100 4 rfl)) (show (V16.2.2.1 100 8) = (V10.2.2.1 100 8) from (z16.a 100 8 rfl)) (show (V16.2.2.1 100 12).1 = (V10.2.2.1 100 12).1 from (z16.n 100 12 rfl)) (show (V16.2.2.1 100 13).1 = (V10.2.2.1 100 13).1 from (z16.n 100 13 rfl)) (show (V16.2.2.1 100 15).1 = (V10.2.2.1 100 15).1 from (z16.n 100 15 rfl)) (show (V16.2.2.1 99 8) = (V10.2.2.1 99 8) from (z16.a 99 8 rfl))⟩)), (show ((ud m Q16).1 23).1 ≤ 65 from by rw [d16]; exact (by rw [hN23, (show V10.1 23 = Vb.1 23 from (z10.t 23 rfl))]; exact hsz)), (show VLA ((ud m Q16).1 23) Y es from by rw [d16]; exact (by rw [(show V16.1 23 = Vb.1 23 from hN23.trans (show V10.1 23 = Vb.1 23 from (z10.t 23 rfl)))]; exact hVL)), (show ∀ r, r < (k + 1) → (U.1 25).2 r 4 = 1 → ¬ wn r = 0 → ((ud m Q16).1 23).1 ≤ 64 → EQT Y U f P od ((ud m Q16).1 23) (wi r) (wa r) (wn r) from by rw [d16]; exact (fun r hr y4 y0 yl => by by_cases y : r = k; (rw [y] at y4 y0; exact absurd hw0n y0); (rw [(show V16.1 23 = Vb.1 23 from hN23.trans (show V10.1 23 = Vb.1 23 from (z10.t 23 rfl)))] at yl ⊢; exact hEQ r (by omega) y4 y0 yl))), (show ∀ r, r < (k + 1) → (U.1 25).2 r 4 = 1 → ¬ wn r = 0 → ∀ s s', (∀ j, j < P → ¬ mb (am ||| (mk &&& (16383 : Int32))) j = 0 → dgz f P s j = dgz f P s' j) → (∀ t, trs Y U f P od (wi r) (wa r) (wn r) s t = trs Y U f P od (wi r) (wa r) (wn r) s' t) from (fun r hr y4 y0 s s' hd t => by by_cases y : r = k; (rw [y] at y0; exact absurd hw0n y0); (exact hAM r (by omega) y4 y0 s s' (fun j hj hb => hd j hj ((mb_orand (by omega)).mpr (Or.inl hb))) t))), (show CLJ (ud m Q16) (pd f 0 P) (fun s s' => (∀ r, r < nf → (U.2.2.1 129 4).2 (bs r + pj (nm r) f P P s) = (U.2.2.1 129 4).2 (bs r + pj (nm r) f P P s')) ∧ (∀ r, r < (k + 1) → (U.1 25).2 r 4 = 0 → ∀ v, CHSw Y U f P od (wk r) (wa r) (wn r) (wi r) s v ↔ CHSw Y U f P od (wk r) (wa r) (wn r) (wi r) s' v)) from by rw [d16]; exact ((hCJ1.same (show (V16.2.2.1 129 7) = (Vb.2.2.1 129 7) from ((z16.a 129 7 rfl).trans (z10.a 129 7 rfl)))).mono (fun s s' hs hs' hR => ⟨hR.1, fun r hr y4 => by by_cases y : r = k; (rw [y] at y4; exact absurd y4 (by rw [w4]; decide)); (exact hR.2 r (by omega) y4)⟩)))⟩ (by show nw - (k + 1) < nw - k; omega))
      · -- B
        refine mw_go mu_g293 (k := 2) (f1 := (71, [(2, .inl (nI k)), (1, .inl am), (0, .inr (.inr (some 129)))], [.inr (.inr (mu_r Hsb 129 0))], Hsb)) (C := [mu_is Hsb (some 129) 9]) rfl (show mu_is Hsb (some 129) 9 from (ub.1.1.is rfl)) ?_
        rw [(ub.1.1.r (p := 129) (j := 0) (q := 99) rfl)]
        refine mw_go mu_g293 (k := 1) (f1 := (74, [(2, .inl (nI k)), (1, .inl am), (0, .inr (.inr (some 129)))], [.inr (.inr (mu_r Hsb 99 1))], Hsb)) (C := [mu_is Hsb (some 99) 13]) rfl (show mu_is Hsb (some 99) 13 from (ub.1.1.is rfl)) ?_
        rw [(ub.1.1.r (p := 99) (j := 1) (q := 100) rfl)]
        refine mw_go mu_g293 (k := 2) (f1 := (78, [(2, .inl (nI k)), (1, .inl am), (0, .inr (.inr (some 129)))], [.inr (.inr (mu_r Hsb 129 3)), .inr (.inr (some 100))], Hsb)) (C := [mu_is Hsb (some 129) 9]) rfl (show mu_is Hsb (some 129) 9 from (ub.1.1.is rfl)) ?_
        rw [(ub.1.1.r (p := 129) (j := 3) (q := 132) rfl)]
        refine mw_go mu_g293 (k := 2) (f1 := (80, [(2, .inl (nI k)), (1, .inl am), (0, .inr (.inr (some 129)))], [.inl (0 : Int32), .inl (nI k), .inr (.inr (some 132)), .inr (.inr (some 100))], Hsb)) (C := []) rfl trivial ?_
        refine mw_cIe (fun _ => rfl) (show mu_is Hsb (some 132) 10 from (ub.1.1.is rfl)) (ub.getr (d := (d + 6)) db (j := 25) (by decide) rfl (nI k) (c := 0) (by decide)) ?_
        rw [show (tget (Vb.1 25) (nI k) 0) = (nI (wa k)) from ((congrArg (fun z => tget z (nI k) 0) (show Vb.1 25 = (U.1 25) from ((zzb.t 25 rfl).trans (zza.t 25 rfl)))).trans (tget_nI (by first | omega | decide))).trans w0]
        refine mw_go mu_g293 (k := 2) (f1 := (87, [(2, .inl (nI k)), (1, .inl am), (0, .inr (.inr (some 129)))], [.inr (.inr (mu_r Hsb 129 3)), .inl (nI (wa k)), .inr (.inr (some 100))], Hsb)) (C := [mu_is Hsb (some 129) 9]) rfl (show mu_is Hsb (some 129) 9 from (ub.1.1.is rfl)) ?_
        rw [(ub.1.1.r (p := 129) (j := 3) (q := 132) rfl)]
        refine mw_go mu_g293 (k := 2) (f1 := (89, [(2, .inl (nI k)), (1, .inl am), (0, .inr (.inr (some 129)))], [.inl (1 : Int32), .inl (nI k), .inr (.inr (some 132)), .inl (nI (wa k)), .inr (.inr (some 100))], Hsb)) (C := []) rfl trivial ?_
        refine mw_cIe (fun _ => rfl) (show mu_is Hsb (some 132) 10 from (ub.1.1.is rfl)) (ub.getr (d := (d + 6)) db (j := 25) (by decide) rfl (nI k) (c := 1) (by decide)) ?_
        rw [show (tget (Vb.1 25) (nI k) 1) = (nI (wa k + wn k)) from ((congrArg (fun z => tget z (nI k) 1) (show Vb.1 25 = (U.1 25) from ((zzb.t 25 rfl).trans (zza.t 25 rfl)))).trans (tget_nI (by first | omega | decide))).trans w1]
        refine mw_go mu_g293 (k := 2) (f1 := (96, [(2, .inl (nI k)), (1, .inl am), (0, .inr (.inr (some 129)))], [.inr (.inr (mu_r Hsb 129 3)), .inl (nI (wa k + wn k)), .inl (nI (wa k)), .inr (.inr (some 100))], Hsb)) (C := [mu_is Hsb (some 129) 9]) rfl (show mu_is Hsb (some 129) 9 from (ub.1.1.is rfl)) ?_
        rw [(ub.1.1.r (p := 129) (j := 3) (q := 132) rfl)]
        refine mw_go mu_g293 (k := 2) (f1 := (98, [(2, .inl (nI k)), (1, .inl am), (0, .inr (.inr (some 129)))], [.inl (2 : Int32), .inl (nI k), .inr (.inr (some 132)), .inl (nI (wa k + wn k)), .inl (nI (wa k)), .inr (.inr (some 100))], Hsb)) (C := []) rfl trivial ?_
        refine mw_cIe (fun _ => rfl) (show mu_is Hsb (some 132) 10 from (ub.1.1.is rfl)) (ub.getr (d := (d + 6)) db (j := 25) (by decide) rfl (nI k) (c := 2) (by decide)) ?_
        rw [show (tget (Vb.1 25) (nI k) 2) = (nI (wi k)) from ((congrArg (fun z => tget z (nI k) 2) (show Vb.1 25 = (U.1 25) from ((zzb.t 25 rfl).trans (zza.t 25 rfl)))).trans (tget_nI (by first | omega | decide))).trans w2]
        refine mw_cV (fun _ => rfl) (show mu_is Hsb (some 100) 5 from (ub.1.1.is rfl)) (mc_load3 (d := (d + 2)) (C := C) (a0 := wa k) (N0 := wn k) (i0 := wi k) ub db hKN hMC hLD hwi hrg hC21 hC21b) (fun Q20 q20 => ?_)
        obtain ⟨u20, r20, z20, hKN1, hMC1, hLD1, -⟩ := q20
        have ht20 : ur m C H Q20 := htb.trans r20
        obtain ⟨V20, d20⟩ : ∃ V, ud m Q20 = V := ⟨_, rfl⟩
        rw [d20] at z20 hKN1 hMC1 hLD1
        have qf20 : uq F293 U V20 := qfb.tr z20 rfl
        obtain ⟨mk, hmk⟩ : ∃ mk, V20.2.1 100 4 = mk := ⟨_, rfl⟩
        refine mw_go mu_g293 (k := 2) (f1 := (108, [(2, .inl (nI k)), (1, .inl am), (0, .inr (.inr (some 129)))], [.inr (.inr (mu_r Q20 129 3))], Q20)) (C := [mu_is Q20 (some 129) 9]) rfl (show mu_is Q20 (some 129) 9 from (u20.1.1.is rfl)) ?_
        rw [(u20.1.1.r (p := 129) (j := 3) (q := 132) rfl)]
        refine mw_go mu_g293 (k := 2) (f1 := (110, [(2, .inl (nI k)), (1, .inl am), (0, .inr (.inr (some 129)))], [.inl (4 : Int32), .inl (nI k), .inr (.inr (some 132))], Q20)) (C := []) rfl trivial ?_
        refine mw_cIe (fun _ => rfl) (show mu_is Q20 (some 132) 10 from (u20.1.1.is rfl)) (u20.getr (d := (d + 6)) d20 (j := 25) (by decide) rfl (nI k) (c := 4) (by decide)) ?_
        rw [show (tget (V20.1 25) (nI k) 4) = (0 : Int32) from ((congrArg (fun z => tget z (nI k) 4) (show V20.1 25 = (U.1 25) from ((z20.t 25 rfl).trans ((zzb.t 25 rfl).trans (zza.t 25 rfl))))).trans (tget_nI (by first | omega | decide))).trans w4]
        refine mw_if (P := (0 : Int32) = 0) (a := 116) (b := 135) (fun _ => rfl) trivial (fun h22 => ?_) (fun h22 => absurd rfl h22)
        refine mw_go mu_g293 (k := 3) (f1 := (121, [(2, .inl (nI k)), (1, .inl am), (0, .inr (.inr (some 129)))], [.inr (.inr (mu_r Q20 129 0)), .inr (.inr (some 129))], Q20)) (C := [mu_is Q20 (some 129) 9]) rfl (show mu_is Q20 (some 129) 9 from (u20.1.1.is rfl)) ?_
        rw [(u20.1.1.r (p := 129) (j := 0) (q := 99) rfl)]
        refine mw_go mu_g293 (k := 1) (f1 := (124, [(2, .inl (nI k)), (1, .inl am), (0, .inr (.inr (some 129)))], [.inr (.inr (mu_r Q20 99 1)), .inr (.inr (some 129))], Q20)) (C := [mu_is Q20 (some 99) 13]) rfl (show mu_is Q20 (some 99) 13 from (u20.1.1.is rfl)) ?_
        rw [(u20.1.1.r (p := 99) (j := 1) (q := 100) rfl)]
        refine mw_go mu_g293 (k := 1) (f1 := (127, [(2, .inl (nI k)), (1, .inl am), (0, .inr (.inr (some 129)))], [.inl (mu_i Q20 100 4), .inr (.inr (some 129))], Q20)) (C := [mu_is Q20 (some 100) 5]) rfl (show mu_is Q20 (some 100) 5 from (u20.1.1.is rfl)) ?_
        rw [(show mu_i Q20 100 4 = mk from (ud_i (U := V20) (m := m) (P := 100) (j := 4) d20 rfl).trans hmk)]
        refine mw_go mu_g293 (k := 2) (f1 := (129, [(2, .inl (nI k)), (1, .inl am), (0, .inr (.inr (some 129)))], [.inl (0 : Int32), .inr (.inr none), .inl mk, .inr (.inr (some 129))], Q20)) (C := []) rfl trivial ?_
        refine mw_cV (fun _ => rfl) (show mu_is Q20 (some 129) 9 from (u20.1.1.is rfl)) (rl_refine (d := (d + 4)) (C := C) (kb := kb) (bs := 0) (mk := mk) (ky := fun t => nI (pj mk f P P t)) u20 d20 (spx_keep hK.1 (show (V20.2.1 99 4) = (U.2.1 99 4) from ((z20.i 99 4 rfl).trans ((zzb.i 99 4 rfl).trans (zza.i 99 4 rfl)))) (show (V20.2.1 99 10) = (U.2.1 99 10) from ((z20.i 99 10 rfl).trans ((zzb.i 99 10 rfl).trans (zza.i 99 10 rfl)))) (show (V20.2.1 99 11) = (U.2.1 99 11) from ((z20.i 99 11 rfl).trans ((zzb.i 99 11 rfl).trans (zza.i 99 11 rfl)))) (show (V20.2.1 99 12) = (U.2.1 99 12) from ((z20.i 99 12 rfl).trans ((zzb.i 99 12 rfl).trans (zza.i 99 12 rfl)))) (show (V20.2.2.1 99 5) = (U.2.2.1 99 5) from ((z20.a 99 5 rfl).trans ((zzb.a 99 5 rfl).trans (zza.a 99 5 rfl)))) (show (V20.2.2.1 99 7) = (U.2.2.1 99 7) from ((z20.a 99 7 rfl).trans ((zzb.a 99 7 rfl).trans (zza.a 99 7 rfl)))) (show (V20.2.2.1 99 6) = (U.2.2.1 99 6) from ((z20.a 99 6 rfl).trans ((zzb.a 99 6 rfl).trans (zza.a 99 6 rfl)))) (show (V20.2.2.1 99 8).1 = (U.2.2.1 99 8).1 from ((z20.n 99 8 rfl).trans ((zzb.n 99 8 rfl).trans (zza.n 99 8 rfl)))) (show (V20.2.2.1 99 18).1 = (U.2.2.1 99 18).1 from ((z20.n 99 18 rfl).trans ((zzb.n 99 18 rfl).trans (zza.n 99 18 rfl)))) (show (V20.2.2.2.1 100 0) = (U.2.2.2.1 100 0) from ((z20.r 100 0 rfl).trans ((zzb.r 100 0 rfl).trans (zza.r 100 0 rfl)))) (show (V20.2.2.2.1 99 0) = (U.2.2.2.1 99 0) from ((z20.r 99 0 rfl).trans ((zzb.r 99 0 rfl).trans (zza.r 99 0 rfl))))) (by rw [(show (V20.2.2.1 129 7).1 = (U.2.2.1 129 7).1 from ((z20.n 129 7 rfl).trans ((zzb.n 129 7 rfl).trans (zza.n 129 7 rfl))))]; exact ha7) (by rw [(show (V20.2.2.1 129 7).1 = (U.2.2.1 129 7).1 from ((z20.n 129 7 rfl).trans ((zzb.n 129 7 rfl).trans (zza.n 129 7 rfl))))]; exact ha7b) (by rw [(show (V20.2.2.1 129 8).1 = (U.2.2.1 129 8).1 from ((z20.n 129 8 rfl).trans ((zzb.n 129 8 rfl).trans (zza.n 129 8 rfl))))]; exact ha8) (by rw [(show (V20.2.2.1 129 8).1 = (U.2.2.1 129 8).1 from ((z20.n 129 8 rfl).trans ((zzb.n 129 8 rfl).trans (zza.n 129 8 rfl))))]; exact ha8b) (by rw [(show (V20.2.2.1 129 9).1 = (U.2.2.1 129 9).1 from ((z20.n 129 9 rfl).trans ((zzb.n 129 9 rfl).trans (zza.n 129 9 rfl))))]; exact ha9) hkb hTb (fun _ _ => rfl)) (fun Q23 q23 => ?_)
        obtain ⟨u23, r23, z23, hCL⟩ := q23
        have ht23 : ur m C H Q23 := ht20.trans r23
        obtain ⟨V23, d23⟩ : ∃ V, ud m Q23 = V := ⟨_, rfl⟩
        rw [d23] at z23 hCL
        have qf23 : uq F293 U V23 := qf20.tr z23 rfl
        refine mw_go mu_g293 (k := 2) (f1 := (186, [(2, .inl ((nI k) + 1)), (1, .inl am), (0, .inr (.inr (some 129)))], [], Q23)) (C := []) rfl trivial ?_
        rw [(show ((nI k) + 1) = (nI (k + 1)) from (nI_add k 1))]
        refine mw_go mu_g293 (k := 1) (f1 := (56, [(2, .inl (nI (k + 1))), (1, .inl am), (0, .inr (.inr (some 129)))], [], Q23)) (C := []) rfl trivial ?_
        exact mw_sub (by simp) (ihb (k + 1, am, Q23) ⟨u23, ht23, (show uq F293b (upT Va (ac 23 Va.1 0)) (ud m Q23) from by rw [d23]; exact ((zzb.tr z20 rfl).tr z23 rfl)), (show (k + 1) ≤ nw from (by omega)), (show KNV m (ud m Q23) Y P f od es from by rw [d23]; exact (hKN1.q z23 rfl)), (show MCS (ud m Q23) from by rw [d23]; exact (show MCS V23 from ⟨by rw [(show (V23.1 22) = (V20.1 22) from (z23.t 22 rfl))]; exact hMC1.1, by rw [(show (V23.2.2.1 100 3).1 = (V20.2.2.1 100 3).1 from (z23.n 100 3 rfl))]; exact hMC1.2.1, by rw [(show (V23.2.2.1 100 8).1 = (V20.2.2.1 100 8).1 from (z23.n 100 8 rfl))]; exact hMC1.2.2.1, by rw [(show (V23.2.2.1 100 12).1 = (V20.2.2.1 100 12).1 from (z23.n 100 12 rfl))]; exact hMC1.2.2.2.1, by rw [(show (V23.2.2.1 100 13).1 = (V20.2.2.1 100 13).1 from (z23.n 100 13 rfl))]; exact hMC1.2.2.2.2.1, by rw [(show (V23.2.2.1 100 15).1 = (V20.2.2.1 100 15).1 from (z23.n 100 15 rfl))]; exact hMC1.2.2.2.2.2⟩)), (show MLW (ud m Q23) Y P f od from by rw [d23]; exact (Or.inr ⟨wa k, wn k, wi k, by omega, hwi, hLD1.keep (show (V23.1 21) = (V20.1 21) from (z23.t 21 rfl)) (show (V23.1 22) = (V20.1 22) from (z23.t 22 rfl)) (show (V23.1 15) = (V20.1 15) from (z23.t 15 rfl)) (show (V23.2.2.1 100 3) = (V20.2.2.1 100 3) from (z23.a 100 3 rfl)) (show (V23.2.1 100 5) = (V20.2.1 100 5) from (z23.i 100 5 rfl)) (show (V23.2.1 100 7) = (V20.2.1 100 7) from (z23.i 100 7 rfl)) (show (V23.2.1 100 17) = (V20.2.1 100 17) from (z23.i 100 17 rfl)) (show (V23.2.1 100 4) = (V20.2.1 100 4) from (z23.i 100 4 rfl)) (show (V23.2.2.1 100 8) = (V20.2.2.1 100 8) from (z23.a 100 8 rfl)) (show (V23.2.2.1 100 12).1 = (V20.2.2.1 100 12).1 from (z23.n 100 12 rfl)) (show (V23.2.2.1 100 13).1 = (V20.2.2.1 100 13).1 from (z23.n 100 13 rfl)) (show (V23.2.2.1 100 15).1 = (V20.2.2.1 100 15).1 from (z23.n 100 15 rfl)) (show (V23.2.2.1 99 8) = (V20.2.2.1 99 8) from (z23.a 99 8 rfl))⟩)), (show ((ud m Q23).1 23).1 ≤ 65 from by rw [d23]; exact (by rw [(show V23.1 23 = Vb.1 23 from ((z23.t 23 rfl).trans (z20.t 23 rfl)))]; exact hsz)), (show VLA ((ud m Q23).1 23) Y es from by rw [d23]; exact (by rw [(show V23.1 23 = Vb.1 23 from ((z23.t 23 rfl).trans (z20.t 23 rfl)))]; exact hVL)), (show ∀ r, r < (k + 1) → (U.1 25).2 r 4 = 1 → ¬ wn r = 0 → ((ud m Q23).1 23).1 ≤ 64 → EQT Y U f P od ((ud m Q23).1 23) (wi r) (wa r) (wn r) from by rw [d23]; exact (fun r hr y4 y0 yl => by by_cases y : r = k; (rw [y] at y4 y0; exact absurd y4 (by rw [w4]; decide)); (rw [(show V23.1 23 = Vb.1 23 from ((z23.t 23 rfl).trans (z20.t 23 rfl)))] at yl ⊢; exact hEQ r (by omega) y4 y0 yl))), (show ∀ r, r < (k + 1) → (U.1 25).2 r 4 = 1 → ¬ wn r = 0 → ∀ s s', (∀ j, j < P → ¬ mb am j = 0 → dgz f P s j = dgz f P s' j) → (∀ t, trs Y U f P od (wi r) (wa r) (wn r) s t = trs Y U f P od (wi r) (wa r) (wn r) s' t) from (fun r hr y4 y0 => by by_cases y : r = k; (rw [y] at y4; exact absurd y4 (by rw [w4]; decide)); (exact hAM r (by omega) y4 y0))), (show CLJ (ud m Q23) (pd f 0 P) (fun s s' => (∀ r, r < nf → (U.2.2.1 129 4).2 (bs r + pj (nm r) f P P s) = (U.2.2.1 129 4).2 (bs r + pj (nm r) f P P s')) ∧ (∀ r, r < (k + 1) → (U.1 25).2 r 4 = 0 → ∀ v, CHSw Y U f P od (wk r) (wa r) (wn r) (wi r) s v ↔ CHSw Y U f P od (wk r) (wa r) (wn r) (wi r) s' v)) from by rw [d23]; exact (CLJ.cls (hCJ1.same (show (V20.2.2.1 129 7) = (Vb.2.2.1 129 7) from (z20.a 129 7 rfl))) gpd hCL (fun s s' hs hs' hR he => ⟨hR.1, fun r hr y4 v => by by_cases y : r = k; (rw [y]; have y5 := chs_mask (bb := wk k) (v := v) hKN1 hLD1 hmk (by rw [(show (V20.1 15) = (U.1 15) from ((z20.t 15 rfl).trans ((zzb.t 15 rfl).trans (zza.t 15 rfl))))]; exact hnx0) hwi hrg hs hs' (nI_inj (by have := pj_16 (mk := mk) hK hs; omega) (by have := pj_16 (mk := mk) hK hs'; omega) he); rw [CHSw_same (U := U) (show (V20.1 15) = (U.1 15) from ((z20.t 15 rfl).trans ((zzb.t 15 rfl).trans (zza.t 15 rfl)))) (show (V20.2.2.1 99 8) = (U.2.2.1 99 8) from ((z20.a 99 8 rfl).trans ((zzb.a 99 8 rfl).trans (zza.a 99 8 rfl)))), CHSw_same (U := U) (show (V20.1 15) = (U.1 15) from ((z20.t 15 rfl).trans ((zzb.t 15 rfl).trans (zza.t 15 rfl)))) (show (V20.2.2.1 99 8) = (U.2.2.1 99 8) from ((z20.a 99 8 rfl).trans ((zzb.a 99 8 rfl).trans (zza.a 99 8 rfl))))] at y5; exact y5); (exact hR.2 r (by omega) y4 v)⟩)))⟩ (by show nw - (k + 1) < nw - k; omega))
      · -- C
        have hrb := hrg.2.1
        refine mw_go mu_g293 (k := 2) (f1 := (71, [(2, .inl (nI k)), (1, .inl am), (0, .inr (.inr (some 129)))], [.inr (.inr (mu_r Hsb 129 0))], Hsb)) (C := [mu_is Hsb (some 129) 9]) rfl (show mu_is Hsb (some 129) 9 from (ub.1.1.is rfl)) ?_
        rw [(ub.1.1.r (p := 129) (j := 0) (q := 99) rfl)]
        refine mw_go mu_g293 (k := 1) (f1 := (74, [(2, .inl (nI k)), (1, .inl am), (0, .inr (.inr (some 129)))], [.inr (.inr (mu_r Hsb 99 1))], Hsb)) (C := [mu_is Hsb (some 99) 13]) rfl (show mu_is Hsb (some 99) 13 from (ub.1.1.is rfl)) ?_
        rw [(ub.1.1.r (p := 99) (j := 1) (q := 100) rfl)]
        refine mw_go mu_g293 (k := 2) (f1 := (78, [(2, .inl (nI k)), (1, .inl am), (0, .inr (.inr (some 129)))], [.inr (.inr (mu_r Hsb 129 3)), .inr (.inr (some 100))], Hsb)) (C := [mu_is Hsb (some 129) 9]) rfl (show mu_is Hsb (some 129) 9 from (ub.1.1.is rfl)) ?_
        rw [(ub.1.1.r (p := 129) (j := 3) (q := 132) rfl)]
        refine mw_go mu_g293 (k := 2) (f1 := (80, [(2, .inl (nI k)), (1, .inl am), (0, .inr (.inr (some 129)))], [.inl (0 : Int32), .inl (nI k), .inr (.inr (some 132)), .inr (.inr (some 100))], Hsb)) (C := []) rfl trivial ?_
        refine mw_cIe (fun _ => rfl) (show mu_is Hsb (some 132) 10 from (ub.1.1.is rfl)) (ub.getr (d := (d + 6)) db (j := 25) (by decide) rfl (nI k) (c := 0) (by decide)) ?_
        rw [show (tget (Vb.1 25) (nI k) 0) = (nI (wa k)) from ((congrArg (fun z => tget z (nI k) 0) (show Vb.1 25 = (U.1 25) from ((zzb.t 25 rfl).trans (zza.t 25 rfl)))).trans (tget_nI (by first | omega | decide))).trans w0]
        refine mw_go mu_g293 (k := 2) (f1 := (87, [(2, .inl (nI k)), (1, .inl am), (0, .inr (.inr (some 129)))], [.inr (.inr (mu_r Hsb 129 3)), .inl (nI (wa k)), .inr (.inr (some 100))], Hsb)) (C := [mu_is Hsb (some 129) 9]) rfl (show mu_is Hsb (some 129) 9 from (ub.1.1.is rfl)) ?_
        rw [(ub.1.1.r (p := 129) (j := 3) (q := 132) rfl)]
        refine mw_go mu_g293 (k := 2) (f1 := (89, [(2, .inl (nI k)), (1, .inl am), (0, .inr (.inr (some 129)))], [.inl (1 : Int32), .inl (nI k), .inr (.inr (some 132)), .inl (nI (wa k)), .inr (.inr (some 100))], Hsb)) (C := []) rfl trivial ?_
        refine mw_cIe (fun _ => rfl) (show mu_is Hsb (some 132) 10 from (ub.1.1.is rfl)) (ub.getr (d := (d + 6)) db (j := 25) (by decide) rfl (nI k) (c := 1) (by decide)) ?_
        rw [show (tget (Vb.1 25) (nI k) 1) = (nI (wa k + wn k)) from ((congrArg (fun z => tget z (nI k) 1) (show Vb.1 25 = (U.1 25) from ((zzb.t 25 rfl).trans (zza.t 25 rfl)))).trans (tget_nI (by first | omega | decide))).trans w1]
        refine mw_go mu_g293 (k := 2) (f1 := (96, [(2, .inl (nI k)), (1, .inl am), (0, .inr (.inr (some 129)))], [.inr (.inr (mu_r Hsb 129 3)), .inl (nI (wa k + wn k)), .inl (nI (wa k)), .inr (.inr (some 100))], Hsb)) (C := [mu_is Hsb (some 129) 9]) rfl (show mu_is Hsb (some 129) 9 from (ub.1.1.is rfl)) ?_
        rw [(ub.1.1.r (p := 129) (j := 3) (q := 132) rfl)]
        refine mw_go mu_g293 (k := 2) (f1 := (98, [(2, .inl (nI k)), (1, .inl am), (0, .inr (.inr (some 129)))], [.inl (2 : Int32), .inl (nI k), .inr (.inr (some 132)), .inl (nI (wa k + wn k)), .inl (nI (wa k)), .inr (.inr (some 100))], Hsb)) (C := []) rfl trivial ?_
        refine mw_cIe (fun _ => rfl) (show mu_is Hsb (some 132) 10 from (ub.1.1.is rfl)) (ub.getr (d := (d + 6)) db (j := 25) (by decide) rfl (nI k) (c := 2) (by decide)) ?_
        rw [show (tget (Vb.1 25) (nI k) 2) = (nI (wi k)) from ((congrArg (fun z => tget z (nI k) 2) (show Vb.1 25 = (U.1 25) from ((zzb.t 25 rfl).trans (zza.t 25 rfl)))).trans (tget_nI (by first | omega | decide))).trans w2]
        refine mw_cV (fun _ => rfl) (show mu_is Hsb (some 100) 5 from (ub.1.1.is rfl)) (mc_load3 (d := (d + 2)) (C := C) (a0 := wa k) (N0 := wn k) (i0 := wi k) ub db hKN hMC hLD hwi (rgs_of hrg) hC21 hC21b) (fun Q27 q27 => ?_)
        obtain ⟨u27, r27, z27, hKN1, hMC1, hLD1, -⟩ := q27
        have ht27 : ur m C H Q27 := htb.trans r27
        obtain ⟨V27, d27⟩ : ∃ V, ud m Q27 = V := ⟨_, rfl⟩
        rw [d27] at z27 hKN1 hMC1 hLD1
        have qf27 : uq F293 U V27 := qfb.tr z27 rfl
        obtain ⟨mk, hmk⟩ : ∃ mk, V27.2.1 100 4 = mk := ⟨_, rfl⟩
        refine mw_go mu_g293 (k := 2) (f1 := (108, [(2, .inl (nI k)), (1, .inl am), (0, .inr (.inr (some 129)))], [.inr (.inr (mu_r Q27 129 3))], Q27)) (C := [mu_is Q27 (some 129) 9]) rfl (show mu_is Q27 (some 129) 9 from (u27.1.1.is rfl)) ?_
        rw [(u27.1.1.r (p := 129) (j := 3) (q := 132) rfl)]
        refine mw_go mu_g293 (k := 2) (f1 := (110, [(2, .inl (nI k)), (1, .inl am), (0, .inr (.inr (some 129)))], [.inl (4 : Int32), .inl (nI k), .inr (.inr (some 132))], Q27)) (C := []) rfl trivial ?_
        refine mw_cIe (fun _ => rfl) (show mu_is Q27 (some 132) 10 from (u27.1.1.is rfl)) (u27.getr (d := (d + 6)) d27 (j := 25) (by decide) rfl (nI k) (c := 4) (by decide)) ?_
        rw [show (tget (V27.1 25) (nI k) 4) = (1 : Int32) from ((congrArg (fun z => tget z (nI k) 4) (show V27.1 25 = (U.1 25) from ((z27.t 25 rfl).trans ((zzb.t 25 rfl).trans (zza.t 25 rfl))))).trans (tget_nI (by first | omega | decide))).trans w4]
        refine mw_if (P := (1 : Int32) = 0) (a := 116) (b := 135) (fun _ => rfl) trivial (fun h29 => absurd h29 (by decide)) (fun h29 => ?_)
        refine mw_go mu_g293 (k := 3) (f1 := (140, [(2, .inl (nI k)), (1, .inl am), (0, .inr (.inr (some 129)))], [.inr (.inr (mu_r Q27 129 3)), .inr (.inr (some 129))], Q27)) (C := [mu_is Q27 (some 129) 9]) rfl (show mu_is Q27 (some 129) 9 from (u27.1.1.is rfl)) ?_
        rw [(u27.1.1.r (p := 129) (j := 3) (q := 132) rfl)]
        refine mw_go mu_g293 (k := 2) (f1 := (142, [(2, .inl (nI k)), (1, .inl am), (0, .inr (.inr (some 129)))], [.inl (0 : Int32), .inl (nI k), .inr (.inr (some 132)), .inr (.inr (some 129))], Q27)) (C := []) rfl trivial ?_
        refine mw_cIe (fun _ => rfl) (show mu_is Q27 (some 132) 10 from (u27.1.1.is rfl)) (u27.getr (d := (d + 6)) d27 (j := 25) (by decide) rfl (nI k) (c := 0) (by decide)) ?_
        rw [show (tget (V27.1 25) (nI k) 0) = (nI (wa k)) from ((congrArg (fun z => tget z (nI k) 0) (show V27.1 25 = (U.1 25) from ((z27.t 25 rfl).trans ((zzb.t 25 rfl).trans (zza.t 25 rfl))))).trans (tget_nI (by first | omega | decide))).trans w0]
        refine mw_go mu_g293 (k := 2) (f1 := (149, [(2, .inl (nI k)), (1, .inl am), (0, .inr (.inr (some 129)))], [.inr (.inr (mu_r Q27 129 3)), .inl (nI (wa k)), .inr (.inr (some 129))], Q27)) (C := [mu_is Q27 (some 129) 9]) rfl (show mu_is Q27 (some 129) 9 from (u27.1.1.is rfl)) ?_
        rw [(u27.1.1.r (p := 129) (j := 3) (q := 132) rfl)]
        refine mw_go mu_g293 (k := 2) (f1 := (151, [(2, .inl (nI k)), (1, .inl am), (0, .inr (.inr (some 129)))], [.inl (1 : Int32), .inl (nI k), .inr (.inr (some 132)), .inl (nI (wa k)), .inr (.inr (some 129))], Q27)) (C := []) rfl trivial ?_
        refine mw_cIe (fun _ => rfl) (show mu_is Q27 (some 132) 10 from (u27.1.1.is rfl)) (u27.getr (d := (d + 6)) d27 (j := 25) (by decide) rfl (nI k) (c := 1) (by decide)) ?_
        rw [show (tget (V27.1 25) (nI k) 1) = (nI (wa k + wn k)) from ((congrArg (fun z => tget z (nI k) 1) (show V27.1 25 = (U.1 25) from ((z27.t 25 rfl).trans ((zzb.t 25 rfl).trans (zza.t 25 rfl))))).trans (tget_nI (by first | omega | decide))).trans w1]
        refine mw_go mu_g293 (k := 2) (f1 := (158, [(2, .inl (nI k)), (1, .inl am), (0, .inr (.inr (some 129)))], [.inr (.inr (mu_r Q27 129 3)), .inl (nI (wa k + wn k)), .inl (nI (wa k)), .inr (.inr (some 129))], Q27)) (C := [mu_is Q27 (some 129) 9]) rfl (show mu_is Q27 (some 129) 9 from (u27.1.1.is rfl)) ?_
        rw [(u27.1.1.r (p := 129) (j := 3) (q := 132) rfl)]
        refine mw_go mu_g293 (k := 2) (f1 := (160, [(2, .inl (nI k)), (1, .inl am), (0, .inr (.inr (some 129)))], [.inl (2 : Int32), .inl (nI k), .inr (.inr (some 132)), .inl (nI (wa k + wn k)), .inl (nI (wa k)), .inr (.inr (some 129))], Q27)) (C := []) rfl trivial ?_
        refine mw_cIe (fun _ => rfl) (show mu_is Q27 (some 132) 10 from (u27.1.1.is rfl)) (u27.getr (d := (d + 6)) d27 (j := 25) (by decide) rfl (nI k) (c := 2) (by decide)) ?_
        rw [show (tget (V27.1 25) (nI k) 2) = (nI (wi k)) from ((congrArg (fun z => tget z (nI k) 2) (show V27.1 25 = (U.1 25) from ((z27.t 25 rfl).trans ((zzb.t 25 rfl).trans (zza.t 25 rfl))))).trans (tget_nI (by first | omega | decide))).trans w2]
        have hj0c : V27.1 0 = Y 0 := hKN1.2.2.1.1 0 (by decide)
        have hV23 := (show V27.1 23 = Vb.1 23 from (z27.t 23 rfl))
        refine mw_cV (fun _ => rfl) (show mu_is Q27 (some 129) 9 from (u27.1.1.is rfl)) (rl_note (d := (d + 3)) (C := C) (a := wa k) (N := wn k) (i0 := wi k) (n0 := (Vb.1 23).1) (f := f) (P := P) (od := od) u27 d27 (show (V27.2.2.2.1 99 0) = some m from ((z27.r 99 0 rfl).trans ((zzb.r 99 0 rfl).trans ((zza.r 99 0 rfl).trans hmo)))) hj0c hCc (by omega) (by omega) hwi hrg hs0 (by rw [hV23]) (by omega) (by omega) hC23b (by omega) hC18b) (fun Q33 q33 => ?_)
        obtain ⟨u33, r33, z33, hNF⟩ := q33
        have ht33 : ur m C H Q33 := ht27.trans r33
        obtain ⟨V33, d33⟩ : ∃ V, ud m Q33 = V := ⟨_, rfl⟩
        rw [d33] at z33 hNF
        have qf33 : uq F293 U V33 := qf27.tr z33 rfl
        have hKN2 : KNV m V33 Y P f od es := hKN1.q z33 rfl
        obtain ⟨hVL2, hTk1, hTk2, hTk3, hEk⟩ := NIF.vla hNF (by rw [hV23]; exact hVL) (by rw [hV23]) hwi hsz
        rw [hV23] at hTk1 hTk2
        have hDk : ∀ s s', (∀ j, j < P → ¬ mb (am ||| (mk &&& (16383 : Int32))) j = 0 → dgz f P s j = dgz f P s' j) → ∀ t, trs Y U f P od (wi k) (wa k) (wn k) s t = trs Y U f P od (wi k) (wa k) (wn k) s' t := fun s s' hd t => by
          have y := trs_dig (s := s) (s' := s') (t := t) hKN1 hLD1 hmk hwi hrg (fun j hj hb => hd j hj ((mb_orand (by omega)).mpr (Or.inr hb)))
          rw [trs_same (U := U) (show V27.1 15 = U.1 15 from ((z27.t 15 rfl).trans ((zzb.t 15 rfl).trans (zza.t 15 rfl)))) (show V27.2.2.1 99 8 = U.2.2.1 99 8 from ((z27.a 99 8 rfl).trans ((zzb.a 99 8 rfl).trans (zza.a 99 8 rfl)))), trs_same (U := U) (show V27.1 15 = U.1 15 from ((z27.t 15 rfl).trans ((zzb.t 15 rfl).trans (zza.t 15 rfl)))) (show V27.2.2.1 99 8 = U.2.2.1 99 8 from ((z27.a 99 8 rfl).trans ((zzb.a 99 8 rfl).trans (zza.a 99 8 rfl))))] at y
          exact y
        have hEk2 : (V33.1 23).1 ≤ 64 → EQT Y U f P od (V33.1 23) (wi k) (wa k) (wn k) := fun y => (hEk y).same (show V27.1 15 = U.1 15 from ((z27.t 15 rfl).trans ((zzb.t 15 rfl).trans (zza.t 15 rfl)))) (show V27.2.2.1 99 8 = U.2.2.1 99 8 from ((z27.a 99 8 rfl).trans ((zzb.a 99 8 rfl).trans (zza.a 99 8 rfl))))
        refine mw_go mu_g293 (k := 3) (f1 := (171, [(2, .inl (nI k)), (1, .inl am), (0, .inr (.inr (some 129)))], [.inr (.inr (mu_r Q33 129 0)), .inl am], Q33)) (C := [mu_is Q33 (some 129) 9]) rfl (show mu_is Q33 (some 129) 9 from (u33.1.1.is rfl)) ?_
        rw [(u33.1.1.r (p := 129) (j := 0) (q := 99) rfl)]
        refine mw_go mu_g293 (k := 1) (f1 := (174, [(2, .inl (nI k)), (1, .inl am), (0, .inr (.inr (some 129)))], [.inr (.inr (mu_r Q33 99 1)), .inl am], Q33)) (C := [mu_is Q33 (some 99) 13]) rfl (show mu_is Q33 (some 99) 13 from (u33.1.1.is rfl)) ?_
        rw [(u33.1.1.r (p := 99) (j := 1) (q := 100) rfl)]
        refine mw_go mu_g293 (k := 1) (f1 := (177, [(2, .inl (nI k)), (1, .inl am), (0, .inr (.inr (some 129)))], [.inl (mu_i Q33 100 4), .inl am], Q33)) (C := [mu_is Q33 (some 100) 5]) rfl (show mu_is Q33 (some 100) 5 from (u33.1.1.is rfl)) ?_
        rw [(show mu_i Q33 100 4 = mk from (ud_i (U := V33) (m := m) (P := 100) (j := 4) d33 rfl).trans ((z33.i 100 4 rfl).trans hmk))]
        refine mw_go mu_g293 (k := 5) (f1 := (186, [(2, .inl ((nI k) + 1)), (1, .inl (am ||| (mk &&& (16383 : Int32)))), (0, .inr (.inr (some 129)))], [], Q33)) (C := []) rfl trivial ?_
        rw [(show ((nI k) + 1) = (nI (k + 1)) from (nI_add k 1))]
        refine mw_go mu_g293 (k := 1) (f1 := (56, [(2, .inl (nI (k + 1))), (1, .inl (am ||| (mk &&& (16383 : Int32)))), (0, .inr (.inr (some 129)))], [], Q33)) (C := []) rfl trivial ?_
        exact mw_sub (by simp) (ihb (k + 1, (am ||| (mk &&& (16383 : Int32))), Q33) ⟨u33, ht33, (show uq F293b (upT Va (ac 23 Va.1 0)) (ud m Q33) from by rw [d33]; exact ((zzb.tr z27 rfl).tr z33 rfl)), (show (k + 1) ≤ nw from (by omega)), (show KNV m (ud m Q33) Y P f od es from by rw [d33]; exact hKN2), (show MCS (ud m Q33) from by rw [d33]; exact (show MCS V33 from ⟨by rw [(show (V33.1 22) = (V27.1 22) from (z33.t 22 rfl))]; exact hMC1.1, by rw [(show (V33.2.2.1 100 3).1 = (V27.2.2.1 100 3).1 from (z33.n 100 3 rfl))]; exact hMC1.2.1, by rw [(show (V33.2.2.1 100 8).1 = (V27.2.2.1 100 8).1 from (z33.n 100 8 rfl))]; exact hMC1.2.2.1, by rw [(show (V33.2.2.1 100 12).1 = (V27.2.2.1 100 12).1 from (z33.n 100 12 rfl))]; exact hMC1.2.2.2.1, by rw [(show (V33.2.2.1 100 13).1 = (V27.2.2.1 100 13).1 from (z33.n 100 13 rfl))]; exact hMC1.2.2.2.2.1, by rw [(show (V33.2.2.1 100 15).1 = (V27.2.2.1 100 15).1 from (z33.n 100 15 rfl))]; exact hMC1.2.2.2.2.2⟩)), (show MLW (ud m Q33) Y P f od from by rw [d33]; exact (Or.inr ⟨wa k, wn k, wi k, by omega, hwi, hLD1.keep (show (V33.1 21) = (V27.1 21) from (z33.t 21 rfl)) (show (V33.1 22) = (V27.1 22) from (z33.t 22 rfl)) (show (V33.1 15) = (V27.1 15) from (z33.t 15 rfl)) (show (V33.2.2.1 100 3) = (V27.2.2.1 100 3) from (z33.a 100 3 rfl)) (show (V33.2.1 100 5) = (V27.2.1 100 5) from (z33.i 100 5 rfl)) (show (V33.2.1 100 7) = (V27.2.1 100 7) from (z33.i 100 7 rfl)) (show (V33.2.1 100 17) = (V27.2.1 100 17) from (z33.i 100 17 rfl)) (show (V33.2.1 100 4) = (V27.2.1 100 4) from (z33.i 100 4 rfl)) (show (V33.2.2.1 100 8) = (V27.2.2.1 100 8) from (z33.a 100 8 rfl)) (show (V33.2.2.1 100 12).1 = (V27.2.2.1 100 12).1 from (z33.n 100 12 rfl)) (show (V33.2.2.1 100 13).1 = (V27.2.2.1 100 13).1 from (z33.n 100 13 rfl)) (show (V33.2.2.1 100 15).1 = (V27.2.2.1 100 15).1 from (z33.n 100 15 rfl)) (show (V33.2.2.1 99 8) = (V27.2.2.1 99 8) from (z33.a 99 8 rfl))⟩)), (show ((ud m Q33).1 23).1 ≤ 65 from by rw [d33]; exact hTk3), (show VLA ((ud m Q33).1 23) Y es from by rw [d33]; exact hVL2), (show ∀ r, r < (k + 1) → (U.1 25).2 r 4 = 1 → ¬ wn r = 0 → ((ud m Q33).1 23).1 ≤ 64 → EQT Y U f P od ((ud m Q33).1 23) (wi r) (wa r) (wn r) from by rw [d33]; exact (fun r hr y4 y0 yl => by by_cases y : r = k; (rw [y]; exact hEk2 yl); (exact (hEQ r (by omega) y4 y0 (by omega)).up hTk1 hTk2))), (show ∀ r, r < (k + 1) → (U.1 25).2 r 4 = 1 → ¬ wn r = 0 → ∀ s s', (∀ j, j < P → ¬ mb (am ||| (mk &&& (16383 : Int32))) j = 0 → dgz f P s j = dgz f P s' j) → (∀ t, trs Y U f P od (wi r) (wa r) (wn r) s t = trs Y U f P od (wi r) (wa r) (wn r) s' t) from (fun r hr y4 y0 s s' hd t => by by_cases y : r = k; (rw [y]; exact hDk s s' hd t); (exact hAM r (by omega) y4 y0 s s' (fun j hj hb => hd j hj ((mb_orand (by omega)).mpr (Or.inl hb))) t))), (show CLJ (ud m Q33) (pd f 0 P) (fun s s' => (∀ r, r < nf → (U.2.2.1 129 4).2 (bs r + pj (nm r) f P P s) = (U.2.2.1 129 4).2 (bs r + pj (nm r) f P P s')) ∧ (∀ r, r < (k + 1) → (U.1 25).2 r 4 = 0 → ∀ v, CHSw Y U f P od (wk r) (wa r) (wn r) (wi r) s v ↔ CHSw Y U f P od (wk r) (wa r) (wn r) (wi r) s' v)) from by rw [d33]; exact ((hCJ1.same (show (V33.2.2.1 129 7) = (Vb.2.2.1 129 7) from ((z33.a 129 7 rfl).trans (z27.a 129 7 rfl)))).mono (fun s s' hs hs' hR => ⟨hR.1, fun r hr y4 => by by_cases y : r = k; (rw [y] at y4; exact absurd y4 (by rw [w4]; decide)); (exact hR.2 r (by omega) y4)⟩)))⟩ (by show nw - (k + 1) < nw - k; omega))
    · -- 189: not (nI k) < (nI nw)
      have nh6 : ¬ k < nw := fun z => h6 (show nI k < nI nw from (nI_ltI (by omega) (by omega)).mpr z)
      refine mw_go mu_g293 (k := 2) (f1 := (193, [(2, .inl (nI k)), (1, .inl am), (0, .inr (.inr (some 129)))], [.inr (.inr (mu_r Hsb 129 2))], Hsb)) (C := [mu_is Hsb (some 129) 9]) rfl (show mu_is Hsb (some 129) 9 from (ub.1.1.is rfl)) ?_
      rw [(ub.1.1.r (p := 129) (j := 2) (q := 118) rfl)]
      refine mw_go mu_g293 (k := 1) (f1 := (196, [(2, .inl (nI k)), (1, .inl am), (0, .inr (.inr (some 129)))], [.inl (mu_i Hsb 118 2)], Hsb)) (C := [mu_is Hsb (some 118) 10]) rfl (show mu_is Hsb (some 118) 10 from (ub.1.1.is rfl)) ?_
      rw [(show mu_i Hsb 118 2 = (nI (Vb.1 23).1) from (ub.size db (j := 23) (by decide) rfl).trans (congrArg (fun z => nI z.1) (show Vb.1 23 = (Vb.1 23) from rfl)))]
      refine mw_go mu_g293 (k := 1) (f1 := (198, [(2, .inl (nI k)), (1, .inl am), (0, .inr (.inr (some 129)))], [.inl (64 : Int32), .inl (nI (Vb.1 23).1)], Hsb)) (C := []) rfl trivial ?_
      refine mw_if (P := (64 : Int32) < (nI (Vb.1 23).1)) (a := 201) (b := 209) (fun _ => rfl) trivial (fun h34 => ?_) (fun h34 => ?_)
      · -- 201: (64 : Int32) < (nI (Vb.1 23).1)
        have nh34 : 64 < ((Vb.1 23).1) := (nI_ltI (by omega) (by omega)).mp (show nI 64 < nI ((Vb.1 23).1) from h34)
        refine mw_go mu_g293 (k := 4) (f1 := (205, [(2, .inl (nI k)), (1, .inl am), (0, .inr (.inr (some 129)))], [.inl (0 : Int32), .inr (.inr none), .inl am, .inr (.inr (some 129))], Hsb)) (C := []) rfl trivial ?_
        refine mw_cV (fun _ => rfl) (show mu_is Hsb (some 129) 9 from (ub.1.1.is rfl)) (rl_refine (d := (d + 4)) (C := C) (kb := kb) (bs := 0) (mk := am) (ky := fun t => nI (pj am f P P t)) ub db (spx_keep hK.1 (show (Vb.2.1 99 4) = (U.2.1 99 4) from ((zzb.i 99 4 rfl).trans (zza.i 99 4 rfl))) (show (Vb.2.1 99 10) = (U.2.1 99 10) from ((zzb.i 99 10 rfl).trans (zza.i 99 10 rfl))) (show (Vb.2.1 99 11) = (U.2.1 99 11) from ((zzb.i 99 11 rfl).trans (zza.i 99 11 rfl))) (show (Vb.2.1 99 12) = (U.2.1 99 12) from ((zzb.i 99 12 rfl).trans (zza.i 99 12 rfl))) (show (Vb.2.2.1 99 5) = (U.2.2.1 99 5) from ((zzb.a 99 5 rfl).trans (zza.a 99 5 rfl))) (show (Vb.2.2.1 99 7) = (U.2.2.1 99 7) from ((zzb.a 99 7 rfl).trans (zza.a 99 7 rfl))) (show (Vb.2.2.1 99 6) = (U.2.2.1 99 6) from ((zzb.a 99 6 rfl).trans (zza.a 99 6 rfl))) (show (Vb.2.2.1 99 8).1 = (U.2.2.1 99 8).1 from ((zzb.n 99 8 rfl).trans (zza.n 99 8 rfl))) (show (Vb.2.2.1 99 18).1 = (U.2.2.1 99 18).1 from ((zzb.n 99 18 rfl).trans (zza.n 99 18 rfl))) (show (Vb.2.2.2.1 100 0) = (U.2.2.2.1 100 0) from ((zzb.r 100 0 rfl).trans (zza.r 100 0 rfl))) (show (Vb.2.2.2.1 99 0) = (U.2.2.2.1 99 0) from ((zzb.r 99 0 rfl).trans (zza.r 99 0 rfl)))) (by rw [(show (Vb.2.2.1 129 7).1 = (U.2.2.1 129 7).1 from ((zzb.n 129 7 rfl).trans (zza.n 129 7 rfl)))]; exact ha7) (by rw [(show (Vb.2.2.1 129 7).1 = (U.2.2.1 129 7).1 from ((zzb.n 129 7 rfl).trans (zza.n 129 7 rfl)))]; exact ha7b) (by rw [(show (Vb.2.2.1 129 8).1 = (U.2.2.1 129 8).1 from ((zzb.n 129 8 rfl).trans (zza.n 129 8 rfl)))]; exact ha8) (by rw [(show (Vb.2.2.1 129 8).1 = (U.2.2.1 129 8).1 from ((zzb.n 129 8 rfl).trans (zza.n 129 8 rfl)))]; exact ha8b) (by rw [(show (Vb.2.2.1 129 9).1 = (U.2.2.1 129 9).1 from ((zzb.n 129 9 rfl).trans (zza.n 129 9 rfl)))]; exact ha9) hkb hTb (fun _ _ => rfl)) (fun Q35 q35 => ?_)
        obtain ⟨u35, r35, z35, hCL⟩ := q35
        have ht35 : ur m C H Q35 := htb.trans r35
        obtain ⟨V35, d35⟩ : ∃ V, ud m Q35 = V := ⟨_, rfl⟩
        rw [d35] at z35 hCL
        have qf35 : uq F293 U V35 := qfb.tr z35 rfl
        refine mw_of (fun _ => mu_ret rfl trivial ⟨Q35, rfl, u35, ht35, (by rw [d35]; exact qf35), ?_⟩)
        rw [d35]
        refine ⟨hKN.q z35 rfl, (show MCS V35 from ⟨by rw [(show (V35.1 22) = (Vb.1 22) from (z35.t 22 rfl))]; exact hMC.1, by rw [(show (V35.2.2.1 100 3).1 = (Vb.2.2.1 100 3).1 from (z35.n 100 3 rfl))]; exact hMC.2.1, by rw [(show (V35.2.2.1 100 8).1 = (Vb.2.2.1 100 8).1 from (z35.n 100 8 rfl))]; exact hMC.2.2.1, by rw [(show (V35.2.2.1 100 12).1 = (Vb.2.2.1 100 12).1 from (z35.n 100 12 rfl))]; exact hMC.2.2.2.1, by rw [(show (V35.2.2.1 100 13).1 = (Vb.2.2.1 100 13).1 from (z35.n 100 13 rfl))]; exact hMC.2.2.2.2.1, by rw [(show (V35.2.2.1 100 15).1 = (Vb.2.2.1 100 15).1 from (z35.n 100 15 rfl))]; exact hMC.2.2.2.2.2⟩), (show MLW V35 Y P f od from hLD.imp (fun y => by rw [(show (V35.1 21) = (Vb.1 21) from (z35.t 21 rfl))]; exact y) (fun ⟨a0, N0, i0, y1, y2, y3⟩ => ⟨a0, N0, i0, y1, y2, y3.keep (show (V35.1 21) = (Vb.1 21) from (z35.t 21 rfl)) (show (V35.1 22) = (Vb.1 22) from (z35.t 22 rfl)) (show (V35.1 15) = (Vb.1 15) from (z35.t 15 rfl)) (show (V35.2.2.1 100 3) = (Vb.2.2.1 100 3) from (z35.a 100 3 rfl)) (show (V35.2.1 100 5) = (Vb.2.1 100 5) from (z35.i 100 5 rfl)) (show (V35.2.1 100 7) = (Vb.2.1 100 7) from (z35.i 100 7 rfl)) (show (V35.2.1 100 17) = (Vb.2.1 100 17) from (z35.i 100 17 rfl)) (show (V35.2.1 100 4) = (Vb.2.1 100 4) from (z35.i 100 4 rfl)) (show (V35.2.2.1 100 8) = (Vb.2.2.1 100 8) from (z35.a 100 8 rfl)) (show (V35.2.2.1 100 12).1 = (Vb.2.2.1 100 12).1 from (z35.n 100 12 rfl)) (show (V35.2.2.1 100 13).1 = (Vb.2.2.1 100 13).1 from (z35.n 100 13 rfl)) (show (V35.2.2.1 100 15).1 = (Vb.2.2.1 100 15).1 from (z35.n 100 15 rfl)) (show (V35.2.2.1 99 8) = (Vb.2.2.1 99 8) from (z35.a 99 8 rfl))⟩)), CLJ.cls hCJ1 gpd hCL (fun s s' hs hs' hR he => ⟨hR.1, fun r hr h4 => hR.2 r (by omega) h4, fun r hr h4 h0 t => ?_⟩)⟩
        exact hAM r (by omega) h4 h0 s s' (fun j hj hb => pj_dig hK.2.1 hs hs' (nI_inj (by have := pj_16 (mk := am) hK hs; omega) (by have := pj_16 (mk := am) hK hs'; omega) he) hj hb) t
      · -- 209: not (64 : Int32) < (nI (Vb.1 23).1)
        have nh34 : ¬ 64 < ((Vb.1 23).1) := fun z => h34 (show nI 64 < nI ((Vb.1 23).1) from (nI_ltI (by omega) (by omega)).mpr z)
        refine mw_go mu_g293 (k := 2) (f1 := (211, [(2, .inl (0 : Int32)), (1, .inl am), (0, .inr (.inr (some 129)))], [], Hsb)) (C := []) rfl trivial ?_
        show mu_W _ _ (211, [(2, .inl (nI 0)), (1, .inl am), (0, .inr (.inr (some 129)))], [], Hsb) _
        refine mw_sub (L' := [(2, .inl (nI 0)), (0, .inr (.inr (some 129)))]) (by simp) ?_
        refine mw_down (α := Nat × mu_H) (fun zs => (211, [(2, .inl (nI zs.1)), (0, .inr (.inr (some 129)))], [], zs.2)) (fun zs => (Vb.1 23).1 - zs.1) (fun zs => um m zs.2 ∧ ur m C H zs.2 ∧ (uq F293c Vb (ud m zs.2)) ∧ (zs.1 ≤ (Vb.1 23).1) ∧ (KNV m (ud m zs.2) Y P f od es) ∧ (MCS (ud m zs.2)) ∧ (MLW (ud m zs.2) Y P f od) ∧ (CLJ (ud m zs.2) (pd f 0 P) (fun s s' => ((∀ r, r < nf → (U.2.2.1 129 4).2 (bs r + pj (nm r) f P P s) = (U.2.2.1 129 4).2 (bs r + pj (nm r) f P P s')) ∧ (∀ r, r < nw → (U.1 25).2 r 4 = 0 → ∀ v, CHSw Y U f P od (wk r) (wa r) (wn r) (wi r) s v ↔ CHSw Y U f P od (wk r) (wa r) (wn r) (wi r) s' v)) ∧ PTE (Vb.1 23) Y U f P od zs.1 s s'))) (fun zs hzc ihc => ?_) (0, Hsb) ⟨ub, htb, (show uq F293c Vb (ud m Hsb) from by rw [db]; exact uq.refl _ _), (show 0 ≤ (Vb.1 23).1 from (by omega)), (show KNV m (ud m Hsb) Y P f od es from by rw [db]; exact hKN), (show MCS (ud m Hsb) from by rw [db]; exact hMC), (show MLW (ud m Hsb) Y P f od from by rw [db]; exact hLD), (show CLJ (ud m Hsb) (pd f 0 P) (fun s s' => ((∀ r, r < nf → (U.2.2.1 129 4).2 (bs r + pj (nm r) f P P s) = (U.2.2.1 129 4).2 (bs r + pj (nm r) f P P s')) ∧ (∀ r, r < nw → (U.1 25).2 r 4 = 0 → ∀ v, CHSw Y U f P od (wk r) (wa r) (wn r) (wi r) s v ↔ CHSw Y U f P od (wk r) (wa r) (wn r) (wi r) s' v)) ∧ PTE (Vb.1 23) Y U f P od 0 s s') from by rw [db]; exact (hCJ1.mono (fun s s' hs hs' hR => ⟨⟨hR.1, fun r hr => hR.2 r (by omega)⟩, fun r hr => absurd hr (Nat.not_lt_zero r)⟩)))⟩
        obtain ⟨x, Hsc⟩ := zs
        obtain ⟨uc, htc, dc, hx, hKNb, hMCb, hLDb, hCJ2⟩ := hzc
        have uc : um m Hsc := uc
        have htc : ur m C H Hsc := htc
        have zzc : uq F293c Vb (ud m Hsc) := dc
        have hx : x ≤ (Vb.1 23).1 := hx
        have hKNb : KNV m (ud m Hsc) Y P f od es := hKNb
        have hMCb : MCS (ud m Hsc) := hMCb
        have hLDb : MLW (ud m Hsc) Y P f od := hLDb
        have hCJ2 : CLJ (ud m Hsc) (pd f 0 P) (fun s s' => ((∀ r, r < nf → (U.2.2.1 129 4).2 (bs r + pj (nm r) f P P s) = (U.2.2.1 129 4).2 (bs r + pj (nm r) f P P s')) ∧ (∀ r, r < nw → (U.1 25).2 r 4 = 0 → ∀ v, CHSw Y U f P od (wk r) (wa r) (wn r) (wi r) s v ↔ CHSw Y U f P od (wk r) (wa r) (wn r) (wi r) s' v)) ∧ PTE (Vb.1 23) Y U f P od x s s') := hCJ2
        obtain ⟨Vc, dc⟩ : ∃ V, ud m Hsc = V := ⟨_, rfl⟩
        rw [dc] at zzc hKNb hMCb hLDb hCJ2
        have qfc : uq F293 U Vc := qfb.tr zzc rfl
        show mu_W _ _ (211, [(2, .inl (nI x)), (0, .inr (.inr (some 129)))], [], Hsc) _
        refine mw_go mu_g293 (k := 3) (f1 := (216, [(2, .inl (nI x)), (0, .inr (.inr (some 129)))], [.inr (.inr (mu_r Hsc 129 2)), .inl (nI x)], Hsc)) (C := [mu_is Hsc (some 129) 9]) rfl (show mu_is Hsc (some 129) 9 from (uc.1.1.is rfl)) ?_
        rw [(uc.1.1.r (p := 129) (j := 2) (q := 118) rfl)]
        refine mw_go mu_g293 (k := 1) (f1 := (219, [(2, .inl (nI x)), (0, .inr (.inr (some 129)))], [.inl (mu_i Hsc 118 2), .inl (nI x)], Hsc)) (C := [mu_is Hsc (some 118) 10]) rfl (show mu_is Hsc (some 118) 10 from (uc.1.1.is rfl)) ?_
        rw [(show mu_i Hsc 118 2 = (nI (Vb.1 23).1) from (uc.size dc (j := 23) (by decide) rfl).trans (congrArg (fun z => nI z.1) (show Vc.1 23 = (Vb.1 23) from (zzc.t 23 rfl))))]
        refine mw_if (P := (nI x) < (nI (Vb.1 23).1)) (a := 222) (b := 292) (fun _ => rfl) trivial (fun h36 => ?_) (fun h36 => ?_)
        · -- 222: (nI x) < (nI (Vb.1 23).1)
          have nh36 : x < ((Vb.1 23).1) := (nI_ltI (by omega) (by omega)).mp (show nI x < nI ((Vb.1 23).1) from h36)
          have hxn : x < (Vb.1 23).1 := by omega
          obtain ⟨b, nb, i1, rs1, v0, v1, v2, hi1, hrg1, hsr1, hno1⟩ := hVL x hxn
          have hrb1 := hrg1.2.1
          refine mw_go mu_g293 (k := 2) (f1 := (226, [(2, .inl (nI x)), (0, .inr (.inr (some 129)))], [.inr (.inr (mu_r Hsc 129 0))], Hsc)) (C := [mu_is Hsc (some 129) 9]) rfl (show mu_is Hsc (some 129) 9 from (uc.1.1.is rfl)) ?_
          rw [(uc.1.1.r (p := 129) (j := 0) (q := 99) rfl)]
          refine mw_go mu_g293 (k := 1) (f1 := (229, [(2, .inl (nI x)), (0, .inr (.inr (some 129)))], [.inr (.inr (mu_r Hsc 99 1))], Hsc)) (C := [mu_is Hsc (some 99) 13]) rfl (show mu_is Hsc (some 99) 13 from (uc.1.1.is rfl)) ?_
          rw [(uc.1.1.r (p := 99) (j := 1) (q := 100) rfl)]
          refine mw_go mu_g293 (k := 2) (f1 := (233, [(2, .inl (nI x)), (0, .inr (.inr (some 129)))], [.inr (.inr (mu_r Hsc 129 2)), .inr (.inr (some 100))], Hsc)) (C := [mu_is Hsc (some 129) 9]) rfl (show mu_is Hsc (some 129) 9 from (uc.1.1.is rfl)) ?_
          rw [(uc.1.1.r (p := 129) (j := 2) (q := 118) rfl)]
          refine mw_go mu_g293 (k := 2) (f1 := (235, [(2, .inl (nI x)), (0, .inr (.inr (some 129)))], [.inl (0 : Int32), .inl (nI x), .inr (.inr (some 118)), .inr (.inr (some 100))], Hsc)) (C := []) rfl trivial ?_
          refine mw_cIe (fun _ => rfl) (show mu_is Hsc (some 118) 10 from (uc.1.1.is rfl)) (uc.getr (d := (d + 6)) dc (j := 23) (by decide) rfl (nI x) (c := 0) (by decide)) ?_
          rw [show (tget (Vc.1 23) (nI x) 0) = (nI b) from ((congrArg (fun z => tget z (nI x) 0) (show Vc.1 23 = (Vb.1 23) from (zzc.t 23 rfl))).trans (tget_nI (by first | omega | decide))).trans v0]
          refine mw_go mu_g293 (k := 2) (f1 := (242, [(2, .inl (nI x)), (0, .inr (.inr (some 129)))], [.inr (.inr (mu_r Hsc 129 2)), .inl (nI b), .inr (.inr (some 100))], Hsc)) (C := [mu_is Hsc (some 129) 9]) rfl (show mu_is Hsc (some 129) 9 from (uc.1.1.is rfl)) ?_
          rw [(uc.1.1.r (p := 129) (j := 2) (q := 118) rfl)]
          refine mw_go mu_g293 (k := 2) (f1 := (244, [(2, .inl (nI x)), (0, .inr (.inr (some 129)))], [.inl (1 : Int32), .inl (nI x), .inr (.inr (some 118)), .inl (nI b), .inr (.inr (some 100))], Hsc)) (C := []) rfl trivial ?_
          refine mw_cIe (fun _ => rfl) (show mu_is Hsc (some 118) 10 from (uc.1.1.is rfl)) (uc.getr (d := (d + 6)) dc (j := 23) (by decide) rfl (nI x) (c := 1) (by decide)) ?_
          rw [show (tget (Vc.1 23) (nI x) 1) = (nI (b + nb)) from ((congrArg (fun z => tget z (nI x) 1) (show Vc.1 23 = (Vb.1 23) from (zzc.t 23 rfl))).trans (tget_nI (by first | omega | decide))).trans v1]
          refine mw_go mu_g293 (k := 2) (f1 := (251, [(2, .inl (nI x)), (0, .inr (.inr (some 129)))], [.inr (.inr (mu_r Hsc 129 2)), .inl (nI (b + nb)), .inl (nI b), .inr (.inr (some 100))], Hsc)) (C := [mu_is Hsc (some 129) 9]) rfl (show mu_is Hsc (some 129) 9 from (uc.1.1.is rfl)) ?_
          rw [(uc.1.1.r (p := 129) (j := 2) (q := 118) rfl)]
          refine mw_go mu_g293 (k := 2) (f1 := (253, [(2, .inl (nI x)), (0, .inr (.inr (some 129)))], [.inl (2 : Int32), .inl (nI x), .inr (.inr (some 118)), .inl (nI (b + nb)), .inl (nI b), .inr (.inr (some 100))], Hsc)) (C := []) rfl trivial ?_
          refine mw_cIe (fun _ => rfl) (show mu_is Hsc (some 118) 10 from (uc.1.1.is rfl)) (uc.getr (d := (d + 6)) dc (j := 23) (by decide) rfl (nI x) (c := 2) (by decide)) ?_
          rw [show (tget (Vc.1 23) (nI x) 2) = (nI i1) from ((congrArg (fun z => tget z (nI x) 2) (show Vc.1 23 = (Vb.1 23) from (zzc.t 23 rfl))).trans (tget_nI (by first | omega | decide))).trans v2]
          refine mw_cV (fun _ => rfl) (show mu_is Hsc (some 100) 5 from (uc.1.1.is rfl)) (mc_load3 (d := (d + 2)) (C := C) (a0 := b) (N0 := nb) (i0 := i1) uc dc hKNb hMCb hLDb hi1 (rgs_of hrg1) hC21 hC21b) (fun Q40 q40 => ?_)
          obtain ⟨u40, r40, z40, hKN1, hMC1, hLD1, -⟩ := q40
          have ht40 : ur m C H Q40 := htc.trans r40
          obtain ⟨V40, d40⟩ : ∃ V, ud m Q40 = V := ⟨_, rfl⟩
          rw [d40] at z40 hKN1 hMC1 hLD1
          have qf40 : uq F293 U V40 := qfc.tr z40 rfl
          obtain ⟨mk, hmk⟩ : ∃ mk, V40.2.1 100 4 = mk := ⟨_, rfl⟩
          refine mw_go mu_g293 (k := 2) (f1 := (263, [(2, .inl (nI x)), (0, .inr (.inr (some 129)))], [.inr (.inr (mu_r Q40 129 0))], Q40)) (C := [mu_is Q40 (some 129) 9]) rfl (show mu_is Q40 (some 129) 9 from (u40.1.1.is rfl)) ?_
          rw [(u40.1.1.r (p := 129) (j := 0) (q := 99) rfl)]
          refine mw_go mu_g293 (k := 1) (f1 := (266, [(2, .inl (nI x)), (0, .inr (.inr (some 129)))], [.inr (.inr (mu_r Q40 99 1))], Q40)) (C := [mu_is Q40 (some 99) 13]) rfl (show mu_is Q40 (some 99) 13 from (u40.1.1.is rfl)) ?_
          rw [(u40.1.1.r (p := 99) (j := 1) (q := 100) rfl)]
          refine mw_go mu_g293 (k := 1) (f1 := (269, [(2, .inl (nI x)), (0, .inr (.inr (some 129)))], [.inl (mu_i Q40 100 4)], Q40)) (C := [mu_is Q40 (some 100) 5]) rfl (show mu_is Q40 (some 100) 5 from (u40.1.1.is rfl)) ?_
          rw [(show mu_i Q40 100 4 = mk from (ud_i (U := V40) (m := m) (P := 100) (j := 4) d40 rfl).trans hmk)]
          refine mw_if (P := mk = 0) (a := 286) (b := 272) (fun _ => rfl) trivial (fun h41 => ?_) (fun h41 => ?_)
          · -- 286: mk = 0
            refine mw_go mu_g293 (k := 1) (f1 := (289, [(2, .inl ((nI x) + 1)), (0, .inr (.inr (some 129)))], [], Q40)) (C := []) rfl trivial ?_
            rw [(show ((nI x) + 1) = (nI (x + 1)) from (nI_add x 1))]
            refine mw_go mu_g293 (k := 1) (f1 := (211, [(2, .inl (nI (x + 1))), (0, .inr (.inr (some 129)))], [], Q40)) (C := []) rfl trivial ?_
            exact mw_sub (by simp) (ihc (x + 1, Q40) ⟨u40, ht40, (show uq F293c Vb (ud m Q40) from by rw [d40]; exact (zzc.tr z40 rfl)), (show (x + 1) ≤ (Vb.1 23).1 from (by omega)), (show KNV m (ud m Q40) Y P f od es from by rw [d40]; exact hKN1), (show MCS (ud m Q40) from by rw [d40]; exact hMC1), (show MLW (ud m Q40) Y P f od from by rw [d40]; exact (Or.inr ⟨b, nb, i1, by omega, hi1, hLD1⟩)), (show CLJ (ud m Q40) (pd f 0 P) (fun s s' => ((∀ r, r < nf → (U.2.2.1 129 4).2 (bs r + pj (nm r) f P P s) = (U.2.2.1 129 4).2 (bs r + pj (nm r) f P P s')) ∧ (∀ r, r < nw → (U.1 25).2 r 4 = 0 → ∀ v, CHSw Y U f P od (wk r) (wa r) (wn r) (wi r) s v ↔ CHSw Y U f P od (wk r) (wa r) (wn r) (wi r) s' v)) ∧ PTE (Vb.1 23) Y U f P od (x + 1) s s') from by rw [d40]; exact ((hCJ2.same (show (V40.2.2.1 129 7) = (Vc.2.2.1 129 7) from (z40.a 129 7 rfl))).mono (fun s s' hs hs' hR => ⟨hR.1, hR.2.next (by omega) hi1 (by omega) (by omega) v0 v1 v2 (by have he := tru_dig (s := s) (s' := s') hKN1 hLD1 hmk hi1 hrg1 hno1 (fun j hj hb => absurd (by rw [h41]; exact mb_0 j (by omega)) hb); rw [tru_same (U := U) (show (V40.1 15) = (U.1 15) from ((z40.t 15 rfl).trans ((zzc.t 15 rfl).trans ((zzb.t 15 rfl).trans (zza.t 15 rfl))))) (show (V40.2.2.1 99 8) = (U.2.2.1 99 8) from ((z40.a 99 8 rfl).trans ((zzc.a 99 8 rfl).trans ((zzb.a 99 8 rfl).trans (zza.a 99 8 rfl))))), tru_same (U := U) (show (V40.1 15) = (U.1 15) from ((z40.t 15 rfl).trans ((zzc.t 15 rfl).trans ((zzb.t 15 rfl).trans (zza.t 15 rfl))))) (show (V40.2.2.1 99 8) = (U.2.2.1 99 8) from ((z40.a 99 8 rfl).trans ((zzc.a 99 8 rfl).trans ((zzb.a 99 8 rfl).trans (zza.a 99 8 rfl)))))] at he; exact he)⟩)))⟩ (by show (Vb.1 23).1 - (x + 1) < (Vb.1 23).1 - x; omega))
          · -- 272: not mk = 0
            refine mw_go mu_g293 (k := 3) (f1 := (277, [(2, .inl (nI x)), (0, .inr (.inr (some 129)))], [.inr (.inr (mu_r Q40 129 0)), .inr (.inr (some 129))], Q40)) (C := [mu_is Q40 (some 129) 9]) rfl (show mu_is Q40 (some 129) 9 from (u40.1.1.is rfl)) ?_
            rw [(u40.1.1.r (p := 129) (j := 0) (q := 99) rfl)]
            refine mw_go mu_g293 (k := 1) (f1 := (280, [(2, .inl (nI x)), (0, .inr (.inr (some 129)))], [.inr (.inr (mu_r Q40 99 1)), .inr (.inr (some 129))], Q40)) (C := [mu_is Q40 (some 99) 13]) rfl (show mu_is Q40 (some 99) 13 from (u40.1.1.is rfl)) ?_
            rw [(u40.1.1.r (p := 99) (j := 1) (q := 100) rfl)]
            refine mw_go mu_g293 (k := 1) (f1 := (283, [(2, .inl (nI x)), (0, .inr (.inr (some 129)))], [.inl (mu_i Q40 100 4), .inr (.inr (some 129))], Q40)) (C := [mu_is Q40 (some 100) 5]) rfl (show mu_is Q40 (some 100) 5 from (u40.1.1.is rfl)) ?_
            rw [(show mu_i Q40 100 4 = mk from (ud_i (U := V40) (m := m) (P := 100) (j := 4) d40 rfl).trans hmk)]
            refine mw_cV (fun _ => rfl) (show mu_is Q40 (some 129) 9 from (u40.1.1.is rfl)) (rl_partBy (d := d) (C := C) (kb := kb) (a0 := b) (N0 := nb) (i0 := i1) (mk := mk) u40 d40 hKN1 hMC1 hLD1 hi1 hrg1 hsr1 (by decide) hmk (fun ⟨q, q1, q2, _⟩ => hno1 q q1 q2) (by rw [(show (V40.2.2.1 129 6).1 = (U.2.2.1 129 6).1 from ((z40.n 129 6 rfl).trans ((zzc.n 129 6 rfl).trans ((zzb.n 129 6 rfl).trans (zza.n 129 6 rfl)))))]; exact ha6) (by rw [(show (V40.2.2.1 129 6).1 = (U.2.2.1 129 6).1 from ((z40.n 129 6 rfl).trans ((zzc.n 129 6 rfl).trans ((zzb.n 129 6 rfl).trans (zza.n 129 6 rfl)))))]; exact ha6b) (by rw [(show (V40.2.2.1 129 7).1 = (U.2.2.1 129 7).1 from ((z40.n 129 7 rfl).trans ((zzc.n 129 7 rfl).trans ((zzb.n 129 7 rfl).trans (zza.n 129 7 rfl)))))]; exact ha7) (by rw [(show (V40.2.2.1 129 7).1 = (U.2.2.1 129 7).1 from ((z40.n 129 7 rfl).trans ((zzc.n 129 7 rfl).trans ((zzb.n 129 7 rfl).trans (zza.n 129 7 rfl)))))]; exact ha7b) (by rw [(show (V40.2.2.1 129 8).1 = (U.2.2.1 129 8).1 from ((z40.n 129 8 rfl).trans ((zzc.n 129 8 rfl).trans ((zzb.n 129 8 rfl).trans (zza.n 129 8 rfl)))))]; exact ha8) (by rw [(show (V40.2.2.1 129 8).1 = (U.2.2.1 129 8).1 from ((z40.n 129 8 rfl).trans ((zzc.n 129 8 rfl).trans ((zzb.n 129 8 rfl).trans (zza.n 129 8 rfl)))))]; exact ha8b) (by rw [(show (V40.2.2.1 129 9).1 = (U.2.2.1 129 9).1 from ((z40.n 129 9 rfl).trans ((zzc.n 129 9 rfl).trans ((zzb.n 129 9 rfl).trans (zza.n 129 9 rfl)))))]; exact ha9) hkb hTb) (fun Q42 q42 => ?_)
            obtain ⟨u42, r42, z42, hKNp, hMCp, hLDp, hCL⟩ := q42
            have ht42 : ur m C H Q42 := ht40.trans r42
            obtain ⟨V42, d42⟩ : ∃ V, ud m Q42 = V := ⟨_, rfl⟩
            rw [d42] at z42 hKNp hMCp hLDp hCL
            have qf42 : uq F293 U V42 := qf40.tr z42 rfl
            refine mw_go mu_g293 (k := 1) (f1 := (289, [(2, .inl ((nI x) + 1)), (0, .inr (.inr (some 129)))], [], Q42)) (C := []) rfl trivial ?_
            rw [(show ((nI x) + 1) = (nI (x + 1)) from (nI_add x 1))]
            refine mw_go mu_g293 (k := 1) (f1 := (211, [(2, .inl (nI (x + 1))), (0, .inr (.inr (some 129)))], [], Q42)) (C := []) rfl trivial ?_
            exact mw_sub (by simp) (ihc (x + 1, Q42) ⟨u42, ht42, (show uq F293c Vb (ud m Q42) from by rw [d42]; exact ((zzc.tr z40 rfl).tr z42 rfl)), (show (x + 1) ≤ (Vb.1 23).1 from (by omega)), (show KNV m (ud m Q42) Y P f od es from by rw [d42]; exact hKNp), (show MCS (ud m Q42) from by rw [d42]; exact hMCp), (show MLW (ud m Q42) Y P f od from by rw [d42]; exact (Or.inr ⟨b, nb, i1, by omega, hi1, hLDp⟩)), (show CLJ (ud m Q42) (pd f 0 P) (fun s s' => ((∀ r, r < nf → (U.2.2.1 129 4).2 (bs r + pj (nm r) f P P s) = (U.2.2.1 129 4).2 (bs r + pj (nm r) f P P s')) ∧ (∀ r, r < nw → (U.1 25).2 r 4 = 0 → ∀ v, CHSw Y U f P od (wk r) (wa r) (wn r) (wi r) s v ↔ CHSw Y U f P od (wk r) (wa r) (wn r) (wi r) s' v)) ∧ PTE (Vb.1 23) Y U f P od (x + 1) s s') from by rw [d42]; exact (CLJ.cls (hCJ2.same (show (V40.2.2.1 129 7) = (Vc.2.2.1 129 7) from (z40.a 129 7 rfl))) gpd hCL (fun s s' hs hs' hR he => ⟨hR.1, hR.2.next (by omega) hi1 (by omega) (by omega) v0 v1 v2 (by have he : tru Y V40 f P od i1 b nb s = tru Y V40 f P od i1 b nb s' := he; rw [tru_same (U := U) (show (V40.1 15) = (U.1 15) from ((z40.t 15 rfl).trans ((zzc.t 15 rfl).trans ((zzb.t 15 rfl).trans (zza.t 15 rfl))))) (show (V40.2.2.1 99 8) = (U.2.2.1 99 8) from ((z40.a 99 8 rfl).trans ((zzc.a 99 8 rfl).trans ((zzb.a 99 8 rfl).trans (zza.a 99 8 rfl))))), tru_same (U := U) (show (V40.1 15) = (U.1 15) from ((z40.t 15 rfl).trans ((zzc.t 15 rfl).trans ((zzb.t 15 rfl).trans (zza.t 15 rfl))))) (show (V40.2.2.1 99 8) = (U.2.2.1 99 8) from ((z40.a 99 8 rfl).trans ((zzc.a 99 8 rfl).trans ((zzb.a 99 8 rfl).trans (zza.a 99 8 rfl)))))] at he; exact he)⟩)))⟩ (by show (Vb.1 23).1 - (x + 1) < (Vb.1 23).1 - x; omega))
        · -- 292: not (nI x) < (nI (Vb.1 23).1)
          have nh36 : ¬ x < ((Vb.1 23).1) := fun z => h36 (show nI x < nI ((Vb.1 23).1) from (nI_ltI (by omega) (by omega)).mpr z)
          refine mw_of (fun _ => mu_ret rfl trivial ⟨Hsc, rfl, uc, htc, (by rw [dc]; exact qfc), ?_⟩)
          rw [dc]
          refine ⟨hKNb, hMCb, hLDb, hCJ2.mono (fun s s' hs hs' hR => ⟨hR.1.1, hR.1.2, fun r hr h4 h0 t => ?_⟩)⟩
          have hx2 : x = (Vb.1 23).1 := by omega
          rw [hx2] at hR
          exact hR.2.eqt (hEQ r (by omega) h4 h0 (by omega)) (hWD.2 r (by omega)).1.2.2.2.1 t
end PartInW
