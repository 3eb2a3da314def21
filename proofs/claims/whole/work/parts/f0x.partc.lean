/-! RELATION: partClasses -/
/-- the first j pieces are alike in two STATES -/
def PTE (t3 : Tb) (Y : Ts) (U : Ud) (f : Nat → Nat) (P : Nat) (od : Nat → Nat) (j s s' : Nat) : Prop := ∀ r, r < j → ∀ b nb i1, b + nb ≤ (Y 0).1 → i1 < (Y 11).1 → t3.2 r 0 = nI b → t3.2 r 1 = nI (b + nb) → t3.2 r 2 = nI i1 → tru Y U f P od i1 b nb s = tru Y U f P od i1 b nb s'
/-- classes, and what STATES of one class have in common -/
def CLJ (V : Ud) (T : Nat) (R : Nat → Nat → Prop) : Prop := ∃ cl : Nat → Nat, (∀ t, t < T → (V.2.2.1 129 7).2 t = nI (cl t) ∧ cl t ≤ T) ∧ ∀ s s', s < T → s' < T → cl s = cl s' → R s s'
section PartInW
variable {H : mu_H} {U V V1 : Ud} {m d P nw nf kb T j k i0 a N : Nat} {C : Nat → Nat} {Y : Ts} {f od wa wn wi bs : Nat → Nat} {nm : Nat → Int32} {wk : Nat → Bool} {es : Nat → Int32} {R R' : Nat → Nat → Prop} {ky : Nat → Int32} {t3 : Tb} {x y : Int32} {s s' B : Nat}
theorem tru_same (h15 : V.1 15 = U.1 15) (h8 : V.2.2.1 99 8 = U.2.2.1 99 8) : tru Y V f P od i0 a N s = tru Y U f P od i0 a N s := by
  unfold tru
  rw [vst_same (f := f) (P := P) (s := s) h15 h8]
theorem EQT.same (h : EQT Y V f P od t3 i0 a N) (h15 : V.1 15 = U.1 15) (h8 : V.2.2.1 99 8 = U.2.2.1 99 8) : EQT Y U f P od t3 i0 a N := fun s s' hs t => by
  have y := h s s' (fun b nb hb => by rw [tru_same h15 h8, tru_same h15 h8]; exact hs b nb hb) t
  rw [trs_same h15 h8, trs_same h15 h8] at y
  exact y
theorem mb_orand (hj : j < 14) : (¬ mb (x ||| (y &&& (16383 : Int32))) j = 0) ↔ (¬ mb x j = 0 ∨ ¬ mb y j = 0) := by
  have key : ∀ j : Fin 14, (16383 : Int32).toBitVec.getLsbD j.1 = true := by decide
  rw [mb_bit _ j (by omega), mb_bit x j (by omega), mb_bit y j (by omega), Int32.toBitVec_or, Int32.toBitVec_and, BitVec.getLsbD_or, BitVec.getLsbD_and, key ⟨j, hj⟩, Bool.and_true, Bool.or_eq_true]
theorem CLJ.mono (h : CLJ V T R) (hR : ∀ s s', s < T → s' < T → R s s' → R' s s') : CLJ V T R' := by
  obtain ⟨cl, h1, h2⟩ := h
  exact ⟨cl, h1, fun s s' hs hs' hc => hR s s' hs hs' (h2 s s' hs hs' hc)⟩
theorem CLJ.same (h : CLJ V T R) (e : V1.2.2.1 129 7 = V.2.2.1 129 7) : CLJ V1 T R := by
  unfold CLJ at *
  rw [e]
  exact h
theorem CLJ.cls (h : CLJ V T R) (hT : T ≤ 16384) (hC : CLS V V1 T ky) (hR : ∀ s s', s < T → s' < T → R s s' → ky s = ky s' → R' s s') : CLJ V1 T R' := by
  obtain ⟨cl, h1, h2⟩ := h
  obtain ⟨cn, c1, c2⟩ := hC
  refine ⟨cn, fun t ht => ⟨(c1 t ht).1, Nat.le_of_lt (c1 t ht).2⟩, fun s s' hs hs' hc => ?_⟩
  obtain ⟨w1, w2⟩ := (c2 s s' hs hs').mp hc
  rw [(h1 s hs).1, (h1 s' hs').1] at w1
  have w3 : cl s = cl s' := nI_inj (by have := (h1 s hs).2; omega) (by have := (h1 s' hs').2; omega) w1
  exact hR s s' hs hs' (h2 s s' hs hs' w3) w2
theorem PTE.next (h : PTE t3 Y U f P od j s s') {b nb i1 : Nat} (hb : b + nb ≤ (Y 0).1) (hi : i1 < (Y 11).1) (hY0 : (Y 0).1 ≤ 67108864) (hY11 : (Y 11).1 ≤ 67108864) (e0 : t3.2 j 0 = nI b) (e1 : t3.2 j 1 = nI (b + nb)) (e2 : t3.2 j 2 = nI i1) (he : tru Y U f P od i1 b nb s = tru Y U f P od i1 b nb s') : PTE t3 Y U f P od (j + 1) s s' := by
  intro r hr b' nb' i1' hb' hi' w0 w1 w2
  by_cases e : r = j
  · rw [e] at w0 w1 w2
    have x0 : b' = b := nI_inj (by omega) (by omega) (w0.symm.trans e0)
    have x1 : b' + nb' = b + nb := nI_inj (by omega) (by omega) (w1.symm.trans e1)
    have x2 : i1' = i1 := nI_inj (by omega) (by omega) (w2.symm.trans e2)
    have x3 : nb' = nb := by omega
    rw [x0, x2, x3]
    exact he
  · exact h r (by omega) b' nb' i1' hb' hi' w0 w1 w2
theorem PTE.eqt (h : PTE t3 Y U f P od t3.1 s s') (he : EQT Y U f P od t3 i0 a N) (hi : i0 < (Y 11).1) (t : Nat) : trs Y U f P od i0 a N s t = trs Y U f P od i0 a N s' t := he s s' (fun b nb ⟨rb, r, r1, r2, r3, r4⟩ => h r r1 b nb i0 rb hi r2 r3 r4) t
def F293 : Uf := ⟨[21, 22, 18, 23], [(100, 4), (100, 5), (100, 6), (100, 7), (100, 17), (100, 18), (100, 21), (100, 19), (100, 20), (100, 14), (100, 16)], [(100, 3), (100, 8), (100, 12), (100, 13), (100, 15), (99, 18), (129, 7), (129, 8), (129, 9), (100, 9), (100, 10), (100, 11), (129, 6)], [(100, 3), (100, 8), (100, 12), (100, 13), (100, 15)], [], false⟩
theorem CHSw_same {bb : Bool} {s : Nat} {v : Int32} (h15 : V.1 15 = U.1 15) (ha8 : V.2.2.1 99 8 = U.2.2.1 99 8) : CHSw Y V f P od bb a N i0 s v ↔ CHSw Y U f P od bb a N i0 s v := by
  unfold CHSw
  rw [vst_same h15 ha8]
theorem rgs_nil {a k : Nat} (h : a ≤ (Y 0).1) : rgs Y k [] a (a + 0) := ⟨Nat.le_refl _, h, by rw [Nat.add_zero, Nat.sub_self]; rfl, fun p h1 h2 => absurd h2 (by omega)⟩
theorem WID3 {t15 t : Tb} {r : Nat} (h : (t.2 r 3 = -1 ∧ t.2 r 4 = 1 ∧ (wn r = 0 ∨ WTC Y es (wa r) (wn r) (wi r))) ∨ (∃ pl, pl < P ∧ t.2 r 3 = nI pl ∧ t.2 r 4 = 0 ∧ ¬ NXW Y t15 P (wa r) (wn r) (wi r) ∧ ∃ al Lk rs, ¬ al = 2 ∧ rgs Y (im Y (wi r)) Lk (wa r) (wa r + wn r) ∧ 1 ≤ Lk.length ∧ SRT Y es (wi r) al (wa r) rs (wn r) ∧ (wk r = true → Lk = [true]) ∧ (wk r = false → ¬ true ∈ Lk)) ∨ ∃ pl, pl < P ∧ t.2 r 3 = nI pl ∧ t.2 r 4 = 1 ∧ WTC Y es (wa r) (wn r) (wi r) ∧ ∀ q, NXP Y t15 P (wa r) (wn r) (wi r) q → q = pl) : (t.2 r 4 = 1 ∧ wn r = 0) ∨ (t.2 r 4 = 0 ∧ ∃ pl : Nat, ¬ NXW Y t15 P (wa r) (wn r) (wi r) ∧ ∃ al Lk rs, ¬ al = 2 ∧ rgs Y (im Y (wi r)) Lk (wa r) (wa r + wn r) ∧ 1 ≤ Lk.length ∧ SRT Y es (wi r) al (wa r) rs (wn r) ∧ (wk r = true → Lk = [true]) ∧ (wk r = false → ¬ true ∈ Lk)) ∨ (t.2 r 4 = 1 ∧ WTC Y es (wa r) (wn r) (wi r)) := by
  rcases h with ⟨-, h4, y | y⟩ | ⟨pl, -, -, h4, y⟩ | ⟨pl, -, -, h4, y, -⟩
  · exact Or.inl ⟨h4, y⟩
  · exact Or.inr (Or.inr ⟨h4, y⟩)
  · exact Or.inr (Or.inl ⟨h4, pl, y⟩)
  · exact Or.inr (Or.inr ⟨h4, y⟩)
theorem NIF.vla {t3 t0 : Tb} {n0 : Nat} (h : NIF t3 t0 Y es U f P od i0 a N n0) (h0 : VLA t0 Y es) (hn0 : n0 = t0.1) (hi : i0 < (Y 11).1) (hb : n0 ≤ 65) : VLA t3 Y es ∧ t0.1 ≤ t3.1 ∧ (∀ r c, r < t0.1 → t3.2 r c = t0.2 r c) ∧ t3.1 ≤ 65 ∧ (t3.1 ≤ 64 → EQT Y U f P od t3 i0 a N) := by
  obtain ⟨hVL, hTK, hcn, hE⟩ := h
  subst hn0
  refine ⟨fun r hr => ?_, hTK.1, hTK.2, by omega, hE⟩
  by_cases c : r < t0.1
  · obtain ⟨b, nb, i1, rs, z1, z2, z3, z4⟩ := h0 r c
    exact ⟨b, nb, i1, rs, by rw [hTK.2 r 0 c]; exact z1, by rw [hTK.2 r 1 c]; exact z2, by rw [hTK.2 r 2 c]; exact z3, z4⟩
  · obtain ⟨b, nb, rs, z1, z2, z3, z4, z5, z6⟩ := hVL r (by omega) hr
    exact ⟨b, nb, i0, rs, z1, z2, z3, hi, z4, z5, z6⟩
/-- PathProver$Relation.partClasses()V -/
abbrev mu_m293 : ev_M := (3, none, [], ev_b293)
theorem mu_g293 : mu_good mu_m293 := mu_goodk ev_k293
end PartInW
