/-! RELATION: partByInputs, its data -/
/-- a row of pieces of an INSTANCE -/
def INI (t : Tb) (Y : Ts) (i0 b nb : Nat) : Prop := b + nb ≤ (Y 0).1 ∧ ∃ r, r < t.1 ∧ t.2 r 0 = nI b ∧ t.2 r 1 = nI (b + nb) ∧ t.2 r 2 = nI i0
/-- where the pieces are alike in two STATES, so is a truth -/
def EQT (Y : Ts) (U : Ud) (f : Nat → Nat) (P : Nat) (od : Nat → Nat) (t3 : Tb) (i0 a N : Nat) : Prop := ∀ s s', (∀ b nb, INI t3 Y i0 b nb → tru Y U f P od i0 b nb s = tru Y U f P od i0 b nb s') → ∀ t, trs Y U f P od i0 a N s t = trs Y U f P od i0 a N s' t
/-- rows of pieces: closed, of their SORTS, without next -/
def VLA (t : Tb) (Y : Ts) (es : Nat → Int32) : Prop := ∀ r, r < t.1 → ∃ b nb i0 rs, t.2 r 0 = nI b ∧ t.2 r 1 = nI (b + nb) ∧ t.2 r 2 = nI i0 ∧ i0 < (Y 11).1 ∧ rg Y (im Y i0) false b (b + nb) ∧ SRT Y es i0 1 b rs nb ∧ ∀ q, q < nb → ¬ oc Y (b + q) = 3
section PartIn
variable {Y : Ts} {U V : Ud} {m a N P i0 n0 s s' t k : Nat} {f od : Nat → Nat} {es : Nat → Int32} {t8 t3 t0 t1 : Tb} {mk mx : Int32} {kd : Bool}
theorem tpz_pos {n : Nat} (hn : 0 < n) : 1 ≤ tpz Y a n := by
  cases n with
  | zero => omega
  | succ n => rw [tpz_s]; omega
theorem EQT.up (h : EQT Y U f P od t3 i0 a N) (h1 : t3.1 ≤ t1.1) (h2 : ∀ r c, r < t3.1 → t1.2 r c = t3.2 r c) : EQT Y U f P od t1 i0 a N := fun s s' hs => h s s' (fun b nb ⟨r0, r, r1, r2, r3, r4⟩ => hs b nb ⟨r0, r, by omega, by rw [h2 r 0 r1]; exact r2, by rw [h2 r 1 r1]; exact r3, by rw [h2 r 2 r1]; exact r4⟩)
theorem NIV.eqt (h : NIV t8 t3 t0 Y es U f P od i0 a N n0) (hr : rg Y (im Y i0) false a (a + N)) (hx : ∃ q, q < N ∧ oc Y (a + q) = 3) (hlim : t3.1 ≤ 64) : EQT Y U f P od t3 i0 a N := by
  obtain ⟨g, mv, ho, hm, h8, hI, hVL, hTK, hcn⟩ := h
  have h1 : tpz Y a N = 1 := by have y := rg_1 hr; rw [Nat.add_sub_cancel_left] at y; exact y
  obtain ⟨q, q1, q2⟩ := hx
  have hmv : ¬ mv 0 = 0 := fun y => by
    obtain ⟨z1, z2, z3⟩ := ho 0 (by omega)
    have eg : gnd g N (tpz Y a N) 0 = N := if_neg (by omega)
    by_cases c : g 0 ≤ q
    · exact hm 0 (by omega) y q c (by rw [eg]; exact q1) q2
    · have hg0 : g 0 = 0 := by
        apply Decidable.byContradiction
        intro hne
        have y2 := tpz_pos (Y := Y) (a := a) (n := g 0) (by omega)
        omega
      omega
  intro s s' hs t
  refine hI hlim s s' (fun b nb ⟨rb, r, r0, r1, r2, r3⟩ => ?_) t 0 (by omega) hmv
  obtain ⟨b', nb', rs', z1, z2, z3, -⟩ := hVL r r0 r1
  exact hs b nb ⟨rb, r, r1, r2, r3, z3⟩
theorem NIV.vla (h : NIV t8 t3 t0 Y es U f P od i0 a N n0) (h0 : VLA t0 Y es) (hn0 : n0 = t0.1) (hi : i0 < (Y 11).1) : VLA t3 Y es ∧ t0.1 ≤ t3.1 ∧ (∀ r c, r < t0.1 → t3.2 r c = t0.2 r c) := by
  obtain ⟨g, mv, ho, hm, h8, hI, hVL, hTK, hcn⟩ := h
  subst hn0
  refine ⟨fun r hr => ?_, hTK.1, hTK.2⟩
  by_cases c : r < t0.1
  · obtain ⟨b, nb, i1, rs, z1, z2, z3, z4⟩ := h0 r c
    exact ⟨b, nb, i1, rs, by rw [hTK.2 r 0 c]; exact z1, by rw [hTK.2 r 1 c]; exact z2, by rw [hTK.2 r 2 c]; exact z3, z4⟩
  · obtain ⟨b, nb, rs, z1, z2, z3, z4, z5, z6⟩ := hVL r (by omega) hr
    exact ⟨b, nb, i0, rs, z1, z2, z3, hi, z4, z5, z6⟩
/-- STATES that agree in the digits of a mask agree in what is loaded -/
theorem agr_dig (hP : P ≤ 14) (hd : ∀ k, k < P → ¬ mb mk k = 0 → dgzU f P s k = dgzU f P s' k) (hb : ∀ k, k < 28 → ¬ mb mk k = 0 → k % 14 < P) : AGR (U.1 15) Y mk 0 (vst U f P s) (vst U f P s') := fun w hw => ⟨fun e => by rw [vst_m1 e, vst_m1 e], fun pl h14 e hm => by
  rw [Nat.add_zero] at hm
  have hpl : pl < P := by have := hb pl (by omega) hm; omega
  rw [vst_pl e h14, vst_pl e h14, hd pl hpl hm]⟩
theorem trs_dig (hK : KNV m U Y P f od es) (hl : LDW U Y P f od a N i0) (hmk : U.2.1 100 4 = mk) (hi : i0 < (Y 11).1) (hr : rg Y (im Y i0) kd a (a + N)) (hd : ∀ k, k < P → ¬ mb mk k = 0 → dgzU f P s k = dgzU f P s' k) : trs Y U f P od i0 a N s t = trs Y U f P od i0 a N s' t := by
  have hb := LDW.sides hl hmk
  obtain ⟨S0, K, dp, W, mk', M, rk, l1, l2, l3, l4⟩ := hl
  have emk : mk' = mk := l2.1.2.2.2.symm.trans hmk
  subst emk
  exact congrFun (root_agree hK.2.2.2.1.1 hK.2.2.2.2.1 hK.2.2.2.1.2.1 hK.P14 l3 hi hr (agr_dig hK.P14 hd hb) (fun w hw => ⟨fun _ => rfl, fun _ _ _ _ => rfl⟩)).1 0
theorem tru_dig (hK : KNV m U Y P f od es) (hl : LDW U Y P f od a N i0) (hmk : U.2.1 100 4 = mk) (hi : i0 < (Y 11).1) (hr : rg Y (im Y i0) kd a (a + N)) (hno : ∀ q, q < N → ¬ oc Y (a + q) = 3) (hd : ∀ k, k < P → ¬ mb mk k = 0 → dgzU f P s k = dgzU f P s' k) : tru Y U f P od i0 a N s = tru Y U f P od i0 a N s' := by
  have y := trs_dig (t := s) hK hl hmk hi hr hd
  unfold trs at y
  rw [no_nx (s := s) (t := s) hno, no_nx (s := s') (t := s) hno] at y
  exact y
theorem pj_dig (hf : ∀ k, 1 ≤ f k) (hs : s < pd f 0 P) (hs' : s' < pd f 0 P) (h : pj mk f P P s = pj mk f P P s') (hk : k < P) (hb : ¬ mb mk k = 0) : dgzU f P s k = dgzU f P s' k := by
  have hf' : ∀ k, k < P → 1 ≤ f k := fun k _ => hf k
  have e : P - 1 - (P - 1 - k) = k := by omega
  have z := pj_digit (mk := mk) hf' (n' := P - 1 - k) (by rw [e]; exact hb) P (by omega) (Nat.le_refl _) s (by rw [Nat.sub_self]; exact hs)
  have z' := pj_digit (mk := mk) hf' (n' := P - 1 - k) (by rw [e]; exact hb) P (by omega) (Nat.le_refl _) s' (by rw [Nat.sub_self]; exact hs')
  rw [h, z'] at z
  rw [e, show P - (P - 1 - k) = k + 1 by omega] at z
  unfold dgzU
  exact z.symm
end PartIn
