/-! THE UPPER LAYER AT WORK: the MODEL, the Machine, what is loaded -/
/-- rows of claims with their SORTS -/
def FRT (Y : Ts) (es : Nat → Int32) (j : Nat) (al : Int32) : Prop := ∀ r, r < (Y j).1 → ∃ a N i rs, (Y j).2 r 0 = nI a ∧ (Y j).2 r 1 = nI (a + N) ∧ (Y j).2 r 2 = nI i ∧ i < (Y 11).1 ∧ rg Y (im Y i) false a (a + N) ∧ SRT Y es i al a rs N ∧ (stk Y rs a N 0 = 1 ∨ stk Y rs a N 0 = 9)
/-- what holds of the MODEL that stands -/
def MDL (Y : Ts) (es : Nat → Int32) : Prop := JW Y ∧ TYP Y es ∧ NUM Y ∧ ((Y 13).1 ≤ 4001 ∧ (Y 0).1 ≤ 14000 ∧ (Y 15).1 ≤ 4001 ∧ (Y 16).1 ≤ 4001 ∧ (Y 17).1 ≤ 4001) ∧ (FRT Y es 16 0 ∧ FRT Y es 17 2) ∧ (∀ q, q < (Y 1).1 → ∀ n, sp Y q 4 ≤ n → n < sp Y (q + 1) 4 → LV Y q n) ∧ sm (ncl Y) 0 (Y 11).1 ≤ 4001
/-- the Space laid out for it -/
def KNV (m : Nat) (U : Ud) (Y : Ts) (P : Nat) (f od : Nat → Nat) (es : Nat → Int32) : Prop :=
  spx m U P f ∧ (∀ k, 1 ≤ f k) ∧ jv Y U.1 ∧ MDL Y es ∧ TOP Y (U.1 14) od ∧ WTY U Y f P ∧ (∀ w, w < (Y 15).1 → (U.1 15).2 w 2 = -1 ∨ ∃ pl, pl < P ∧ (U.1 15).2 w 2 = nI pl)
def MCS (U : Ud) : Prop := (U.1 22).1 = 28 ∧ (U.2.2.1 100 3).1 ≤ 131072 ∧ clz (U.2.2.1 100 8).1 ∧ (U.2.2.1 100 12).1 ≤ 131072 ∧ (U.2.2.1 100 13).1 ≤ 131072 ∧ (U.2.2.1 100 15).1 ≤ 131072
def nxp (Y : Ts) (a N : Nat) : Prop := ∃ x, x < N ∧ oc Y (a + x) = 3
/-- an E is loaded -/
def LDD (U : Ud) (Y : Ts) (P : Nat) (f od : Nat → Nat) (a0 N0 i0 : Nat) : Prop := ∃ S0 K dp W mk M rk, LR U Y a0 N0 i0 od S0 K M rk ∧ LZx U S0 K (sfz Y a0 N0) dp W mk ∧ LC (U.1 15) Y P (nxp Y a0 N0) a0 N0 i0 (sfz Y a0 N0) dp mk M ∧ sdx U W P S0 f mk (bcn mk)
def MLD (U : Ud) (Y : Ts) (P : Nat) (f od : Nat → Nat) : Prop := (U.1 21).1 = 0 ∨ ∃ a0 N0 i0, a0 + N0 ≤ (Y 0).1 ∧ i0 < (Y 11).1 ∧ LDD U Y P f od a0 N0 i0
section Ready
variable {H : mu_H} {U V : Ud} {m d P a0 N0 i0 s v0 : Nat} {C : Nat → Nat} {Y : Ts} {f od : Nat → Nat} {es rs : Nat → Int32} {al : Int32} {kd : Bool} {F : Uf}
theorem SRT_nx (h : SRT Y es i0 al a0 rs N0) (hal : ¬ al = 1) : ¬ nxp Y a0 N0 := by
  rintro ⟨x, hx, ho⟩
  obtain ⟨_, h2, _⟩ := h x hx
  rcases h2 (by rw [ho]; rfl) with z | z | z
  · exact absurd (z.1.symm.trans ho) (by decide)
  · exact absurd (z.1.symm.trans ho) (by decide)
  · exact hal (z.2.1 ho).2
theorem MDL.nxe (h : MDL Y es) (NX : Prop) : ∀ e, e < (Y 13).1 → ∀ x, x < elx Y e → oc Y (enx Y e 0 + x) = 3 → NX := fun e he x hx ho => by
  obtain ⟨rs, h1, _⟩ := h.2.1.1 e he
  exact absurd ⟨x, hx, ho⟩ (SRT_nx h1 (by decide))
theorem KNV.to (h : KNV m U Y P f od es) (ht : ∀ j, j < 18 → ¬ j = 16 → V.1 j = U.1 j) (h16 : (V.1 16).1 = (U.1 16).1 ∧ ∀ i c, c < 3 → (V.1 16).2 i c = (U.1 16).2 i c) (i4 : V.2.1 99 4 = U.2.1 99 4) (i10 : V.2.1 99 10 = U.2.1 99 10) (i11 : V.2.1 99 11 = U.2.1 99 11) (i12 : V.2.1 99 12 = U.2.1 99 12) (a5 : V.2.2.1 99 5 = U.2.2.1 99 5) (a6 : V.2.2.1 99 6 = U.2.2.1 99 6) (a7 : V.2.2.1 99 7 = U.2.2.1 99 7) (a8 : V.2.2.1 99 8 = U.2.2.1 99 8) (n18 : (V.2.2.1 99 18).1 = (U.2.2.1 99 18).1) (r1 : V.2.2.2.1 100 0 = U.2.2.2.1 100 0) (r2 : V.2.2.2.1 99 0 = U.2.2.2.1 99 0) : KNV m V Y P f od es := by
  obtain ⟨⟨s1, s2, s3, s4, s5, s6⟩, hf, hj, hM, hT, hW, hp⟩ := h
  have t15 := ht 15 (by decide) (by decide)
  refine ⟨⟨by rw [i4, i10, i11, i12]; exact s1, fun k hk => by rw [a5, a6, a7]; exact s2 k hk, by rw [a8, n18]; exact s3, s4, r1.trans s5, r2.trans s6⟩, hf, ?_, hM, by rw [ht 14 (by decide) (by decide)]; exact hT, ?_, by rw [t15]; exact hp⟩
  · obtain ⟨j1, j2, j3, j4, j5⟩ := hj
    refine ⟨fun j hj' => (ht j (by omega) (by omega)).trans (j1 j hj'), by rw [ht 13 (by decide) (by decide)]; exact j2, by rw [t15]; exact j3, ⟨h16.1.trans j4.1, fun i c hc => (h16.2 i c hc).trans (j4.2 i c hc)⟩, by rw [ht 17 (by decide) (by decide)]; exact j5⟩
  · unfold WTY at hW ⊢
    rw [t15, a8]
    exact hW
/-- a frame that leaves the MODEL and the Space -/
def kok (F : Uf) : Bool := (List.range 18).all (fun j => !in1 F.t j) && (!in2 F.i 99 4 && (!in2 F.i 99 10 && (!in2 F.i 99 11 && (!in2 F.i 99 12 && (!in2 F.a 99 5 && (!in2 F.a 99 6 && (!in2 F.a 99 7 && (!in2 F.a 99 8 && (!in2 F.n 99 18 && (!in2 F.n 100 0 && !in2 F.n 99 0))))))))))
theorem kok_b {a b : Bool} (h : (!a && b) = true) : a = false ∧ b = true := by
  cases a
  · exact ⟨rfl, h⟩
  · cases h
theorem KNV.q (h : KNV m U Y P f od es) (hq : uq F U V) (hF : kok F = true) : KNV m V Y P f od es := by
  unfold kok at hF
  obtain ⟨b0, hF⟩ := Bool.and_eq_true_iff.mp hF
  obtain ⟨b1, hF⟩ := kok_b hF
  obtain ⟨b2, hF⟩ := kok_b hF
  obtain ⟨b3, hF⟩ := kok_b hF
  obtain ⟨b4, hF⟩ := kok_b hF
  obtain ⟨b5, hF⟩ := kok_b hF
  obtain ⟨b6, hF⟩ := kok_b hF
  obtain ⟨b7, hF⟩ := kok_b hF
  obtain ⟨b8, hF⟩ := kok_b hF
  obtain ⟨b9, hF⟩ := kok_b hF
  obtain ⟨b10, hF⟩ := kok_b hF
  have b11 : in2 F.n 99 0 = false := by
    cases e : in2 F.n 99 0
    · rfl
    · rw [e] at hF
      cases hF
  have ht : ∀ j, j < 18 → V.1 j = U.1 j := fun j hj => hq.t j (by
    have := List.all_eq_true.mp b0 j (List.mem_range.mpr hj)
    cases e : in1 F.t j
    · rfl
    · rw [e] at this
      cases this)
  exact h.to (fun j hj _ => ht j hj) (by rw [ht 16 (by decide)]; exact ⟨rfl, fun _ _ _ => rfl⟩) (hq.i 99 4 b1) (hq.i 99 10 b2) (hq.i 99 11 b3) (hq.i 99 12 b4) (hq.a 99 5 b5) (hq.a 99 6 b6) (hq.a 99 7 b7) (hq.a 99 8 b8) (hq.n 99 18 b9) (hq.r 100 0 b10) (hq.r 99 0 b11)
theorem KNV.P14 (h : KNV m U Y P f od es) : P ≤ 14 := h.1.2.2.2.1.1
theorem LDD.keep (h : LDD U Y P f od a0 N0 i0) (h21 : V.1 21 = U.1 21) (h22 : V.1 22 = U.1 22) (h15 : V.1 15 = U.1 15) (a3 : V.2.2.1 100 3 = U.2.2.1 100 3) (i5 : V.2.1 100 5 = U.2.1 100 5) (i7 : V.2.1 100 7 = U.2.1 100 7) (i17 : V.2.1 100 17 = U.2.1 100 17) (i4 : V.2.1 100 4 = U.2.1 100 4) (a8 : V.2.2.1 100 8 = U.2.2.1 100 8) (n12 : (V.2.2.1 100 12).1 = (U.2.2.1 100 12).1) (n13 : (V.2.2.1 100 13).1 = (U.2.2.1 100 13).1) (n15 : (V.2.2.1 100 15).1 = (U.2.2.1 100 15).1) (a98 : V.2.2.1 99 8 = U.2.2.1 99 8) : LDD V Y P f od a0 N0 i0 := by
  obtain ⟨S0, K, dp, W, mk, M, rk, h1, h2, h3, h4⟩ := h
  refine ⟨S0, K, dp, W, mk, M, rk, LR_keep h1 h21 a3, LZx_keep h2 i5 i7 i17 i4 (by rw [a8]) n12 n13 n15, by rw [h15]; exact h3, ?_⟩
  unfold sdx at h4 ⊢
  rw [h22, a8, a98]
  exact h4
theorem mc_load (h : um m H) (e : ud m H = U) (hK : KNV m U Y P f od es) (hM : MCS U) (hL : MLD U Y P f od) (hi0 : i0 < (Y 11).1) (hr0 : rg Y (im Y i0) kd a0 (a0 + N0)) (hC1 : 2 * (((Y 13).1 + 2) * 4) + 4 ≤ C 21) (hC2 : C 21 ≤ 8388608) : mu_TV (mu_D (d + 5)) 203 [.inr (.inr (some 100)), .inl (nI a0), .inl (nI (a0 + N0)), .inl (nI i0)] H (fun H1 => um m H1 ∧ ur m C H H1 ∧ uq F203 U (ud m H1) ∧ KNV m (ud m H1) Y P f od es ∧ MCS (ud m H1) ∧ LDD (ud m H1) Y P f od a0 N0 i0) := by
  obtain ⟨hS, hf, hj, hD, hT, hW, hpl⟩ := hK
  have hK : KNV m U Y P f od es := ⟨hS, hf, hj, hD, hT, hW, hpl⟩
  obtain ⟨m1, m2, m3, m4, m5, m6⟩ := hM
  have b0 := hD.1.2.2.2.2.2.2 0 (by decide)
  have b11 := hD.1.2.2.2.2.2.2 11 (by decide)
  have fin : ∀ H1, (um m H1 ∧ ur m C H H1 ∧ uq F203 U (ud m H1) ∧ ∃ S0 K dp W mk M rk, LR (ud m H1) Y a0 N0 i0 od S0 K M rk ∧ LZx (ud m H1) S0 K (sfz Y a0 N0) dp W mk ∧ LC (U.1 15) Y P (nxp Y a0 N0) a0 N0 i0 (sfz Y a0 N0) dp mk M ∧ sdz ((ud m H1).1 22) P S0 mk ∧ ∃ wd, (ud m H1).2.1 100 6 = nI wd ∧ wd ≤ (Y 0).1) → (um m H1 ∧ ur m C H H1 ∧ uq F203 U (ud m H1) ∧ KNV m (ud m H1) Y P f od es ∧ MCS (ud m H1) ∧ LDD (ud m H1) Y P f od a0 N0 i0) := by
    rintro H1 ⟨u, r, q, S0, K, dp, W, mk, M, rk, l1, l2, l3, l4, -⟩
    refine ⟨u, r, q, hK.q q rfl, ⟨l4.1, l1.1.2, l2.2.2.1.2, l2.2.2.2.1.2, l2.2.2.2.2.1.2, l2.2.2.2.2.2.1.2⟩, S0, K, dp, W, mk, M, rk, l1, l2, ?_, sdz_x l4⟩
    rw [q.t 15 rfl]
    exact l3
  rcases hL with h0 | ⟨a1, N1, i1, hb1, hi1, hl⟩
  · exact (mc_loadE (C := C) h e hS hj hD.1 hi0 hr0 hpl (fun x hx ho => (⟨x, hx, ho⟩ : nxp Y a0 N0)) (hD.nxe _) hT.1 hD.2.2.2.1.1 hD.2.2.2.1.2.1 m1 m2 m3 m4 m5 m6 hC1 hC2 h0).imp fin
  · obtain ⟨S0, K, dp, W, mk, M, rk, l1, l2, l3, l4⟩ := hl
    have hKb : K ≤ 8388608 := by
      have := l2.2.2.2.2.2.2.1
      omega
    refine (mc_loadN (C := C) (n1 := K) h e hS hj hD.1 hi0 hr0 hpl (fun x hx ho => (⟨x, hx, ho⟩ : nxp Y a0 N0)) (hD.nxe _) hT.1 hD.2.2.2.1.1 hD.2.2.2.1.2.1 m1 m2 m3 m4 m5 m6 hC1 hC2 l1.2.1.1 hKb).imp (fun H1 q => ?_)
    rcases q with ⟨rfl, q0, q1, q2⟩ | q
    · have e0 := nI_inj (a := a0) (b := a1) (by have := hr0.2.1; omega) (by omega) (q0.symm.trans l1.2.1.2.1)
      have e1 := nI_inj (a := a0 + N0) (b := a1 + N1) (by have := hr0.2.1; omega) (by omega) (q1.symm.trans l1.2.1.2.2.1)
      have e2 := nI_inj (a := i0) (b := i1) (by omega) (by omega) (q2.symm.trans l1.2.1.2.2.2.1)
      subst e0
      have e3 : N0 = N1 := by omega
      subst e3
      subst e2
      rw [e]
      exact ⟨h, ur.refl m C H1, uq.refl _ _, hK, ⟨m1, m2, m3, m4, m5, m6⟩, S0, K, dp, W, mk, M, rk, l1, l2, l3, l4⟩
    · exact fin H1 q
theorem tru_eq {i0 a0 N0 : Nat} (h15 : V.1 15 = U.1 15) (h8 : V.2.2.1 99 8 = U.2.2.1 99 8) : tru Y V f P od i0 a0 N0 s = tru Y U f P od i0 a0 N0 s := by
  have : vst V f P s = vst U f P s := by
    funext w
    unfold vst
    rw [h15, h8]
  unfold tru
  rw [this]
/-- what a CHOICE gives in a STATE -/
def cho (Y : Ts) (U : Ud) (f : Nat → Nat) (P : Nat) (od : Nat → Nat) (i0 a0 N0 v0 s : Nat) : Prop := chq Y (lvl Y (vst U f P s) (vst U f P s) (evz Y od (vst U f P s)) i0) a0 N0 (vst U f P s v0)
theorem cho_eq {i0 a0 N0 : Nat} (h15 : V.1 15 = U.1 15) (h8 : V.2.2.1 99 8 = U.2.2.1 99 8) : cho Y V f P od i0 a0 N0 v0 s ↔ cho Y U f P od i0 a0 N0 v0 s := by
  have : vst V f P s = vst U f P s := by
    funext w
    unfold vst
    rw [h15, h8]
  unfold cho
  rw [this]
theorem ev_keep {S0 K dp W : Nat} {mk : Int32} {M : Nat → Prop} {rk wt : Nat → Nat} (hK : KNV m U Y P f od es) (hM : MCS U) (l1 : LR U Y a0 N0 i0 od S0 K M rk) (l2 : LZx U S0 K (sfz Y a0 N0) dp W mk) (l3 : LC (U.1 15) Y P (nxp Y a0 N0) a0 N0 i0 (sfz Y a0 N0) dp mk M) (q : uq F257 U V) (hs : sds V W P S0 f mk (bcn mk) wt) : KNV m V Y P f od es ∧ MCS V ∧ LDD V Y P f od a0 N0 i0 := by
  refine ⟨hK.q q rfl, ⟨hs.1, by rw [q.n 100 3 rfl]; exact hM.2.1, by rw [q.n 100 8 rfl]; exact hM.2.2.1, by rw [q.n 100 12 rfl]; exact hM.2.2.2.1, by rw [q.n 100 13 rfl]; exact hM.2.2.2.2.1, by rw [q.n 100 15 rfl]; exact hM.2.2.2.2.2⟩, S0, K, dp, W, mk, M, rk, LR_keep l1 (q.t 21 rfl) (q.a 100 3 rfl), LZx_keep l2 (q.i 100 5 rfl) (q.i 100 7 rfl) (q.i 100 17 rfl) (q.i 100 4 rfl) (q.n 100 8 rfl) (q.n 100 12 rfl) (q.n 100 13 rfl) (q.n 100 15 rfl), ?_, sds_x hs hK.2.1⟩
  rw [q.t 15 rfl]
  exact l3
theorem sp_taskE (h : um m H) (e : ud m H = U) (hK : KNV m U Y P f od es) (hM : MCS U) (hl : LDD U Y P f od a0 N0 i0) (hi0 : i0 < (Y 11).1) (hr0 : rg Y (im Y i0) kd a0 (a0 + N0)) (hs0 : SRT Y es i0 al a0 rs N0) (hal : al = 0) : mu_TV (mu_D (d + 7)) 257 [.inr (.inr (some 99)), .inl (-1), .inr (.inr (some 126))] H (fun H1 => um m H1 ∧ ur m C H H1 ∧ uq F257 U (ud m H1) ∧ KNV m (ud m H1) Y P f od es ∧ MCS (ud m H1) ∧ LDD (ud m H1) Y P f od a0 N0 i0 ∧ (∀ s, s < pd f 0 P → (bts ((ud m H1).2.2.2.2.1 126) s = true ↔ ¬ tru Y U f P od i0 a0 N0 s = 0)) ∧ ∀ s, pd f 0 P ≤ s → s / 64 < (pd f 0 P + 63) / 64 → bts ((ud m H1).2.2.2.2.1 126) s = false) := by
  obtain ⟨S0, K, dp, W, mk, M, rk, l1, l2, l3, l4⟩ := hl
  have hnx : ¬ nxp Y a0 N0 := SRT_nx hs0 (by rw [hal]; decide)
  have hP := hK.P14
  refine (sp_evalE (C := C) h e hK.1 hK.2.1 hK.2.2.1 hK.2.2.2.1.1 hK.2.2.2.2.1 hK.2.2.2.1.2.1 hK.2.2.2.1.2.2.1 l1 l2 l3 hnx hi0 hr0 hs0 (by rw [hal]; decide) (fun c => ⟨VLS_vlz hK.2.2.2.2.2.1 hP hK.2.1, VLS_vlz hK.2.2.2.2.2.1 hP hK.2.1⟩) l4).imp (fun H1 q => ?_)
  obtain ⟨q1, q2, q3, q4, q5, q6⟩ := q
  obtain ⟨k1, k2, k3⟩ := ev_keep hK hM l1 l2 l3 q3 q6
  refine ⟨q1, q2, q3, k1, k2, k3, fun s hs => ?_, fun s hs hw => ?_⟩
  · unfold bts
    rw [q4 s hs, decide_eq_true_iff, trz_state hK.2.2.2.1.1 hK.2.2.2.2.1 hK.2.2.2.1.2.1 hP l3 hnx hi0 hr0 (fun k _ => hK.2.1 k) hK.2.2.2.2.2.2 hs]
  · unfold bts
    exact q5 (s / 64) (s % 64) hw (Nat.mod_lt _ (by decide)) (by omega)
theorem sp_taskC (h : um m H) (e : ud m H = U) (hK : KNV m U Y P f od es) (hM : MCS U) (hl : LDD U Y P f od a0 N0 i0) (hi0 : i0 < (Y 11).1) (hr0 : rg Y (im Y i0) true a0 (a0 + N0)) (hs0 : SRT Y es i0 al a0 rs N0) (hal : al = 0) (hv0 : v0 < (Y 15).1) : mu_TV (mu_D (d + 7)) 257 [.inr (.inr (some 99)), .inl (nI v0), .inr (.inr (some 126))] H (fun H1 => um m H1 ∧ ur m C H H1 ∧ uq F257 U (ud m H1) ∧ KNV m (ud m H1) Y P f od es ∧ MCS (ud m H1) ∧ LDD (ud m H1) Y P f od a0 N0 i0 ∧ (∀ s, s < pd f 0 P → (bts ((ud m H1).2.2.2.2.1 126) s = true ↔ cho Y U f P od i0 a0 N0 v0 s)) ∧ ∀ s, pd f 0 P ≤ s → s / 64 < (pd f 0 P + 63) / 64 → bts ((ud m H1).2.2.2.2.1 126) s = false) := by
  obtain ⟨S0, K, dp, W, mk, M, rk, l1, l2, l3, l4⟩ := hl
  have hnx : ¬ nxp Y a0 N0 := SRT_nx hs0 (by rw [hal]; decide)
  have hP := hK.P14
  have hVT : ∀ mv c, VLS Y (vlz U f mv 0 c) ∧ VLS Y (vlz U f mv 14 c) := fun mv c => ⟨VLS_vlz hK.2.2.2.2.2.1 hP hK.2.1, VLS_vlz hK.2.2.2.2.2.1 hP hK.2.1⟩
  have hbk : ∀ k, k < 28 → ¬ mb mk k = 0 → k < P := fun k hk hm => by
    obtain ⟨y1, y2, y3⟩ := l3.2.2 k (by omega) hm
    by_cases z : 14 ≤ k
    · exact absurd (y3 z) hnx
    · rw [Nat.mod_eq_of_lt (by omega)] at y2
      exact y2
  rcases hK.2.2.2.2.2.2 v0 hv0 with hpc | ⟨pl, hpl, hpc⟩
  · refine (sp_evalC0 (C := C) h e hK.1 hK.2.1 hK.2.2.1 hK.2.2.2.1.1 hK.2.2.2.2.1 hK.2.2.2.1.2.1 hK.2.2.2.1.2.2.1 l1 l2 l3 hnx hi0 hr0 hs0 (by rw [hal]; decide) (hVT mk) l4 hv0 hpc).imp (fun H1 q => ?_)
    obtain ⟨q1, q2, q3, q4, q5, q6⟩ := q
    obtain ⟨k1, k2, k3⟩ := ev_keep hK hM l1 l2 l3 q3 q6
    refine ⟨q1, q2, q3, k1, k2, k3, fun s hs => ?_, fun s hs hw => ?_⟩
    · unfold bts
      rw [q4 s hs]
      exact chq_state hK.2.2.2.1.1 hK.2.2.2.2.1 hK.2.2.2.1.2.1 hP l3 hnx hi0 hr0 (fun k _ => hK.2.1 k) hK.2.2.2.2.2.2 hbk (fun _ _ z => z) hv0 (fun pl z hp => absurd (hpc.symm.trans z) (fun y => nI_neg1 (by omega) y.symm)) hs
    · unfold bts
      exact q5 (s / 64) (s % 64) hw (Nat.mod_lt _ (by decide)) (by omega)
  · refine (sp_evalC1 (C := C) h e hK.1 hK.2.1 hK.2.2.1 hK.2.2.2.1.1 hK.2.2.2.2.1 hK.2.2.2.1.2.1 hK.2.2.2.1.2.2.1 l1 l2 l3 hnx hi0 hr0 hs0 (by rw [hal]; decide) (hVT _) l4 hv0 hpl rfl hpc).imp (fun H1 q => ?_)
    obtain ⟨q1, q2, q3, q4, q5, q6⟩ := q
    obtain ⟨k1, k2, k3⟩ := ev_keep hK hM l1 l2 l3 q3 q6
    have hor : ∀ k, k < 28 → (¬ mb (mk ||| ((1 : Int32) <<< (nI pl &&& 31))) k = 0 ↔ ¬ mb mk k = 0 ∨ k = pl) := fun k hk => mb_or mk pl k (by omega) (by omega)
    refine ⟨q1, q2, q3, k1, k2, k3, fun s hs => ?_, fun s hs hw => ?_⟩
    · unfold bts
      rw [q4 s hs]
      refine chq_state hK.2.2.2.1.1 hK.2.2.2.2.1 hK.2.2.2.1.2.1 hP l3 hnx hi0 hr0 (fun k _ => hK.2.1 k) hK.2.2.2.2.2.2 (fun k hk z => ?_) (fun k hk z => (hor k hk).mpr (Or.inl z)) hv0 (fun pl' z hp => (hor pl' (by omega)).mpr (Or.inr ?_)) hs
      · rcases (hor k hk).mp z with y | y
        · exact hbk k hk y
        · omega
      · exact (nI_inj (by omega) (by omega) (hpc.symm.trans z)).symm
    · unfold bts
      exact q5 (s / 64) (s % 64) hw (Nat.mod_lt _ (by decide)) (by omega)
end Ready
