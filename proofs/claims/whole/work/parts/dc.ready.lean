/-! THE UPPER LAYER AT WORK: the MODEL, the Machine, what is loaded -/
/-- rows of claims with their SORTS -/
def FRT (Y : Ts) (es : Nat → Int32) (j : Nat) (al : Int32) : Prop := ∀ r, r < (Y j).1 → ∃ a N i rs, (Y j).2 r 0 = nI a ∧ (Y j).2 r 1 = nI (a + N) ∧ (Y j).2 r 2 = nI i ∧ i < (Y 11).1 ∧ rg Y (im Y i) false a (a + N) ∧ SRT Y es i al a rs N ∧ (stk Y rs a N 0 = 1 ∨ stk Y rs a N 0 = 9)
/-- what holds of the MODEL that stands -/
def MDL (Y : Ts) (es : Nat → Int32) : Prop := JW Y ∧ TYP Y es ∧ NUM Y ∧ ((Y 13).1 ≤ 4001 ∧ (Y 0).1 ≤ 14000 ∧ (Y 15).1 ≤ 4001 ∧ (Y 16).1 ≤ 4001 ∧ (Y 17).1 ≤ 4001) ∧ (FRT Y es 16 0 ∧ FRT Y es 17 2) ∧ (∀ q, q < (Y 1).1 → ∀ n, sp Y q 4 ≤ n → n < sp Y (q + 1) 4 → LV Y q n) ∧ sm (ncl Y) 0 (Y 11).1 ≤ 4001
/-- the Space laid out for it -/
def KNV (m : Nat) (U : Ud) (Y : Ts) (P : Nat) (f od : Nat → Nat) (es : Nat → Int32) : Prop :=
  spx m U P f ∧ (∀ k, 1 ≤ f k) ∧ jv Y U.1 ∧ MDL Y es ∧ TOP Y (U.1 14) od ∧ WTY U Y f P ∧ (∀ w, w < (Y 15).1 → (U.1 15).2 w 2 = -1 ∨ ∃ pl, pl < P ∧ (U.1 15).2 w 2 = nI pl)
def MCS (U : Ud) : Prop := (U.1 22).1 = 28 ∧ (U.2.2.1 100 3).1 ≤ 131072 ∧ clz (U.2.2.1 100 8).1 ∧ (U.2.2.1 100 12).1 ≤ 131072 ∧ (U.2.2.1 100 13).1 ≤ 131072 ∧ (U.2.2.1 100 15).1 ≤ 131072
def nxp (Y : Ts) (a N : Nat) : Prop := ∃ x, x < N ∧ oc Y (a + x) = 3
/-- an E is loaded -/
def LDD (U : Ud) (Y : Ts) (P : Nat) (f od : Nat → Nat) (a0 N0 i0 : Nat) : Prop := ∃ S0 K dp W mk M rk, LR U Y a0 N0 i0 od S0 K M rk ∧ LZx U S0 K (sfz Y a0 N0) dp W mk ∧ LC (U.1 15) Y P (nxp Y a0 N0) a0 N0 i0 (sfz Y a0 N0) dp mk M ∧ sdx U W P S0 f mk (bcn mk)
def MLD (U : Ud) (Y : Ts) (P : Nat) (f od : Nat → Nat) : Prop := (U.1 21).1 = 0 ∨ ∃ a0 N0 i0, a0 + N0 ≤ (Y 0).1 ∧ i0 < (Y 11).1 ∧ LDD U Y P f od a0 N0 i0
section Ready
variable {H : mu_H} {U V : Ud} {m d P a0 N0 i0 s v0 : Nat} {C : Nat → Nat} {Y : Ts} {f od : Nat → Nat} {es rs : Nat → Int32} {al : Int32} {kd : Bool} {F : Uf}
theorem SRT_nx (h : SRT Y es i0 al a0 rs N0) (hal : ¬ al = 1) : ¬ nxp Y a0 N0 := by
  rintro ⟨x, hx, ho⟩
  obtain ⟨_, h2, _⟩ := h x hx
  rcases h2 (by rw [ho]; rfl) with z | z | z
  · exact absurd (z.1.symm.trans ho) (by decide)
  · exact absurd (z.1.symm.trans ho) (by decide)
  · exact hal (z.2.1 ho).2
theorem MDL.nxe (h : MDL Y es) (NX : Prop) : ∀ e, e < (Y 13).1 → ∀ x, x < elx Y e → oc Y (enx Y e 0 + x) = 3 → NX := fun e he x hx ho => by
  obtain ⟨rs, h1, _⟩ := h.2.1.1 e he
  exact absurd ⟨x, hx, ho⟩ (SRT_nx h1 (by decide))
theorem KNV.to (h : KNV m U Y P f od es) (ht : ∀ j, j < 18 → ¬ j = 16 → V.1 j = U.1 j) (h16 : (V.1 16).1 = (U.1 16).1 ∧ ∀ i c, c < 3 → (V.1 16).2 i c = (U.1 16).2 i c) (i4 : V.2.1 99 4 = U.2.1 99 4) (i10 : V.2.1 99 10 = U.2.1 99 10) (i11 : V.2.1 99 11 = U.2.1 99 11) (i12 : V.2.1 99 12 = U.2.1 99 12) (a5 : V.2.2.1 99 5 = U.2.2.1 99 5) (a6 : V.2.2.1 99 6 = U.2.2.1 99 6) (a7 : V.2.2.1 99 7 = U.2.2.1 99 7) (a8 : V.2.2.1 99 8 = U.2.2.1 99 8) (n18 : (V.2.2.1 99 18).1 = (U.2.2.1 99 18).1) (r1 : V.2.2.2.1 100 0 = U.2.2.2.1 100 0) (r2 : V.2.2.2.1 99 0 = U.2.2.2.1 99 0) : KNV m V Y P f od es := by
  obtain ⟨⟨s1, s2, s3, s4, s5, s6⟩, hf, hj, hM, hT, hW, hp⟩ := h
  have t15 := ht 15 (by decide) (by decide)
  refine ⟨⟨by rw [i4, i10, i11, i12]; exact s1, fun k hk => by rw [a5, a6, a7]; exact s2 k hk, by rw [a8, n18]; exact s3, s4, r1.trans s5, r2.trans s6⟩, hf, ?_, hM, by rw [ht 14 (by decide) (by decide)]; exact hT, ?_, by rw [t15]; exact hp⟩
  · obtain ⟨j1, j2, j3, j4, j5⟩ := hj
    refine ⟨fun j hj' => (ht j (by omega) (by omega)).trans (j1 j hj'), by rw [ht 13 (by decide) (by decide)]; exact j2, by rw [t15]; exact j3, ⟨h16.1.trans j4.1, fun i c hc => (h16.2 i c hc).trans (j4.2 i c hc)⟩, by rw [ht 17 (by decide) (by decide)]; exact j5⟩
  · unfold WTY at hW ⊢
    rw [t15, a8]
    exact hW
/-- a frame that leaves the MODEL and the Space -/
def kok (F : Uf) : Bool := (List.range 18).all (fun j => !in1 F.t j) && (!in2 F.i 99 4 && (!in2 F.i 99 10 && (!in2 F.i 99 11 && (!in2 F.i 99 12 && (!in2 F.a 99 5 && (!in2 F.a 99 6 && (!in2 F.a 99 7 && (!in2 F.a 99 8 && (!in2 F.n 99 18 && (!in2 F.n 100 0 && !in2 F.n 99 0))))))))))
theorem kok_b {a b : Bool} (h : (!a && b) = true) : a = false ∧ b = true := by
  cases a
  · exact ⟨rfl, h⟩
  · cases h
theorem KNV.q (h : KNV m U Y P f od es) (hq : uq F U V) (hF : kok F = true) : KNV m V Y P f od es := by
  unfold kok at hF
  obtain ⟨b0, hF⟩ := Bool.and_eq_true_iff.mp hF
  obtain ⟨b1, hF⟩ := kok_b hF
  obtain ⟨b2, hF⟩ := kok_b hF
  obtain ⟨b3, hF⟩ := kok_b hF
  obtain ⟨b4, hF⟩ := kok_b hF
  obtain ⟨b5, hF⟩ := kok_b hF
  obtain ⟨b6, hF⟩ := kok_b hF
  obtain ⟨b7, hF⟩ := kok_b hF
  obtain ⟨b8, hF⟩ := kok_b hF
  obtain ⟨b9, hF⟩ := kok_b hF
  obtain ⟨b10, hF⟩ := kok_b hF
  have b11 : in2 F.n 99 0 = false := by
    cases e : in2 F.n 99 0
    · rfl
    · rw [e] at hF
      cases hF
  have ht : ∀ j, j < 18 → V.1 j = U.1 j := fun j hj => hq.t j (by
    have := List.all_eq_true.mp b0 j (List.mem_range.mpr hj)
    cases e : in1 F.t j
    · rfl
    · rw [e] at this
      cases this)
  exact h.to (fun j hj _ => ht j hj) (by rw [ht 16 (by decide)]; exact ⟨rfl, fun _ _ _ => rfl⟩) (hq.i 99 4 b1) (hq.i 99 10 b2) (hq.i 99 11 b3) (hq.i 99 12 b4) (hq.a 99 5 b5) (hq.a 99 6 b6) (hq.a 99 7 b7) (hq.a 99 8 b8) (hq.n 99 18 b9) (hq.r 100 0 b10) (hq.r 99 0 b11)
theorem KNV.P14 (h : KNV m U Y P f od es) : P ≤ 14 := h.1.2.2.2.1.1
theorem LDD.keep (h : LDD U Y P f od a0 N0 i0) (h21 : V.1 21 = U.1 21) (h22 : V.1 22 = U.1 22) (h15 : V.1 15 = U.1 15) (a3 : V.2.2.1 100 3 = U.2.2.1 100 3) (i5 : V.2.1 100 5 = U.2.1 100 5) (i7 : V.2.1 100 7 = U.2.1 100 7) (i17 : V.2.1 100 17 = U.2.1 100 17) (i4 : V.2.1 100 4 = U.2.1 100 4) (a8 : V.2.2.1 100 8 = U.2.2.1 100 8) (n12 : (V.2.2.1 100 12).1 = (U.2.2.1 100 12).1) (n13 : (V.2.2.1 100 13).1 = (U.2.2.1 100 13).1) (n15 : (V.2.2.1 100 15).1 = (U.2.2.1 100 15).1) (a98 : V.2.2.1 99 8 = U.2.2.1 99 8) : LDD V Y P f od a0 N0 i0 := by
  obtain ⟨S0, K, dp, W, mk, M, rk, h1, h2, h3, h4⟩ := h
  refine ⟨S0, K, dp, W, mk, M, rk, LR_keep h1 h21 a3, LZx_keep h2 i5 i7 i17 i4 (by rw [a8]) n12 n13 n15, by rw [h15]; exact h3, ?_⟩
  unfold sdx at h4 ⊢
  rw [h22, a8, a98]
  exact h4
theorem tru_eq {i0 a0 N0 : Nat} (h15 : V.1 15 = U.1 15) (h8 : V.2.2.1 99 8 = U.2.2.1 99 8) : tru Y V f P od i0 a0 N0 s = tru Y U f P od i0 a0 N0 s := by
  have : vst V f P s = vst U f P s := by
    funext w
    unfold vst
    rw [h15, h8]
  unfold tru
  rw [this]
/-- what a CHOICE gives in a STATE -/
def cho (Y : Ts) (U : Ud) (f : Nat → Nat) (P : Nat) (od : Nat → Nat) (i0 a0 N0 v0 s : Nat) : Prop := chq Y (lvl Y (vst U f P s) (vst U f P s) (evz Y od (vst U f P s)) i0) a0 N0 (vst U f P s v0)
theorem cho_eq {i0 a0 N0 : Nat} (h15 : V.1 15 = U.1 15) (h8 : V.2.2.1 99 8 = U.2.2.1 99 8) : cho Y V f P od i0 a0 N0 v0 s ↔ cho Y U f P od i0 a0 N0 v0 s := by
  have : vst V f P s = vst U f P s := by
    funext w
    unfold vst
    rw [h15, h8]
  unfold cho
  rw [this]
end Ready
