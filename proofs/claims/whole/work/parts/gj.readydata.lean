/-! READY: what stands between its steps -/
section ReadyData
variable {O0 : Nat → (Nat → Bool) × Bool} {U0 U V W1 : Ud} {m P N0 sf nb N us nf nw bf bt : Nat} {Y : Ts} {f od bs lv wa wn wi z : Nat → Nat} {wk : Nat → Bool} {es : Nat → Int32} {nm tm : Nat → Int32} {bo oid : Nat → Nat → Nat} {S : Nat → Nat → Bool} {p : Nat → Bool} {A : Nat → Prop} {GF : Nat → Nat → Prop} {F : Uf}
theorem mcs_eq (h : MCS U) (h22 : V.1 22 = U.1 22) (n3 : (V.2.2.1 100 3).1 = (U.2.2.1 100 3).1) (n8 : (V.2.2.1 100 8).1 = (U.2.2.1 100 8).1) (n12 : (V.2.2.1 100 12).1 = (U.2.2.1 100 12).1) (n13 : (V.2.2.1 100 13).1 = (U.2.2.1 100 13).1) (n15 : (V.2.2.1 100 15).1 = (U.2.2.1 100 15).1) : MCS V := by
  unfold MCS at h ⊢
  rw [h22, n3, n8, n12, n13, n15]
  exact h
theorem mlw_eq (h : MLW U Y P f od) (h21 : V.1 21 = U.1 21) (h22 : V.1 22 = U.1 22) (h15 : V.1 15 = U.1 15) (a3 : V.2.2.1 100 3 = U.2.2.1 100 3) (i5 : V.2.1 100 5 = U.2.1 100 5) (i7 : V.2.1 100 7 = U.2.1 100 7) (i17 : V.2.1 100 17 = U.2.1 100 17) (i4 : V.2.1 100 4 = U.2.1 100 4) (a8 : V.2.2.1 100 8 = U.2.2.1 100 8) (n12 : (V.2.2.1 100 12).1 = (U.2.2.1 100 12).1) (n13 : (V.2.2.1 100 13).1 = (U.2.2.1 100 13).1) (n15 : (V.2.2.1 100 15).1 = (U.2.2.1 100 15).1) (a98 : V.2.2.1 99 8 = U.2.2.1 99 8) : MLW V Y P f od := by
  rcases h with y | ⟨a0, n0, i0, y1, y2, y3⟩
  · exact Or.inl (by rw [h21]; exact y)
  · exact Or.inr ⟨a0, n0, i0, y1, y2, y3.keep h21 h22 h15 a3 i5 i7 i17 i4 a8 n12 n13 n15 a98⟩
theorem bz_eq (h : BZ U bf bt) (e19 : V.2.1 129 19 = U.2.1 129 19) (e20 : V.2.1 129 20 = U.2.1 129 20) (l6 : V.2.2.2.2.1 146 = U.2.2.2.2.1 146) : BZ V bf bt := by
  unfold BZ at h ⊢
  rw [e19, e20, l6]
  exact h
/-- behind begin: no row yet, all STATES are alive -/
theorem rd_begin (hKW : KNWw m U0 U Y P f od es) (hWM : WDM U Y P) (hz : BZ U bf bt) (hVD : VDF U P f) (hOL : OLN (U.2.2.1 129 4).1) (hq : uq F288 U V) (h24 : (V.1 24).1 = 0 ∧ (V.1 25).1 = 0 ∧ (V.1 27).1 = 1 ∧ ∀ c, c < 5 → (V.1 27).2 0 c = 0) (h5 : V.2.1 129 5 = 0) (hSO : SOK V N us S z p) (h7 : V.2.1 113 7 = nI us) (h10 : 1 * (pd f 0 P + 4) ≤ (V.2.2.1 129 10).1 ∧ lwh 1 (V.2.2.1 129 10).1) (h145 : ∀ w, w < (pd f 0 P + 63) / 64 → V.2.2.2.2.1 145 w = U.2.2.2.2.1 124 w) : RSK m V Y P f od es ∧ RLG V Y es P f od N (fun j => (S j, p j)) us 1 (fun _ _ => 0) none 0 0 0 0 (fun _ s _ => EVR Y U0 f P od s) := by
  obtain ⟨hK, hM, hL, ⟨hE, -⟩, -⟩ := hKW
  have hB0 : BOK 1 (fun _ _ => 0) 0 0 := ⟨by decide, fun b h1 h2 => by omega⟩
  have hB1 : BOK 1 (fun _ _ => 0) 1 0 := ⟨by decide, fun b h1 h2 => by omega⟩
  have hO4 : OLN (V.2.2.1 129 4).1 := by rw [hq.n 129 4 rfl]; exact hOL
  refine ⟨⟨hK.q hq rfl, mcs_eq hM (hq.t 22 rfl) (hq.n 100 3 rfl) (hq.n 100 8 rfl) (hq.n 100 12 rfl) (hq.n 100 13 rfl) (hq.n 100 15 rfl), mlw_eq hL (hq.t 21 rfl) (hq.t 22 rfl) (hq.t 15 rfl) (hq.a 100 3 rfl) (hq.i 100 5 rfl) (hq.i 100 7 rfl) (hq.i 100 17 rfl) (hq.i 100 4 rfl) (hq.a 100 8 rfl) (hq.n 100 12 rfl) (hq.n 100 13 rfl) (hq.n 100 15 rfl) (hq.a 99 8 rfl), hWM.same (hq.t 21 rfl) (hq.i 100 6 rfl) (hq.t 15 rfl) (hq.i 100 4 rfl), ⟨bf, bt, bz_eq hz (hq.i 129 19 rfl) (hq.i 129 20 rfl) (hq.l 146 rfl)⟩, vdf_same hVD (hq.i 99 9 rfl) (hq.a 99 8 rfl), ?_⟩, ?_⟩
  · obtain ⟨g1, g2⟩ := h10
    unfold lwh at g2
    exact ⟨by omega, by omega⟩
  · refine ⟨EVR Y U0 f P od, N, us, S, z, p, 0, fun _ => 0, fun _ => 0, fun _ => 0, fun _ => 0, fun _ _ => 0, 0, fun _ => 0, fun _ => 0, fun _ => 0, fun _ => false, 0, ⟨⟨⟨⟨h24.1, by decide, ?_⟩, fun r hr => absurd hr (Nat.not_lt_zero r)⟩, hSO, ⟨h24.2.1, by decide⟩, fun r hr => absurd hr (Nat.not_lt_zero r)⟩, ⟨⟨h24.2.2.1, ⟨by decide, by decide⟩, fun b c hb hc => ?_⟩, hB0, hB1, rfl⟩, ⟨fun r hr => absurd hr (Nat.not_lt_zero r), fun r r' _ hr => absurd hr (Nat.not_lt_zero r')⟩, fun r r' _ hr => absurd hr (Nat.not_lt_zero r), ⟨h5, Nat.zero_le _, hO4, by decide⟩, ⟨h7, Nat.le_refl _, by omega, Nat.le_refl _, Nat.le_refl _, fun _ _ => rfl⟩, fun r hr => by cases hr⟩, Nat.le_refl _, hE.to h145, fun b s t hb hs ht => ?_⟩
    · unfold OLN at hO4
      omega
    · have hb0 : b = 0 := by omega
      rw [hb0]
      exact ⟨h24.2.2.2 c (by omega), Nat.zero_le _⟩
    · exact ⟨fun y => y.1, fun y => ⟨y, fun r hr => absurd (fin_lt2 hb hB0 hr) (Nat.not_lt_zero r), fun r hr => absurd (fin_lt2 hb hB1 hr) (Nat.not_lt_zero r)⟩⟩
theorem lcz_top {t : Int32} {l : Nat} (hT : TMK t l P) (hP : P ≤ 14) {tm : Nat → Int32} {lv : Nat → Nat} {r : Nat} (e1 : tm r = t) (e2 : lv r = l) (hl : lcz tm lv P r < P) {j : Nat} (h1 : lcz tm lv P r < j) (h2 : j < P) : mb (tm r) j = 0 := by
  unfold lcz at hl h1
  by_cases c : tm r = 0 ∨ ¬ one1 (tm r) = 0
  · rw [if_pos c] at hl
    omega
  · rw [if_neg c] at h1
    obtain ⟨n, y1, y2, y3, y4⟩ := hT
    rcases y4 with y | ⟨-, -, y⟩
    · exact absurd (Or.inl (by rw [e1, y1, y]; rfl)) c
    · rw [e1]
      exact y j (by omega) (by omega)
/-- behind openRows: the rows of STATES are still to be found -/
theorem rd_rows (hK : RSK m U Y P f od es) (hR : RLP U Y es P f od N0 O0 sf GF A nb bo N us S z p nf nm tm bs lv oid nw wa wn wi wk) (hq : uq F293 U V) (hKN : KNV m V Y P f od es) (hMC : MCS V) (hML : MLW V Y P f od) (hWM : WDM V Y P)
    (hCJ : CLJ V (pd f 0 P) (fun s s' => (∀ r, r < nf → (U.2.2.1 129 4).2 (bs r + pj (nm r) f P P s) = (U.2.2.1 129 4).2 (bs r + pj (nm r) f P P s')) ∧ (∀ r, r < nw → (U.1 25).2 r 4 = 0 → ∀ v, CHSw Y U f P od (wk r) (wa r) (wn r) (wi r) s v ↔ CHSw Y U f P od (wk r) (wa r) (wn r) (wi r) s' v) ∧ ∀ r, r < nw → (U.1 25).2 r 4 = 1 → ¬ wn r = 0 → (∀ t, trs Y U f P od (wi r) (wa r) (wn r) s t = trs Y U f P od (wi r) (wa r) (wn r) s' t)))
    (hq2 : uq F294 V W1) (hO : ∃ X W id0, SOK X N us S z p ∧ ADD X W N us S z p (fun _ => 0) 0 id0 ∧ N ≤ id0 ∧ (∃ N1, W.2.1 113 2 = nI N1 ∧ (N ≤ N1 ∧ N1 ≤ N + 1) ∧ FRK W N1 N) ∧ W1.2.1 113 1 = W.2.1 113 1 ∧ W1.2.1 113 2 = W.2.1 113 2 ∧ W1.2.1 113 5 = W.2.1 113 5 ∧ W1.2.2.1 113 3 = W.2.2.1 113 3 ∧ W1.2.2.1 113 4 = W.2.2.1 113 4 ∧ W1.2.2.2.2.2 = W.2.2.2.2.2)
    (hO8 : W1.2.1 113 8 = nI N) (hO24 : (W1.1 24).1 = nf ∧ ∀ r c, ¬ c = 5 → (W1.1 24).2 r c = (V.1 24).2 r c) (hCH : CHN W1 P nf (lcz tm lv P)) (h8 : ∀ j, j ≤ pd f 0 P → (W1.2.2.1 129 8).2 j = -1)
    (hsf : sf ≤ 1200000) (a6 : pd f 0 P ≤ (U.2.2.1 129 6).1 ∧ (U.2.2.1 129 6).1 ≤ 16777216) (a7 : pd f 0 P ≤ (U.2.2.1 129 7).1 ∧ (U.2.2.1 129 7).1 ≤ 16777216) (a8 : pd f 0 P + 1 ≤ (U.2.2.1 129 8).1 ∧ (U.2.2.1 129 8).1 ≤ 16777216) (a12 : sm f 0 P ≤ (U.2.2.1 129 12).1 ∧ (U.2.2.1 129 12).1 < 2147483648) :
    ∃ us' S' z' p' cl, RDX W1 m od Y es P f N 0 GF (N + 1) us' S' z' p' nf nm tm bs lv (lcz tm lv P) oid nw wa wn wi wk nb bo cl A (fun _ => 0) ∧ ∀ j, j < N → S' j = S j ∧ p' j = p j := by
  obtain ⟨⟨hF, hSO, hW⟩, ⟨hB, hB0, hB1⟩, ⟨hOL, hcn⟩, hn, hA, hG⟩ := hR
  obtain ⟨-, -, -, -, ⟨bf, bt, hz⟩, hVD, h10, h10b⟩ := hK
  obtain ⟨X, W, id0, hSX, ⟨hu, hpo, N', us', S', z', p', ln, hSW, hid, hNN, hold, ⟨hS0, hz0⟩, -, -, hpi⟩, hid2, ⟨N1, hN1, hNb, hFK⟩, e1, e2, e5, e3, e4, ep⟩ := hO
  have hN524 : N' ≤ 524288 := hSW.1.2.2.2
  have hn1 := hn.2.1
  have hn2 := hn.2.2.1
  have eN : N1 = N' := by
    have y := hSW.1.2.2.1
    rw [hN1] at y
    exact nI_inj (by omega) (by omega) y
  have eN2 : N' = N + 1 := by omega
  have ei : id0 = N := by omega
  subst eN2
  subst ei
  rw [eN] at hFK
  have e25 : W1.1 25 = U.1 25 := (hq2.t 25 rfl).trans (hq.t 25 rfl)
  have e15 : W1.1 15 = U.1 15 := (hq2.t 15 rfl).trans (hq.t 15 rfl)
  have e27 : W1.1 27 = U.1 27 := (hq2.t 27 rfl).trans (hq.t 27 rfl)
  have e98 : W1.2.2.1 99 8 = U.2.2.1 99 8 := (hq2.a 99 8 rfl).trans (hq.a 99 8 rfl)
  have e94 : W1.2.2.1 129 4 = U.2.2.1 129 4 := (hq2.a 129 4 rfl).trans (hq.a 129 4 rfl)
  have e24 : ∀ r c, ¬ c = 5 → (W1.1 24).2 r c = (U.1 24).2 r c := fun r c hc => by rw [hO24.2 r c hc, hq.t 24 rfl]
  have l45 : W1.2.2.2.2.1 145 = U.2.2.2.2.1 145 := (hq2.l 145 rfl).trans (hq.l 145 rfl)
  have hmn : ∀ s t, MNB Y W1 P f od S' nf nm tm oid nw wa wn wi wk nb bo s t ↔ MNB Y U P f od S nf nm tm oid nw wa wn wi wk nb bo s t := fun s t => mnb_to hF hKN.2.1 hB0 (fun j hj => (hold j hj).1) e25 e15 e98
  have hP14 := hKN.P14
  obtain ⟨cl, hcl, hcj⟩ := hCJ
  refine ⟨us', S', z', p', cl, ⟨⟨⟨hKN.q hq2 rfl, mcs_eq hMC (hq2.t 22 rfl) (hq2.n 100 3 rfl) (hq2.n 100 8 rfl) (hq2.n 100 12 rfl) (hq2.n 100 13 rfl) (hq2.n 100 15 rfl), mlw_eq hML (hq2.t 21 rfl) (hq2.t 22 rfl) (hq2.t 15 rfl) (hq2.a 100 3 rfl) (hq2.i 100 5 rfl) (hq2.i 100 7 rfl) (hq2.i 100 17 rfl) (hq2.i 100 4 rfl) (hq2.a 100 8 rfl) (hq2.n 100 12 rfl) (hq2.n 100 13 rfl) (hq2.n 100 15 rfl) (hq2.a 99 8 rfl), hWM.same (hq2.t 21 rfl) (hq2.i 100 6 rfl) (hq2.t 15 rfl) (hq2.i 100 4 rfl), ⟨bf, bt, bz_eq hz ((hq2.i 129 19 rfl).trans (hq.i 129 19 rfl)) ((hq2.i 129 20 rfl).trans (hq.i 129 20 rfl)) ((hq2.l 146 rfl).trans (hq.l 146 rfl))⟩, ⟨⟨hO24.1, hF.1.2.1, by rw [e94]; exact hF.1.2.2⟩, fun r hr => ?_⟩, hSW.eq e1 e2 e5 e3 e4 (congrFun ep 114), by rw [e15, e25]; exact hW, hCH, vdf_same hVD ((hq2.i 99 9 rfl).trans (hq.i 99 9 rfl)) e98, ⟨by unfold BRT at hB ⊢; rw [e27]; exact hB, hB0, hB1⟩, fun r hr hl j h1 h2 => lcz_top (hF.2 r hr).2.1 hP14 rfl rfl hl h1 h2, by rw [hq2.n 129 12 rfl, hq.n 129 12 rfl]; exact a12.1, by rw [hq2.n 129 12 rfl, hq.n 129 12 rfl]; exact a12.2, by rw [hq2.n 129 10 rfl, hq.n 129 10 rfl]; exact h10, by rw [hq2.n 129 10 rfl, hq.n 129 10 rfl]; exact h10b⟩, fun r hr => rfl⟩, ⟨hFK.same e5 e3 e4 ep, by omega, by omega, hO8, fun x hx => ?_⟩, ⟨by rw [hq2.n 129 6 rfl, hq.n 129 6 rfl]; exact a6, by rw [hq2.n 129 7 rfl, hq.n 129 7 rfl]; exact a7, by rw [hq2.n 129 8 rfl, hq.n 129 8 rfl]; exact a8⟩, ⟨fun t ht => by rw [hq2.a 129 7 rfl]; exact hcl t ht, fun s s' hs hs' hc t ht => ?_⟩, ⟨by rw [l45]; exact hA, fun s t hs ht => ?_⟩, fun s hs => absurd hs (Nat.not_lt_zero s), fun c hc => Or.inl (h8 c hc), (hpi (by omega)).1, fun s hs => absurd hs (Nat.not_lt_zero s), fun r e1 e2 => absurd e2 (by omega)⟩, fun j hj => ⟨(hold j hj).1, (hold j hj).2.2⟩⟩
  · obtain ⟨⟨c0, c1, c2, c4⟩, hT, hb, hc⟩ := hF.2 r hr
    refine ⟨⟨(e24 r 0 (by decide)).trans c0, (e24 r 1 (by decide)).trans c1, (e24 r 2 (by decide)).trans c2, (e24 r 4 (by decide)).trans c4⟩, hT, by rw [e94]; exact hb, fun c hx => ?_⟩
    obtain ⟨g1, g2, g3, g4⟩ := hc c hx
    rw [e94]
    exact ⟨g1, by omega, by rw [(hold _ g2).2.2]; exact g3, fun x hx2 => g4 x (by rw [(hold _ g2).1] at hx2; exact hx2)⟩
  · rw [hS0] at hx
    obtain ⟨i, hi, -⟩ := (lmz_iff 0).mp hx
    omega
  · rw [hmn s t, hmn s' t]
    obtain ⟨y1, y2, y3⟩ := hcj s s' hs hs' hc
    exact mnb_same hF (by have y := hSO.1.2.2.2; omega) hKN.2.1 hB0 hB1 hs hs' y1 y2 y3
  · rw [hmn s t]
    exact (hG s t hs ht).symm
end ReadyData
