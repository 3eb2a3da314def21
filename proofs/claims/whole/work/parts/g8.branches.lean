/-! THE RELATION WHILE IT IS MADE: branches -/
/-- where the rows of a new branch begin -/
def bon (bo : Nat → Nat → Nat) (nb nf nw : Nat) : Nat → Nat → Nat := fun b c => if b = nb then (if c = 0 then nf else nw) else bo b c
section Branches
variable {O0 : Nat → (Nat → Bool) × Bool} {U V : Ud} {m P N0 sf nb ba bn bi N us nf nw ou cnt b c s t q j r tot : Nat} {Y : Ts} {f od bs lv wa wn wi z : Nat → Nat} {wk : Nat → Bool} {es : Nat → Int32} {nm tm : Nat → Int32} {bo oid : Nat → Nat → Nat} {S : Nat → Nat → Bool} {p : Nat → Bool} {br : Option Nat} {G : Nat → Nat → Nat → Prop} {x y : Int32}
theorem bon_new0 : bon bo nb nf nw nb 0 = nf := by
  unfold bon
  rw [if_pos rfl, if_pos rfl]
theorem bon_new1 : bon bo nb nf nw nb 1 = nw := by
  unfold bon
  rw [if_pos rfl, if_neg (by decide)]
theorem bon_old (h : b < nb) : bon bo nb nf nw b c = bo b c := if_neg (by omega)
theorem bon_enz (h : b < nb) (ht : tot = bon bo nb nf nw nb c) : enz (nb + 1) (bon bo nb nf nw) b c tot = enz nb bo b c tot := by
  unfold enz
  rw [if_pos (by omega)]
  by_cases e : b + 1 < nb
  · rw [if_pos e, bon_old e]
  · rw [if_neg e, ht, show b + 1 = nb by omega]
theorem bon_bok (h1 : 1 ≤ nb) (h : BOK nb bo c tot) (ht : tot = bon bo nb nf nw nb c) : BOK (nb + 1) (bon bo nb nf nw) c tot := by
  refine ⟨h.1, fun b b1 b2 => ?_⟩
  by_cases e : b = nb
  · have en : enz (nb + 1) (bon bo nb nf nw) nb c tot = tot := if_neg (by omega)
    rw [e, en, ← ht]
    refine ⟨?_, Nat.le_refl _, Nat.le_refl _⟩
    by_cases e1 : nb = 1
    · rw [ht, e1]
      exact Nat.le_refl _
    · rw [bon_old (show 1 < nb by omega)]
      have y := h.2 1 (Nat.le_refl _) (by omega)
      omega
  · have hb : b < nb := by omega
    rw [bon_enz hb ht, bon_old hb, bon_old (show 1 < nb by omega)]
    exact h.2 b b1 hb
theorem bon_fin (h1 : 1 ≤ nb) (h : BOK nb bo c tot) (ht : tot = bon bo nb nf nw nb c) (hb : b < nb + 1) : fin (nb + 1) (bon bo nb nf nw) b c tot r ↔ fin nb bo (if b = nb then 0 else b) c tot r := by
  have hcm : cmz (nb + 1) (bon bo nb nf nw) c tot = cmz nb bo c tot := by
    unfold cmz
    rw [if_pos (by omega)]
    by_cases e1 : 1 < nb
    · rw [if_pos e1, bon_old e1]
    · rw [if_neg e1, ht, show nb = 1 by omega]
  unfold fin
  rw [hcm]
  by_cases e : b = nb
  · have en : enz (nb + 1) (bon bo nb nf nw) nb c tot = tot := if_neg (by omega)
    rw [if_pos e, e, en, ← ht]
    omega
  · rw [if_neg e]
    have hb2 : b < nb := by omega
    rw [bon_enz hb2 ht, bon_old hb2]
theorem ts5q_eq {T : Tb} {v : Int32} (hk : q < T.1) (hb : T.1 ≤ 16777216) : tset 5 T (nI q) 1 v = (T.1, fun i c => if i = q ∧ c = 1 then v else T.2 i c) := by
  unfold tset
  rw [if_neg (nI_pos (by omega)), nI_clamp (by omega), if_pos ⟨hk, by decide⟩]
/-- the rest of an outer | has become shorter -/
theorem RST.rest (h : RST U Y es P f N0 O0 sf nb bo br ba bn bi N us S z p nf nm tm bs lv oid nw wa wn wi wk ou) (hbq : br = none ∨ br = some q) (hq : q < nw) (h3 : (U.1 25).2 q 3 = -1) (h4 : (U.1 25).2 q 4 = 1) (hj : j ≤ wn q) (hw : j = 0 ∨ WTC Y es (wa q) j (wi q)) (h25 : V.1 25 = tset 5 (U.1 25) (nI q) 1 (nI (wa q + j))) (e15 : V.1 15 = U.1 15) (e24 : V.1 24 = U.1 24) (e27 : V.1 27 = U.1 27) (e2 : V.2 = U.2) : RST V Y es P f N0 O0 sf nb bo br ba j bi N us S z p nf nm tm bs lv oid nw wa (upv wn q j) wi wk ou ∧ ∀ r, ¬ r = q → ∀ s t, (WLV Y V P f od wa (upv wn q j) wi wk r s t ↔ WLV Y U P f od wa wn wi wk r s t) := by
  obtain ⟨⟨hF, hSO, hW⟩, ⟨hB, hB0, hB1, h00⟩, hbb, hun, ho, hn, hbr⟩ := h
  have hnn : (U.1 25).1 = nw ∧ nw ≤ 16777216 := hW.1
  have e25 : V.1 25 = ((U.1 25).1, fun i c => if i = q ∧ c = 1 then nI (wa q + j) else (U.1 25).2 i c) := by
    rw [h25]
    exact ts5q_eq (by omega) (by omega)
  have hne : ∀ r c, ¬ (r = q ∧ c = 1) → (V.1 25).2 r c = (U.1 25).2 r c := fun r c hc => by
    rw [e25]
    show (if r = q ∧ c = 1 then nI (wa q + j) else (U.1 25).2 r c) = _
    rw [if_neg hc]
  have hq1 : (V.1 25).2 q 1 = nI (wa q + j) := by
    rw [e25]
    show (if q = q ∧ 1 = 1 then nI (wa q + j) else (U.1 25).2 q 1) = _
    rw [if_pos ⟨rfl, rfl⟩]
  refine ⟨⟨⟨by unfold FAC at hF ⊢; rw [e24, e2]; exact hF, hSO.eq (by rw [e2]) (by rw [e2]) (by rw [e2]) (by rw [e2]) (by rw [e2]) (by rw [e2]), ⟨⟨by rw [e25]; exact hnn.1, hnn.2⟩, fun r hr => ?_⟩⟩, ⟨by unfold BRT at hB ⊢; rw [e27]; exact hB, hB0, hB1, h00⟩, hbb, hun, by rw [e2]; exact ho, by rw [e2]; exact hn, fun q' hq' => ?_⟩, fun r hr s t => ?_⟩
  · obtain ⟨⟨w0, w1, w2, w3, w4⟩, wc⟩ := hW.2 r hr
    by_cases e : r = q
    · rw [e] at w0 w1 w2 w3 w4 ⊢
      rw [upv_eq, hne q 0 (by omega), hne q 2 (by omega), hne q 3 (by omega), hne q 4 (by omega), hq1]
      exact ⟨⟨w0, rfl, w2, w3, by omega⟩, Or.inl ⟨h3, h4, hw⟩⟩
    · rw [upv_no e, hne r 0 (fun y => e y.1), hne r 1 (fun y => e y.1), hne r 2 (fun y => e y.1), hne r 3 (fun y => e y.1), hne r 4 (fun y => e y.1), e15]
      exact ⟨⟨w0, w1, w2, w3, w4⟩, wc⟩
  · obtain ⟨g1, g2, g3, g4, g5, g6⟩ := hbr q' hq'
    have eq' : q' = q := by
      rcases hbq with y | y
      · rw [y] at hq'
        cases hq'
      · rw [y] at hq'
        exact (Option.some.inj hq').symm
    rw [eq'] at g1 g2 g4 ⊢
    rw [upv_eq, hne q 3 (by omega), hne q 4 (by omega)]
    exact ⟨g1, g2, rfl, g4, h3, h4⟩
  · unfold WLV
    rw [upv_no hr, hne r 3 (fun y => hr y.1), hne r 4 (fun y => hr y.1), e2, trs_same e15 (by rw [e2])]
    unfold CHSw
    rw [vst_same e15 (by rw [e2])]
/-- a branch is begun -/
theorem RST.branch {br' : Option Nat} {ba' bn' bi' : Nat} (h : RST U Y es P f N0 O0 sf nb bo br ba bn bi N us S z p nf nm tm bs lv oid nw wa wn wi wk ou) (hnb : nb < 67108864) (hnf : nf ≤ 67108864) (h27 : V.1 27 = tput 5 (U.1 27) (nI nf) (nI nw) x y) (e15 : V.1 15 = U.1 15) (e24 : V.1 24 = U.1 24) (e25 : V.1 25 = U.1 25) (e2 : V.2 = U.2) (hbr' : ∀ q, br' = some q → q < cmz nb bo 1 nw ∧ wa q = ba' ∧ wn q = bn' ∧ wi q = bi' ∧ (U.1 25).2 q 3 = -1 ∧ (U.1 25).2 q 4 = 1) : RST V Y es P f N0 O0 sf (nb + 1) (bon bo nb nf nw) br' ba' bn' bi' N us S z p nf nm tm bs lv oid nw wa wn wi wk ou := by
  obtain ⟨⟨hF, hSO, hW⟩, ⟨hB, hB0, hB1, h00⟩, hbb, hun, ho, hn, hbr⟩ := h
  obtain ⟨b1, b2, b3⟩ := hB
  have hnw := hW.1.2
  have e27 : V.1 27 = (nb + 1, fun i k => if i = nb then (if k < 5 then rw_col (nI nf) (nI nw) x y k else 0) else (U.1 27).2 i k) := by
    rw [h27, ← b1]
    rfl
  refine ⟨⟨by unfold FAC at hF ⊢; rw [e24, e2]; exact hF, hSO.eq (by rw [e2]) (by rw [e2]) (by rw [e2]) (by rw [e2]) (by rw [e2]) (by rw [e2]), by rw [e15, e25]; exact hW⟩, ⟨⟨by rw [e27], by omega, fun b c hb hc => ?_⟩, bon_bok b2.1 hB0 bon_new0.symm, bon_bok b2.1 hB1 bon_new1.symm, by rw [bon_old (show 0 < nb by omega)]; exact h00⟩, hbb, fun q q' g1 g2 g3 g4 => ?_, by rw [e2]; exact ho, by rw [e2]; exact hn, fun q hq => ?_⟩
  · rw [e27]
    show (if b = nb then (if c < 5 then rw_col (nI nf) (nI nw) x y c else 0) else (U.1 27).2 b c) = nI (bon bo nb nf nw b c) ∧ bon bo nb nf nw b c ≤ 67108864
    by_cases e : b = nb
    · rw [if_pos e, if_pos (by omega), e]
      have hc2 : c = 0 ∨ c = 1 := by omega
      rcases hc2 with z | z
      · rw [z, bon_new0]
        exact ⟨rfl, hnf⟩
      · rw [z, bon_new1]
        exact ⟨rfl, by omega⟩
    · rw [if_neg e, bon_old (show b < nb by omega)]
      exact b3 b c (by omega) hc
  · rw [show nb + 1 - 1 = nb by omega, bon_new0] at g1
    omega
  · obtain ⟨g1, g2⟩ := hbr' q hq
    rw [e25]
    refine ⟨⟨by omega, ?_⟩, g2⟩
    unfold cmz at g1
    by_cases e1 : 1 < nb
    · rw [if_pos e1] at g1
      rw [bon_old e1]
      exact g1
    · rw [if_neg e1] at g1
      have hn1 : nb = 1 := by omega
      have z : bon bo nb nf nw nb 1 = nw := bon_new1
      have z2 : bon bo nb nf nw 1 1 = nw := by
        rw [hn1] at z ⊢
        exact z
      rw [z2]
      exact g1
theorem lvb_branch (h1 : 1 ≤ nb) (hB0 : BOK nb bo 0 nf) (hB1 : BOK nb bo 1 nw) (e15 : V.1 15 = U.1 15) (e25 : V.1 25 = U.1 25) (e98 : V.2.2.1 99 8 = U.2.2.1 99 8) (hb : b < nb + 1) : LVB Y V P f od S nf nm tm oid nw wa wn wi wk (nb + 1) (bon bo nb nf nw) br b s t ↔ LVB Y U P f od S nf nm tm oid nw wa wn wi wk nb bo br (if b = nb then 0 else b) s t := by
  unfold LVB
  refine and_congr (forall_congr' (fun r => imp_congr (bon_fin h1 hB0 bon_new0.symm hb) Iff.rfl)) (forall_congr' (fun r => imp_congr (bon_fin h1 hB1 bon_new1.symm hb) (imp_congr Iff.rfl (wlv_eq e25 e15 e98))))

/-- what the row of branches has of the rest -/
theorem RLG.row (h : RLG U Y es P f od N0 O0 sf nb bo (some q) ba bn bi cnt G) (hP : P ≤ 14) : (q < (U.1 25).1 ∧ (U.1 25).1 ≤ 16777216 ∧ (U.1 24).1 ≤ 67108864) ∧ (U.1 25).2 q 0 = nI ba ∧ (U.1 25).2 q 1 = nI (ba + bn) ∧ (U.1 25).2 q 2 = nI bi ∧ bi < (Y 11).1 ∧ ba + bn ≤ (Y 0).1 ∧ (bn = 0 ∨ WTC Y es ba bn bi) ∧ (U.1 24).1 + (U.1 25).1 ≤ cnt ∧ (1 < nb ∧ (U.1 27).1 = nb) := by
  obtain ⟨A, N, us, S, z, p, nf, nm, tm, bs, lv, oid, nw, wa, wn, wi, wk, ou, ⟨⟨hF, hSO, hW⟩, ⟨hB, hB0, hB1, h00⟩, hbb, hun, ho, hn, hbr⟩, h2, h3, h4⟩ := h
  obtain ⟨⟨g0, g1⟩, g2, g3, g4, g5, g6⟩ := hbr q rfl
  have hq : q < nw := by
    have y := hB1.2 1 (Nat.le_refl _) g0
    omega
  obtain ⟨⟨w0, w1, w2, w3, w4⟩, wc⟩ := hW.2 q hq
  rw [g2] at w0 w1 w4
  rw [g3] at w1 w4
  rw [g4] at w2 w3
  have hnn := hW.1
  have hff := hF.1
  refine ⟨⟨by omega, by omega, by omega⟩, w0, w1, w2, w3, w4, ?_, by omega, g0, hB.1⟩
  rcases wc with ⟨-, -, y⟩ | ⟨pl, y1, y2, -⟩ | ⟨pl, y1, y2, -⟩
  · rw [g2, g3, g4] at y
    exact y
  · rw [g5] at y2
    exact absurd y2.symm (nI_neg1 (by omega))
  · rw [g5] at y2
    exact absurd y2.symm (nI_neg1 (by omega))
theorem RLG.rest (h : RLG U Y es P f od N0 O0 sf nb bo (some q) ba bn bi cnt G) (hj : j ≤ bn) (hw : j = 0 ∨ WTC Y es ba j bi) (h25 : V.1 25 = tset 5 (U.1 25) (nI q) 1 (nI (ba + j))) (e15 : V.1 15 = U.1 15) (e24 : V.1 24 = U.1 24) (e27 : V.1 27 = U.1 27) (e2 : V.2 = U.2) : RLG V Y es P f od N0 O0 sf nb bo (some q) ba j bi cnt G := by
  obtain ⟨A, N, us, S, z, p, nf, nm, tm, bs, lv, oid, nw, wa, wn, wi, wk, ou, h1, h2, h3, h4⟩ := h
  obtain ⟨⟨hF, hSO, hW⟩, ⟨hB, hB0, hB1, h00⟩, hbb, hun, ho, hn, hbr⟩ := id h1
  obtain ⟨⟨g0, g1⟩, g2, g3, g4, g5, g6⟩ := hbr q rfl
  have hq : q < nw := by
    have y := hB1.2 1 (Nat.le_refl _) g0
    omega
  obtain ⟨r1, r2⟩ := RST.rest (od := od) (j := j) h1 (Or.inr rfl) hq g5 g6 (by omega) (by rw [g2, g4]; exact hw) (by rw [g2]; exact h25) e15 e24 e27 e2
  refine ⟨A, N, us, S, z, p, nf, nm, tm, bs, lv, oid, nw, wa, upv wn q j, wi, wk, ou, r1, h2, by rw [e2]; exact h3, fun b s t hb hs ht => ?_⟩
  rw [← h4 b s t hb hs ht]
  unfold LVB
  exact and_congr Iff.rfl (and_congr Iff.rfl (forall_congr' (fun r => imp_congr Iff.rfl ⟨fun z hne => (r2 r (fun e => hne (by rw [e])) s t).mp (z hne), fun z hne => (r2 r (fun e => hne (by rw [e])) s t).mpr (z hne)⟩)))
/-- one branch more -/
theorem RLG.more (h : RLG U Y es P f od N0 O0 sf nb bo (some q) ba bn bi cnt G) (hnb : nb < 67108864) (h27 : V.1 27 = tput 5 (U.1 27) (nI (U.1 24).1) (nI (U.1 25).1) x y) (e15 : V.1 15 = U.1 15) (e24 : V.1 24 = U.1 24) (e25 : V.1 25 = U.1 25) (e2 : V.2 = U.2) : ∃ bo', RLG V Y es P f od N0 O0 sf (nb + 1) bo' (some q) ba bn bi cnt (fun b s t => G (if b = nb then 0 else b) s t) := by
  obtain ⟨A, N, us, S, z, p, nf, nm, tm, bs, lv, oid, nw, wa, wn, wi, wk, ou, h1, h2, h3, h4⟩ := h
  obtain ⟨⟨hF, hSO, hW⟩, ⟨hB, hB0, hB1, h00⟩, hbb, hun, ho, hn, hbr⟩ := id h1
  rw [hF.1.1, hW.1.1] at h27
  have hn1 := hB.2.1.1
  refine ⟨bon bo nb nf nw, A, N, us, S, z, p, nf, nm, tm, bs, lv, oid, nw, wa, wn, wi, wk, ou, RST.branch (br' := some q) (ba' := ba) (bn' := bn) (bi' := bi) h1 hnb hF.1.2.1 h27 e15 e24 e25 e2 (fun q' hq' => ?_), h2, by rw [e2]; exact h3, fun b s t hb hs ht => ?_⟩
  · obtain ⟨⟨g0, g1⟩, g2⟩ := hbr q' hq'
    refine ⟨?_, g2⟩
    unfold cmz
    rw [if_pos g0]
    exact g1
  · rw [lvb_branch hn1 hB0 hB1 e15 e25 (by rw [e2]) hb]
    refine h4 _ s t ?_ hs ht
    by_cases e : b = nb
    · rw [if_pos e]
      exact hn1
    · rw [if_neg e]
      omega

/-- the first branch -/
theorem RLO.first {A : Nat → Prop} {V1 : Ud} (h : RLO U Y es P f od N0 O0 sf 1 bo none 0 0 0 A N us S z p nf nm tm bs lv oid nw wa wn wi wk ou cnt G) (hP : P ≤ 14) (hq : q < nw) (h3 : (U.1 25).2 q 3 < 0) (hn0 : 1 ≤ wn q) (hj : j ≤ wn q) (hw : j = 0 ∨ WTC Y es (wa q) j (wi q)) (h25 : V1.1 25 = tset 5 (U.1 25) (nI q) 1 (nI (wa q + j))) (e15 : V1.1 15 = U.1 15) (e24 : V1.1 24 = U.1 24) (e27 : V1.1 27 = U.1 27) (e2 : V1.2 = U.2) (f27 : V.1 27 = tput 5 (V1.1 27) (nI (U.1 24).1) (nI (U.1 25).1) x y) (f15 : V.1 15 = V1.1 15) (f24 : V.1 24 = V1.1 24) (f25 : V.1 25 = V1.1 25) (f2 : V.2 = V1.2) : WTC Y es (wa q) (wn q) (wi q) ∧ ∃ bo' G', RLG V Y es P f od N0 O0 sf 2 bo' (some q) (wa q) j (wi q) cnt G' ∧ (∀ s t, G' 1 s t ↔ G' 0 s t) ∧ ∀ s t, s < pd f 0 P → t < pd f 0 P → (G 0 s t ↔ G' 0 s t ∧ trs Y U f P od (wi q) (wa q) (wn q) s t = 1) := by
  obtain ⟨h1, h2, hA, h4⟩ := h
  obtain ⟨⟨hF, hSO, hW⟩, ⟨hB, hB0, hB1, h00⟩, hbb, hun, ho, hn, hbr⟩ := id h1
  obtain ⟨-, wc⟩ := hW.2 q hq
  have hrow : (U.1 25).2 q 3 = -1 ∧ (U.1 25).2 q 4 = 1 ∧ WTC Y es (wa q) (wn q) (wi q) := by
    rcases wc with ⟨y1, y2, y3⟩ | ⟨pl, y1, y2, -⟩ | ⟨pl, y1, y2, -⟩
    · exact ⟨y1, y2, y3.resolve_left (by omega)⟩
    · rw [y2] at h3
      exact absurd h3 (nI_pos (by have := hW.1.2; omega))
    · rw [y2] at h3
      exact absurd h3 (nI_pos (by have := hW.1.2; omega))
  obtain ⟨g3, g4, gw⟩ := hrow
  obtain ⟨r1, r2⟩ := RST.rest (od := od) (q := q) (j := j) h1 (Or.inl rfl) hq g3 g4 hj hw h25 e15 e24 e27 e2
  have hq3 : (V1.1 25).2 q 3 = -1 ∧ (V1.1 25).2 q 4 = 1 := by
    have hnn := hW.1
    rw [h25, ts5q_eq (by omega) (by omega)]
    refine ⟨?_, ?_⟩
    · show (if q = q ∧ 3 = 1 then _ else (U.1 25).2 q 3) = _
      rw [if_neg (by omega)]
      exact g3
    · show (if q = q ∧ 4 = 1 then _ else (U.1 25).2 q 4) = _
      rw [if_neg (by omega)]
      exact g4
  rw [hF.1.1, hW.1.1] at f27
  have r3 := RST.branch (br' := some q) (ba' := wa q) (bn' := j) (bi' := wi q) r1 (by decide) hF.1.2.1 f27 f15 f24 f25 f2 (fun q' hq' => by
    have e : q' = q := (Option.some.inj hq').symm
    rw [e]
    refine ⟨?_, rfl, upv_eq, rfl, hq3⟩
    unfold cmz
    rw [if_neg (by decide)]
    exact hq)
  refine ⟨gw, bon bo 1 nf nw, fun b s t => A s ∧ LVB Y V P f od S nf nm tm oid nw wa (upv wn q j) wi wk 2 (bon bo 1 nf nw) (some q) b s t, ⟨A, N, us, S, z, p, nf, nm, tm, bs, lv, oid, nw, wa, upv wn q j, wi, wk, ou, r3, h2, by rw [f2, e2]; exact hA, fun b s t _ _ _ => Iff.rfl⟩, fun s t => ?_, fun s t hs ht => ?_⟩
  · show (A s ∧ LVB Y V P f od S nf nm tm oid nw wa (upv wn q j) wi wk (1 + 1) (bon bo 1 nf nw) (some q) 1 s t) ↔ (A s ∧ LVB Y V P f od S nf nm tm oid nw wa (upv wn q j) wi wk (1 + 1) (bon bo 1 nf nw) (some q) 0 s t)
    rw [lvb_branch (U := V1) (Nat.le_refl 1) hB0 hB1 f15 f25 (by rw [f2]) (by decide), lvb_branch (U := V1) (Nat.le_refl 1) hB0 hB1 f15 f25 (by rw [f2]) (by decide)]
    exact Iff.rfl
  · rw [← h4 0 s t (by decide) hs ht]
    show _ ↔ (A s ∧ LVB Y V P f od S nf nm tm oid nw wa (upv wn q j) wi wk (1 + 1) (bon bo 1 nf nw) (some q) 0 s t) ∧ _
    rw [lvb_branch (U := V1) (Nat.le_refl 1) hB0 hB1 f15 f25 (by rw [f2]) (by decide)]
    have hfin : fin 1 bo 0 1 nw q := by
      unfold fin cmz
      rw [if_neg (by decide)]
      exact Or.inl hq
    have hwq : WLV Y U P f od wa wn wi wk q s t ↔ trs Y U f P od (wi q) (wa q) (wn q) s t = 1 := by
      unfold WLV
      rw [g4]
      exact ⟨fun z => z.2 rfl (by omega), fun z => ⟨fun w => absurd w (by decide), fun _ _ => z⟩⟩
    unfold LVB
    show (A s ∧ (∀ r, fin 1 bo 0 0 nf r → FLV P f S nm tm oid r s t) ∧ (∀ r, fin 1 bo 0 1 nw r → ¬ (none : Option Nat) = some r → WLV Y U P f od wa wn wi wk r s t)) ↔ ((A s ∧ (∀ r, fin 1 bo (if 0 = 1 then 0 else 0) 0 nf r → FLV P f S nm tm oid r s t) ∧ (∀ r, fin 1 bo (if 0 = 1 then 0 else 0) 1 nw r → ¬ some q = some r → WLV Y V1 P f od wa (upv wn q j) wi wk r s t)) ∧ _)
    rw [if_neg (by decide)]
    constructor
    · rintro ⟨a1, a2, a3⟩
      exact ⟨⟨a1, a2, fun r hr hne => (r2 r (fun e => hne (by rw [e])) s t).mpr (a3 r hr (by intro z; cases z))⟩, hwq.mp (a3 q hfin (by intro z; cases z))⟩
    · rintro ⟨⟨a1, a2, a3⟩, a4⟩
      refine ⟨a1, a2, fun r hr _ => ?_⟩
      by_cases e : r = q
      · rw [e]
        exact hwq.mpr a4
      · exact (r2 r e s t).mp (a3 r hr (fun z => e (Option.some.inj z).symm))
end Branches
