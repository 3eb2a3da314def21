/-! RELATION: from what is laid out to rows -/
section OpenR
variable {U V W X : Ud} {m P N0 sf ou N us nf nw s s' id0 M N1 fre : Nat} {Y : Ts} {es : Nat → Int32} {f od wa wn wi z bs lv wp : Nat → Nat} {nm tm : Nat → Int32} {oid : Nat → Nat → Nat} {S : Nat → Nat → Bool} {p : Nat → Bool} {wk : Nat → Bool} {G : Nat → Nat → Prop}
theorem SMC.rmn (h : SMC Y U P f od nf nm oid nw wa wn wi wk s s') (hP : P ≤ 14) (ht : ∀ r, r < nw → (U.1 25).2 r 3 = -1 → ∀ t, trs Y U f P od (wi r) (wa r) (wn r) s t = trs Y U f P od (wi r) (wa r) (wn r) s' t) (t : Nat) : RMN Y U P f od S nf nm tm oid nw wa wn wi wk s t ↔ RMN Y U P f od S nf nm tm oid nw wa wn wi wk s' t := by
  unfold RMN FCT WTR
  refine and_congr ?_ (and_congr ?_ ?_)
  · constructor
    · intro y r hr
      rw [← h.1 r hr]
      exact y r hr
    · intro y r hr
      rw [h.1 r hr]
      exact y r hr
  · have hn : ∀ k, k < P → ∀ r, (U.1 25).2 r 3 = nI k → ¬ (U.1 25).2 r 3 = -1 := fun k hk r e => by rw [e]; exact nI_neg1 (by omega)
    constructor
    · intro y k hk r hr h3
      exact (h.2 r hr (hn k hk r h3) _).mp (y k hk r hr h3)
    · intro y k hk r hr h3
      exact (h.2 r hr (hn k hk r h3) _).mpr (y k hk r hr h3)
  · constructor
    · intro y r hr h3
      rw [← ht r hr h3 t]
      exact y r hr h3
    · intro y r hr h3
      rw [ht r hr h3 t]
      exact y r hr h3
theorem wide_wp (h : WIDw Y es P (U.1 15) (U.1 25) nw wa wn wi wk) (hP : P ≤ 14) : ∃ wp : Nat → Nat, ∀ q, q < nw → (U.1 25).2 q 3 + 1 = nI (wp q) ∧ wp q ≤ P := by
  have key : ∀ q, ∃ v, q < nw → (U.1 25).2 q 3 + 1 = nI v ∧ v ≤ P := fun q => by
    by_cases hq : q < nw
    · rcases (h.2 q hq).2 with ⟨y, -⟩ | ⟨pl, y1, y2, -⟩
      · exact ⟨0, fun _ => ⟨by rw [y]; decide, Nat.zero_le _⟩⟩
      · exact ⟨pl + 1, fun _ => ⟨by rw [y2]; exact nI_add pl 1, by omega⟩⟩
    · exact ⟨0, fun y => absurd y hq⟩
  exact ⟨fun q => Classical.choose (key q), fun q hq => Classical.choose_spec (key q) hq⟩
/-- the first rows -/
theorem RSG.rows (h : RSG U Y es P f od N0 sf ou G N us S z p nf nm tm bs lv oid nw wa wn wi wk) (hP : P ≤ 14) (hpd : pd f 0 P ≤ 16384) (hf : ∀ k, 1 ≤ f k) (q1 : uq F293 U V) (hCJ : CLJ V (pd f 0 P) (fun s s' => (U.2.2.1 129 7).2 s = (U.2.2.1 129 7).2 s' ∧ ∀ r, r < nw → (U.1 25).2 r 3 = -1 → ∀ t, trs Y U f P od (wi r) (wa r) (wn r) s t = trs Y U f P od (wi r) (wa r) (wn r) s' t)) (q2 : uq F294 V W) (hA : ADD (upI (upF V 113 4 0 (fun _ => (-1 : Int32)) (M + 1 - 0)) 129 22 (nI N)) X N us S z p (fun _ => 0) 0 id0) (hid0 : N ≤ id0) (hN1 : ∃ N1, X.2.1 113 2 = nI N1 ∧ (N ≤ N1 ∧ N1 ≤ N + 1) ∧ FRK X N1 N) (x1 : W.2.1 113 1 = X.2.1 113 1) (x2 : W.2.1 113 2 = X.2.1 113 2) (x5 : W.2.1 113 5 = X.2.1 113 5) (x3 : W.2.2.1 113 3 = X.2.2.1 113 3) (x4 : W.2.2.1 113 4 = X.2.2.1 113 4) (xp : W.2.2.2.2.2 = X.2.2.2.2.2) (h22 : W.2.1 129 22 = nI N) (h24 : (W.1 24).1 = nf ∧ ∀ q c, ¬ c = 5 → (W.1 24).2 q c = (V.1 24).2 q c) (hch : (∀ k, k < P → (W.2.2.1 129 15).2 k = lsf lv k nf) ∧ ∀ q, q < nf → (W.1 24).2 q 5 = lsf lv (lv q) q) (hfre : W.2.1 129 23 = nI fre ∧ fre ≤ P ∧ (∀ q, q < nf → lv q < fre) ∧ ∀ q, q < nw → wp q ≤ fre) (hwp : ∀ q, q < nw → (V.1 25).2 q 3 + 1 = nI (wp q) ∧ wp q ≤ P) (hky : ∀ j, j ≤ pd f 0 P → (W.2.2.1 129 8).2 j = -1) (hVD : VDF U P f) (n12 : sm f 0 P ≤ (U.2.2.1 129 12).1) (n12b : (U.2.2.1 129 12).1 < 2147483648) (n10 : pd f 0 P + 4 ≤ (U.2.2.1 129 10).1) (n10b : (U.2.2.1 129 10).1 ≤ 16777216) : ∃ N' us' S' z' p' cl al, RDG W Y es P f od N 0 G N' us' S' z' p' nf nm tm bs lv oid nw wa wn wi wk fre cl al (fun _ => 0) := by
  obtain ⟨⟨g1, g2⟩, hSO, hWD, ⟨b1, b2, b3⟩, ho, hn, ⟨cl0, c1, c2⟩, al, a1, a2⟩ := h
  obtain ⟨hqA, hoA, N', us', S', z', p', ln, hS2, hid, ⟨e1, e2⟩, hold, ⟨hSi, hzi⟩, hu, hl, hpi⟩ := hA
  obtain ⟨N1, m1, ⟨m2, m3⟩, m4⟩ := hN1
  have hNb := hS2.1.2.2.2
  have hNb0 := hSO.1.2.2.2
  have eN : N1 = N' := nI_inj (by omega) (by omega) (m1.symm.trans hS2.1.2.2.1)
  subst eN
  have eid : id0 = N := by omega
  have t15 : W.1 15 = U.1 15 := (q2.t 15 rfl).trans (q1.t 15 rfl)
  have t25 : W.1 25 = U.1 25 := (q2.t 25 rfl).trans (q1.t 25 rfl)
  have t98 : W.2.2.1 99 8 = U.2.2.1 99 8 := (q2.a 99 8 rfl).trans (q1.a 99 8 rfl)
  have t4 : W.2.2.1 129 4 = U.2.2.1 129 4 := (q2.a 129 4 rfl).trans (q1.a 129 4 rfl)
  have t7 : W.2.2.1 129 7 = V.2.2.1 129 7 := q2.a 129 7 rfl
  have t145 : W.2.2.2.2.1 145 = U.2.2.2.2.1 145 := (q2.l 145 rfl).trans (q1.l 145 rfl)
  have t24 : ∀ q c, ¬ c = 5 → (W.1 24).2 q c = (U.1 24).2 q c := fun q c hc => (h24.2 q c hc).trans (by rw [q1.t 24 rfl])
  have hSW : SOK W N1 us' S' z' p' := hS2.eq x1 x2 x5 x3 x4 (by rw [xp])
  have hrlu : RLUw W Y es P f N1 us' S' z' p' nf nm tm bs lv oid nw wa wn wi wk fre := by
    refine ⟨⟨⟨h24.1, g1.2.1, by rw [t4]; exact g1.2.2⟩, fun q hq => ?_⟩, hSW, by rw [t15, t25]; exact hWD, hch, ?_, ⟨hfre.1, hfre.2.1⟩, b2, ?_, ?_, ?_, ?_⟩
    · obtain ⟨⟨y1, y2, y3, y4⟩, y5, y6, y7⟩ := g2 q hq
      rw [t24 q 0 (by decide), t24 q 1 (by decide), t24 q 2 (by decide), t24 q 4 (by decide), t4]
      refine ⟨⟨y1, y2, y3, y4⟩, y5, y6, fun c hc => ?_⟩
      obtain ⟨w1, w2, w3, w4⟩ := y7 c hc
      obtain ⟨v1, v2, v3⟩ := hold _ w2
      exact ⟨w1, by omega, v3.trans w3, by rw [v1]; exact w4⟩
    · unfold VDF at *
      rw [(q2.i 99 9 rfl).trans (q1.i 99 9 rfl), t98]
      exact hVD
    · rw [(q2.n 129 12 rfl).trans (q1.n 129 12 rfl)]; exact n12
    · rw [(q2.n 129 12 rfl).trans (q1.n 129 12 rfl)]; exact n12b
    · rw [(q2.n 129 10 rfl).trans (q1.n 129 10 rfl)]; exact n10
    · rw [(q2.n 129 10 rfl).trans (q1.n 129 10 rfl)]; exact n10b
  have hoid : ∀ r c, r < nf → c < pm (nm r) f P → oid r c < N := fun r c hr hc => ((g2 r hr).2.2.2 c hc).2.1
  have hrm : ∀ s t, (RMN Y W P f od S' nf nm tm oid nw wa wn wi wk s t ↔ RMN Y U P f od S nf nm tm oid nw wa wn wi wk s t) := fun s t => by
    rw [RMN_same (S := S') t15 t98 t25]
    unfold RMN
    have hfc : FCT P f S' nm tm oid nf s t ↔ FCT P f S nm tm oid nf s t := by
      unfold FCT
      constructor
      · intro y r hr
        have y2 := y r hr
        rw [(hold _ (hoid r _ hr (ixz_lt (fun k hk => dgz_lt hf)))).1] at y2
        exact y2
      · intro y r hr
        rw [(hold _ (hoid r _ hr (ixz_lt (fun k hk => dgz_lt hf)))).1]
        exact y r hr
    rw [hfc]
  obtain ⟨cl, d1, d2⟩ := hCJ
  refine ⟨N1, us', S', z', p', cl, al, hrlu, ⟨m4.same x5 x3 x4 xp, by omega, by omega, h22, fun x y => ?_⟩, ⟨hfre.2.2.1, fun r hr pl hpl h3 => ?_⟩, ⟨by rw [t7]; exact d1, fun s s' hs hs' hc t ht => ?_⟩, ⟨by rw [t145]; exact a1, fun s t hs ht => (a2 s t hs ht).trans (and_congr_right (fun _ => (hrm s t).symm))⟩, fun s hs => absurd hs (Nat.not_lt_zero s), fun c hc => Or.inl (hky c hc)⟩
  · rw [← eid, hSi] at y
    obtain ⟨i, hi, -⟩ := (lmz_iff 0).mp y
    exact absurd hi (Nat.not_lt_zero i)
  · have y1 := (hwp r hr).1
    have y2 := (hwp r hr).2
    have y3 := hfre.2.2.2 r hr
    rw [show (V.1 25).2 r 3 = nI pl by rw [← h3, t25, q1.t 25 rfl]] at y1
    have y4 : pl + 1 = wp r := nI_inj (by omega) (by omega) ((nI_add pl 1).symm.trans y1)
    omega
  · obtain ⟨w1, w2⟩ := d2 s s' hs hs' hc
    rw [(c1 s hs).1, (c1 s' hs').1] at w1
    have w3 : cl0 s = cl0 s' := nI_inj (by have := (c1 s hs).2; omega) (by have := (c1 s' hs').2; omega) w1
    exact (hrm s t).trans (((c2 s s' hs hs' w3).rmn hP w2 t).trans (hrm s' t).symm)
end OpenR
