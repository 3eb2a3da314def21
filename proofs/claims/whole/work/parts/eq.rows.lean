/-! RELATION: rows, one for each class of STATES -/
section RowsOf
variable {U V V1 V2 V3 W : Ud} {m P N us nf nw fre s t q fb n id c k : Nat} {Y : Ts} {es : Nat → Int32} {f od wa wn wi z bs lv cl ro ls : Nat → Nat} {nm tm : Nat → Int32} {oid : Nat → Nat → Nat} {S : Nat → Nat → Bool} {p : Nat → Bool} {wk : Nat → Bool} {G : Nat → Nat → Prop} {al : Nat → Prop}
/-- what makeRow lists is what factors and wide rows leave -/
theorem goe_rmn (hP : P ≤ 14) (hfre : fre ≤ P) (hlv : ∀ r, r < nf → lv r < fre) (hwp : ∀ r, r < nw → ∀ pl, pl < P → (U.1 25).2 r 3 = nI pl → pl < fre) : GOEw Y U P f od S nf nm tm lv oid nw wa wn wi wk fre s t ↔ bts (U.2.2.2.2.1 124) t = true ∧ RMN Y U P f od S nf nm tm oid nw wa wn wi wk s t := by
  constructor
  · rintro ⟨⟨g1, g2⟩, g3⟩
    refine ⟨g1, fun r hr => ?_, fun k hk => ?_, g3⟩
    · obtain ⟨⟨y1, y2⟩, y3⟩ := g2 (lv r) (hlv r hr)
      by_cases e : tm r = ((1 : Int32) <<< (nI (lv r) &&& 31))
      · have y := y1 r hr rfl e
        rw [e, ixz_one (by have := hlv r hr; omega) hP]
        exact y
      · exact y3 r hr rfl e
    · by_cases hkf : k < fre
      · exact (g2 k hkf).1.2
      · exact fun r hr h3 => absurd (hwp r hr k hk h3) hkf
  · rintro ⟨g1, g2, g3, g4⟩
    refine ⟨⟨g1, fun j hj => ⟨⟨fun r hr hl e => ?_, g3 j (by omega)⟩, fun r hr hl e => g2 r hr⟩⟩, g4⟩
    have y := g2 r hr
    rw [e, ixz_one (by omega) hP] at y
    exact y
theorem RLUw.same (h : RLUw U Y es P f N us S z p nf nm tm bs lv oid nw wa wn wi wk fre) (e24 : V.1 24 = U.1 24) (e4 : V.2.2.1 129 4 = U.2.2.1 129 4) (hS : SOK V N us S z p) (e15 : V.1 15 = U.1 15) (e25 : V.1 25 = U.1 25) (el : V.2.2.1 129 15 = U.2.2.1 129 15) (e9 : V.2.1 99 9 = U.2.1 99 9) (e98 : V.2.2.1 99 8 = U.2.2.1 99 8) (e23 : V.2.1 129 23 = U.2.1 129 23) (n12 : (V.2.2.1 129 12).1 = (U.2.2.1 129 12).1) (n10 : (V.2.2.1 129 10).1 = (U.2.2.1 129 10).1) : RLUw V Y es P f N us S z p nf nm tm bs lv oid nw wa wn wi wk fre := by
  obtain ⟨h1, h2, h3, h4, h5, h6, h7, h8, h9, h10, h11⟩ := h
  refine ⟨?_, hS, by rw [e15, e25]; exact h3, ?_, ?_, by rw [e23]; exact h6, h7, by rw [n12]; exact h8, by rw [n12]; exact h9, by rw [n10]; exact h10, by rw [n10]; exact h11⟩
  · unfold FAC at *
    rw [e24, e4]
    exact h1
  · unfold CHN at *
    rw [e24, el]
    exact h4
  · unfold VDF at *
    rw [e9, e98]
    exact h5
theorem RMN_same (h15 : V.1 15 = U.1 15) (h8 : V.2.2.1 99 8 = U.2.2.1 99 8) (h25 : V.1 25 = U.1 25) : RMN Y V P f od S nf nm tm oid nw wa wn wi wk s t ↔ RMN Y U P f od S nf nm tm oid nw wa wn wi wk s t := by
  unfold RMN
  rw [WTR_same h15 h8 h25]
  constructor
  · rintro ⟨g1, g2, g3⟩
    exact ⟨g1, fun k hk => (WCHw.same h25 h15 h8).mp (g2 k hk), g3⟩
  · rintro ⟨g1, g2, g3⟩
    exact ⟨g1, fun k hk => (WCHw.same h25 h15 h8).mpr (g2 k hk), g3⟩
/-- rows are found for the first q STATES -/
def RDG (V : Ud) (Y : Ts) (es : Nat → Int32) (P : Nat) (f od : Nat → Nat) (fb q : Nat) (G : Nat → Nat → Prop) (N us : Nat) (S : Nat → Nat → Bool) (z : Nat → Nat) (p : Nat → Bool) (nf : Nat) (nm tm : Nat → Int32) (bs lv : Nat → Nat) (oid : Nat → Nat → Nat) (nw : Nat) (wa wn wi : Nat → Nat) (wk : Nat → Bool) (fre : Nat) (cl : Nat → Nat) (al : Nat → Prop) (ro : Nat → Nat) : Prop :=
  RLUw V Y es P f N us S z p nf nm tm bs lv oid nw wa wn wi wk fre ∧
  (FRK V N fb ∧ fb < N ∧ N ≤ fb + q + 1 ∧ V.2.1 129 22 = nI fb ∧ ∀ x, ¬ S fb x = true) ∧
  ((∀ r, r < nf → lv r < fre) ∧ ∀ r, r < nw → ∀ pl, pl < P → (V.1 25).2 r 3 = nI pl → pl < fre) ∧
  ((∀ t, t < pd f 0 P → (V.2.2.1 129 7).2 t = nI (cl t) ∧ cl t ≤ pd f 0 P) ∧ ∀ s s', s < pd f 0 P → s' < pd f 0 P → cl s = cl s' → ∀ t, t < pd f 0 P → (RMN Y V P f od S nf nm tm oid nw wa wn wi wk s t ↔ RMN Y V P f od S nf nm tm oid nw wa wn wi wk s' t)) ∧
  (BTS (V.2.2.2.2.1 145) (pd f 0 P) al ∧ ∀ s t, s < pd f 0 P → t < pd f 0 P → (G s t ↔ al s ∧ RMN Y V P f od S nf nm tm oid nw wa wn wi wk s t)) ∧
  (∀ s, s < q → (V.2.2.1 129 6).2 s = nI (ro s) ∧ fb + ro s < N ∧ ∀ x, S (fb + ro s) x = true ↔ x < pd f 0 P ∧ bts (V.2.2.2.2.1 124) x = true ∧ G s x) ∧
  ∀ c, c ≤ pd f 0 P → (V.2.2.1 129 8).2 c = -1 ∨ ∃ s', s' < q ∧ al s' ∧ cl s' = c ∧ (V.2.2.1 129 8).2 c = nI (ro s')
/-- a row that is there, or none -/
theorem RDG.found {r : Nat} (h : RDG V Y es P f od fb q G N us S z p nf nm tm bs lv oid nw wa wn wi wk fre cl al ro) (hr : fb + r < N) (hR : ∀ x, S (fb + r) x = true ↔ x < pd f 0 P ∧ bts (V.2.2.2.2.1 124) x = true ∧ G q x) : RDG (upA V 129 6 q (nI r)) Y es P f od fb (q + 1) G N us S z p nf nm tm bs lv oid nw wa wn wi wk fre cl al (upv ro q r) := by
  obtain ⟨h1, ⟨k1, k2, k3, k4, k5⟩, h3, ⟨c1, c2⟩, ⟨a1, a2⟩, h6, h7⟩ := h
  have hrm : ∀ s t, (RMN Y (upA V 129 6 q (nI r)) P f od S nf nm tm oid nw wa wn wi wk s t ↔ RMN Y V P f od S nf nm tm oid nw wa wn wi wk s t) := fun s t => RMN_same rfl rfl rfl
  refine ⟨h1.same rfl rfl (h1.2.1.eq rfl rfl rfl rfl rfl rfl) rfl rfl rfl rfl rfl rfl rfl rfl, ⟨k1.same rfl rfl rfl rfl, k2, by omega, k4, k5⟩, h3, ⟨c1, fun s s' hs hs' hc t ht => (hrm s t).trans ((c2 s s' hs hs' hc t ht).trans (hrm s' t).symm)⟩, ⟨a1, fun s t hs ht => (a2 s t hs ht).trans (and_congr_right (fun _ => (hrm s t).symm))⟩, fun s hs => ?_, fun c hc => ?_⟩
  · show (if s = q then nI r else (V.2.2.1 129 6).2 s) = nI (upv ro q r s) ∧ fb + upv ro q r s < N ∧ ∀ x, S (fb + upv ro q r s) x = true ↔ x < pd f 0 P ∧ bts (V.2.2.2.2.1 124) x = true ∧ G s x
    by_cases e : s = q
    · rw [if_pos e, e, upv_eq]
      exact ⟨rfl, hr, hR⟩
    · rw [if_neg e, upv_ne (by omega)]
      exact h6 s (by omega)
  · rcases h7 c hc with y | ⟨s', y1, y2, y3, y4⟩
    · exact Or.inl y
    · exact Or.inr ⟨s', by omega, y2, y3, by rw [upv_ne y1]; exact y4⟩
/-- a STATE that is not alive -/
theorem RDG.dead (h : RDG V Y es P f od fb q G N us S z p nf nm tm bs lv oid nw wa wn wi wk fre cl al ro) (hq : q < pd f 0 P) (hal : ¬ al q) : RDG (upA V 129 6 q (0 : Int32)) Y es P f od fb (q + 1) G N us S z p nf nm tm bs lv oid nw wa wn wi wk fre cl al (upv ro q 0) := by
  refine RDG.found (r := 0) h h.2.1.2.1 (fun x => ⟨fun y => absurd y (h.2.1.2.2.2.2 x), fun y => absurd ((h.2.2.2.2.1.2 q x hq y.1).mp y.2.2).1 hal⟩)
/-- a STATE whose class has a row -/
theorem RDG.known {s' : Nat} (h : RDG V Y es P f od fb q G N us S z p nf nm tm bs lv oid nw wa wn wi wk fre cl al ro) (hq : q < pd f 0 P) (hal : al q) (hs' : s' < q) (hal' : al s') (hc : cl s' = cl q) : RDG (upA V 129 6 q (nI (ro s'))) Y es P f od fb (q + 1) G N us S z p nf nm tm bs lv oid nw wa wn wi wk fre cl al (upv ro q (ro s')) := by
  have y := h.2.2.2.2.2.1 s' hs'
  refine RDG.found (r := ro s') h y.2.1 (fun x => (y.2.2 x).trans (and_congr_right (fun hx => and_congr_right (fun _ => ?_))))
  rw [h.2.2.2.2.1.2 s' x (by omega) hx, h.2.2.2.2.1.2 q x hq hx, h.2.2.2.1.2 s' q (by omega) hq hc x hx]
  exact ⟨fun w => ⟨hal, w.2⟩, fun w => ⟨hal', w.2⟩⟩
/-- a row is made and kept -/
theorem RDG.made (h : RDG V Y es P f od fb q G N us S z p nf nm tm bs lv oid nw wa wn wi wk fre cl al ro) (hf : ∀ k, 1 ≤ f k) (hP : P ≤ 14) (hq : q < pd f 0 P) (hal : al q) (hV1 : V1 = upA V 129 6 q (-1 : Int32)) (hu : uq F378 V1 V2) (hRL : RLUw V2 Y es P f N us S z p nf nm tm bs lv oid nw wa wn wi wk fre) (hls : ∀ x, lmz ls n x = true ↔ x < pd f 0 P ∧ GOEw Y V1 P f od S nf nm tm lv oid nw wa wn wi wk fre q x) (hA : ADD V2 W N us S z p ls n id) (hfi : fb ≤ id) (hN1 : ∃ N1, W.2.1 113 2 = nI N1 ∧ (N ≤ N1 ∧ N1 ≤ N + 1) ∧ FRK W N1 fb) (hV3 : V3 = upA (upA W 129 6 q (nI (id - fb))) 129 8 (cl q) (nI (id - fb))) : ∃ N' us' S' z' p', RDG V3 Y es P f od fb (q + 1) G N' us' S' z' p' nf nm tm bs lv oid nw wa wn wi wk fre cl al (upv ro q (id - fb)) := by
  obtain ⟨h1, ⟨k1, k2, k3, k4, k5⟩, ⟨l1, l2⟩, ⟨c1, c2⟩, ⟨a1, a2⟩, h6, h7⟩ := h
  obtain ⟨hq1, ho1, N', us', S', z', p', ln, hS2, hid, ⟨b1, b2⟩, hold, ⟨hSi, hzi⟩, ⟨u1, u2⟩, ⟨w1, w2⟩, hpi⟩ := hA
  obtain ⟨N1, m1, ⟨m2, m3⟩, m4⟩ := hN1
  have hNb := hS2.1.2.2.2
  have hNb0 := h1.2.1.1.2.2.2
  have eN : N1 = N' := nI_inj (by omega) (by omega) (m1.symm.trans hS2.1.2.2.1)
  subst eN
  have hfre : fre ≤ P := h1.2.2.2.2.2.1.2
  -- what stays
  have t15 : V3.1 15 = V.1 15 := by rw [hV3]; exact (hq1.t 15 rfl).trans ((hu.t 15 rfl).trans (by rw [hV1]; rfl))
  have t25 : V3.1 25 = V.1 25 := by rw [hV3]; exact (hq1.t 25 rfl).trans ((hu.t 25 rfl).trans (by rw [hV1]; rfl))
  have t98 : V3.2.2.1 99 8 = V.2.2.1 99 8 := by rw [hV3]; exact (hq1.a 99 8 rfl).trans ((hu.a 99 8 rfl).trans (by rw [hV1]; rfl))
  have t7 : V3.2.2.1 129 7 = V.2.2.1 129 7 := by rw [hV3]; exact (hq1.a 129 7 rfl).trans ((hu.a 129 7 rfl).trans (by rw [hV1]; rfl))
  have t145 : V3.2.2.2.2.1 145 = V.2.2.2.2.1 145 := by rw [hV3]; exact (hq1.l 145 rfl).trans ((hu.l 145 rfl).trans (by rw [hV1]; rfl))
  have t124 : V3.2.2.2.2.1 124 = V.2.2.2.2.1 124 := by rw [hV3]; exact (hq1.l 124 rfl).trans ((hu.l 124 rfl).trans (by rw [hV1]; rfl))
  have t22 : V3.2.1 129 22 = V.2.1 129 22 := by rw [hV3]; exact (hq1.i 129 22 rfl).trans ((hu.i 129 22 rfl).trans (by rw [hV1]; rfl))
  have r6 : ∀ j, (V3.2.2.1 129 6).2 j = if j = q then nI (id - fb) else (V.2.2.1 129 6).2 j := fun j => by
    rw [hV3]
    show (if j = q then nI (id - fb) else (W.2.2.1 129 6).2 j) = _
    by_cases e : j = q
    · rw [if_pos e, if_pos e]
    · rw [if_neg e, if_neg e, hq1.a 129 6 rfl, hu.a 129 6 rfl, hV1]
      exact if_neg e
  have r8 : ∀ j, (V3.2.2.1 129 8).2 j = if j = cl q then nI (id - fb) else (V.2.2.1 129 8).2 j := fun j => by
    rw [hV3]
    show (if j = cl q then nI (id - fb) else (W.2.2.1 129 8).2 j) = _
    rw [hq1.a 129 8 rfl, hu.a 129 8 rfl, hV1]
    rfl
  have hSV : SOK V3 N1 us' S' z' p' := by rw [hV3]; exact hS2.eq rfl rfl rfl rfl rfl rfl
  have hoid : ∀ r c, r < nf → c < pm (nm r) f P → oid r c < N := fun r c hr hc => ((h1.1.2 r hr).2.2.2 c hc).2.1
  have hrl2 := hRL
  obtain ⟨g1, g2, g3, g4, g5, g6, g7, g8, g9, g10, g11⟩ := hRL
  have hRL3 : RLUw V3 Y es P f N1 us' S' z' p' nf nm tm bs lv oid nw wa wn wi wk fre := by
    have e24 : V3.1 24 = V2.1 24 := by rw [hV3]; exact hq1.t 24 rfl
    have e4 : V3.2.2.1 129 4 = V2.2.2.1 129 4 := by rw [hV3]; exact hq1.a 129 4 rfl
    have e15 : V3.2.2.1 129 15 = V2.2.2.1 129 15 := by rw [hV3]; exact hq1.a 129 15 rfl
    have e99 : V3.2.1 99 9 = V2.2.1 99 9 := by rw [hV3]; exact hq1.i 99 9 rfl
    have e998 : V3.2.2.1 99 8 = V2.2.2.1 99 8 := by rw [hV3]; exact hq1.a 99 8 rfl
    have e23 : V3.2.1 129 23 = V2.2.1 129 23 := by rw [hV3]; exact hq1.i 129 23 rfl
    have e12 : (V3.2.2.1 129 12).1 = (V2.2.2.1 129 12).1 := by rw [hV3]; exact hq1.n 129 12 rfl
    have e10 : (V3.2.2.1 129 10).1 = (V2.2.2.1 129 10).1 := by rw [hV3]; exact hq1.n 129 10 rfl
    have et15 : V3.1 15 = V2.1 15 := by rw [hV3]; exact hq1.t 15 rfl
    have et25 : V3.1 25 = V2.1 25 := by rw [hV3]; exact hq1.t 25 rfl
    refine ⟨⟨by rw [e24, e4]; exact g1.1, fun r hr => ?_⟩, hSV, by rw [et15, et25]; exact g3, by unfold CHN at *; rw [e24, e15]; exact g4, by unfold VDF at *; rw [e99, e998]; exact g5, by rw [e23]; exact g6, g7, by rw [e12]; exact g8, by rw [e12]; exact g9, by rw [e10]; exact g10, by rw [e10]; exact g11⟩
    obtain ⟨v1, v2, v3, v4⟩ := g1.2 r hr
    rw [e24, e4]
    refine ⟨v1, v2, v3, fun c hc => ?_⟩
    obtain ⟨x1, x2, x3, x4⟩ := v4 c hc
    obtain ⟨y1, y2, y3⟩ := hold _ x2
    exact ⟨x1, by omega, y3.trans x3, by rw [y1]; exact x4⟩
  have hrm : ∀ s t, (RMN Y V3 P f od S' nf nm tm oid nw wa wn wi wk s t ↔ RMN Y V P f od S nf nm tm oid nw wa wn wi wk s t) := fun s t => by
    rw [RMN_same (S := S') t15 t98 t25]
    unfold RMN
    have hfc : FCT P f S' nm tm oid nf s t ↔ FCT P f S nm tm oid nf s t := by
      unfold FCT
      constructor
      · intro y r hr
        have y2 := y r hr
        rw [(hold _ (hoid r _ hr (ixz_lt (fun k hk => dgz_lt hf)))).1] at y2
        exact y2
      · intro y r hr
        rw [(hold _ (hoid r _ hr (ixz_lt (fun k hk => dgz_lt hf)))).1]
        exact y r hr
    rw [hfc]
  refine ⟨N1, us', S', z', p', hRL3, ⟨by rw [hV3]; exact m4.same rfl rfl rfl rfl, by omega, by omega, t22.trans k4, fun x y => k5 x (by rw [← (hold fb k2).1]; exact y)⟩, ⟨l1, by rw [t25]; exact l2⟩, ⟨by rw [t7]; exact c1, fun s s' hs hs' hc t ht => (hrm s t).trans ((c2 s s' hs hs' hc t ht).trans (hrm s' t).symm)⟩, ⟨by rw [t145]; exact a1, fun s t hs ht => (a2 s t hs ht).trans (and_congr_right (fun _ => (hrm s t).symm))⟩, fun s hs => ?_, fun c hc => ?_⟩
  · rw [r6, t124]
    by_cases e : s = q
    · rw [if_pos e, e, upv_eq, show fb + (id - fb) = id by omega]
      refine ⟨rfl, hid, fun x => ?_⟩
      rw [hSi, hls x]
      refine and_congr_right (fun hx => ?_)
      have l2' : ∀ r, r < nw → ∀ pl, pl < P → (V1.1 25).2 r 3 = nI pl → pl < fre := by rw [hV1]; exact l2
      rw [goe_rmn hP hfre l1 l2', hV1]
      show bts (V.2.2.2.2.1 124) x = true ∧ RMN Y (upA V 129 6 q (-1 : Int32)) P f od S nf nm tm oid nw wa wn wi wk q x ↔ _
      rw [RMN_same (V := upA V 129 6 q (-1 : Int32)) (U := V) rfl rfl rfl, a2 q x hq hx]
      exact and_congr_right (fun _ => ⟨fun y => ⟨hal, y⟩, fun y => y.2⟩)
    · rw [if_neg e, upv_ne (by omega)]
      obtain ⟨y1, y2, y3⟩ := h6 s (by omega)
      exact ⟨y1, by omega, fun x => by rw [(hold _ y2).1]; exact y3 x⟩
  · rw [r8]
    by_cases e : c = cl q
    · rw [if_pos e]
      exact Or.inr ⟨q, by omega, hal, e.symm, by rw [upv_eq]⟩
    · rw [if_neg e]
      rcases h7 c hc with y | ⟨s', y1, y2, y3, y4⟩
      · exact Or.inl y
      · exact Or.inr ⟨s', by omega, y2, y3, by rw [upv_ne y1]; exact y4⟩
end RowsOf
