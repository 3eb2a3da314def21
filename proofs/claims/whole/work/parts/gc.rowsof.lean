/-! RELATION: rows, one for each class of STATES -/
/-- rows are found for the first q STATES -/
def RDX (V : Ud) (m : Nat) (od : Nat → Nat) (Y : Ts) (es : Nat → Int32) (P : Nat) (f : Nat → Nat) (fb q : Nat) (G : Nat → Nat → Prop) (N us : Nat) (S : Nat → Nat → Bool) (z : Nat → Nat) (p : Nat → Bool) (nf : Nat) (nm tm : Nat → Int32) (bs lv lc : Nat → Nat) (oid : Nat → Nat → Nat) (nw : Nat) (wa wn wi : Nat → Nat) (wk : Nat → Bool) (nb : Nat) (bo : Nat → Nat → Nat) (cl : Nat → Nat) (al : Nat → Prop) (ro : Nat → Nat) : Prop :=
  (RSX V m od Y es P f N us S z p nf nm tm bs lv lc oid nw wa wn wi wk nb bo ∧ ∀ r, r < nf → lc r = lcz tm lv P r) ∧
  (FRK V N fb ∧ fb < N ∧ N ≤ fb + q + 1 ∧ V.2.1 113 8 = nI fb ∧ ∀ x, ¬ S fb x = true) ∧
  ((pd f 0 P ≤ (V.2.2.1 129 6).1 ∧ (V.2.2.1 129 6).1 ≤ 16777216) ∧ (pd f 0 P ≤ (V.2.2.1 129 7).1 ∧ (V.2.2.1 129 7).1 ≤ 16777216) ∧ pd f 0 P + 1 ≤ (V.2.2.1 129 8).1 ∧ (V.2.2.1 129 8).1 ≤ 16777216) ∧
  ((∀ t, t < pd f 0 P → (V.2.2.1 129 7).2 t = nI (cl t) ∧ cl t ≤ pd f 0 P) ∧ ∀ s s', s < pd f 0 P → s' < pd f 0 P → cl s = cl s' → ∀ t, t < pd f 0 P → (MNB Y V P f od S nf nm tm oid nw wa wn wi wk nb bo s t ↔ MNB Y V P f od S nf nm tm oid nw wa wn wi wk nb bo s' t)) ∧
  (BTS (V.2.2.2.2.1 145) (pd f 0 P) al ∧ ∀ s t, s < pd f 0 P → t < pd f 0 P → (G s t ↔ al s ∧ MNB Y V P f od S nf nm tm oid nw wa wn wi wk nb bo s t)) ∧
  (∀ s, s < q → (V.2.2.1 129 6).2 s = nI (ro s) ∧ fb + ro s < N ∧ ∀ x, S (fb + ro s) x = true ↔ x < pd f 0 P ∧ bts (V.2.2.2.2.1 124) x = true ∧ G s x) ∧
  (∀ c, c ≤ pd f 0 P → (V.2.2.1 129 8).2 c = -1 ∨ ∃ s', s' < q ∧ al s' ∧ cl s' = c ∧ (V.2.2.1 129 8).2 c = nI (ro s')) ∧
  (p fb = true ∧ (∀ s, s < q → ¬ al s → ro s = 0) ∧ ∀ r, ¬ r = 0 → fb + r < N → ∃ s, s < q ∧ ro s = r)
section RowsOf
variable {U V V1 V2 V3 W : Ud} {m P N us nf nw nb s t q fb n id c k N' us' : Nat} {Y : Ts} {es : Nat → Int32} {f od wa wn wi z bs lv lc cl ro ls z' : Nat → Nat} {nm tm : Nat → Int32} {bo oid : Nat → Nat → Nat} {S S' : Nat → Nat → Bool} {p p' : Nat → Bool} {wk : Nat → Bool} {G : Nat → Nat → Prop} {al : Nat → Prop} {F : Uf}
theorem mnb_to (hF : FAC U P f nf nm tm bs lv oid N S p) (hf : ∀ k, 1 ≤ f k) (hB0 : BOK nb bo 0 nf) (hold : ∀ j, j < N → S' j = S j) (e25 : V.1 25 = U.1 25) (e15 : V.1 15 = U.1 15) (e98 : V.2.2.1 99 8 = U.2.2.1 99 8) : MNB Y V P f od S' nf nm tm oid nw wa wn wi wk nb bo s t ↔ MNB Y U P f od S nf nm tm oid nw wa wn wi wk nb bo s t := by
  have hfl : ∀ b r, BIN nb b → fin nb bo b 0 nf r → (FLV P f S' nm tm oid r s t ↔ FLV P f S nm tm oid r s t) := fun b r hb hr => by
    have hrn := fin_lt hb hB0 hr
    unfold FLV
    rw [hold _ ((hF.2 r hrn).2.2.2 _ (ixz_lt (fun k _ => dgz_lt hf))).2.1]
  constructor
  · rintro ⟨b, hb, y1, y2⟩
    exact ⟨b, hb, fun r hr => (hfl b r hb hr).mp (y1 r hr), fun r hr => (wlv_eq e25 e15 e98).mp (y2 r hr)⟩
  · rintro ⟨b, hb, y1, y2⟩
    exact ⟨b, hb, fun r hr => (hfl b r hb hr).mpr (y1 r hr), fun r hr => (wlv_eq e25 e15 e98).mpr (y2 r hr)⟩
theorem RSX.fr (h : RSX U m od Y es P f N us S z p nf nm tm bs lv lc oid nw wa wn wi wk nb bo) (hq : uq F U V) (hk : kok F = true) (hs : sokf F = true) (hR : RLUx V Y es P f N' us' S' z' p' nf nm tm bs lv lc oid nw wa wn wi wk nb bo) : RSX V m od Y es P f N' us' S' z' p' nf nm tm bs lv lc oid nw wa wn wi wk nb bo := by
  obtain ⟨h1, h2, h3, h4, ⟨bf, bt, h6⟩, -⟩ := h
  obtain ⟨⟨e15, e21, e22⟩, ⟨i4, i5, i6, i7, i17, i9, i19, i20⟩, ⟨a3, a8, a98⟩, ⟨n12, n13, n15, n10⟩, l146⟩ := sok_eq hq hs
  refine ⟨h1.q hq hk, ?_, h3.imp (fun y => by rw [e21]; exact y) (fun ⟨a0, N0, i0, y1, y2, y3⟩ => ⟨a0, N0, i0, y1, y2, y3.keep e21 e22 e15 a3 i5 i7 i17 i4 a8 n12 n13 n15 a98⟩), h4.same e21 i6 e15 i4, ⟨bf, bt, BZ_keep h6 i19 i20 l146⟩, hR⟩
  unfold MCS at h2 ⊢
  rw [e22, a3, a8, n12, n13, n15]
  exact h2
def F6x : Uf := ⟨[], [], [(129, 6)], [], [], false⟩
def F68x : Uf := ⟨[], [(113, 1), (113, 2)], [(113, 3), (113, 4), (129, 6), (129, 8)], [(113, 3)], [117], true⟩
/-- a row that is there, or none -/
theorem RDX.found {r : Nat} (h : RDX V m od Y es P f fb q G N us S z p nf nm tm bs lv lc oid nw wa wn wi wk nb bo cl al ro) (h0 : ¬ al q → r = 0) (hr : fb + r < N) (hR : ∀ x, S (fb + r) x = true ↔ x < pd f 0 P ∧ bts (V.2.2.2.2.1 124) x = true ∧ G q x) : RDX (upA V 129 6 q (nI r)) m od Y es P f fb (q + 1) G N us S z p nf nm tm bs lv lc oid nw wa wn wi wk nb bo cl al (upv ro q r) := by
  obtain ⟨⟨h1, hlc⟩, ⟨k1, k2, k3, k4, k5⟩, h3, ⟨c1, c2⟩, ⟨a1, a2⟩, h6, h7, h8⟩ := h
  have hrm : ∀ s t, (MNB Y (upA V 129 6 q (nI r)) P f od S nf nm tm oid nw wa wn wi wk nb bo s t ↔ MNB Y V P f od S nf nm tm oid nw wa wn wi wk nb bo s t) := fun s t => mnb_to (U := V) h1.2.2.2.2.2.1 h1.1.2.1 h1.2.2.2.2.2.2.2.2.2.2.1.2.1 (fun _ _ => rfl) rfl rfl rfl
  refine ⟨⟨h1.fr (F := F6x) ((uq.refl F6x V).A rfl) rfl rfl ?_, hlc⟩, ⟨k1.same rfl rfl rfl rfl, k2, by omega, k4, k5⟩, h3, ⟨c1, fun s s' hs hs' hc t ht => (hrm s t).trans ((c2 s s' hs hs' hc t ht).trans (hrm s' t).symm)⟩, ⟨a1, fun s t hs ht => (a2 s t hs ht).trans (and_congr_right (fun _ => (hrm s t).symm))⟩, fun s hs => ?_, fun c hc => ?_, h8.1, fun s hs ha => ?_, fun r' e1 e2 => ?_⟩
  · obtain ⟨g1, g2, g3⟩ := h1.2.2.2.2.2
    exact ⟨g1, g2.eq rfl rfl rfl rfl rfl rfl, g3⟩
  · show (if s = q then nI r else (V.2.2.1 129 6).2 s) = nI (upv ro q r s) ∧ fb + upv ro q r s < N ∧ ∀ x, S (fb + upv ro q r s) x = true ↔ x < pd f 0 P ∧ bts (V.2.2.2.2.1 124) x = true ∧ G s x
    by_cases e : s = q
    · rw [if_pos e, e, upv_eq]
      exact ⟨rfl, hr, hR⟩
    · rw [if_neg e, upv_ne (by omega)]
      exact h6 s (by omega)
  · rcases h7 c hc with y | ⟨s', y1, y2, y3, y4⟩
    · exact Or.inl y
    · exact Or.inr ⟨s', by omega, y2, y3, by rw [upv_ne y1]; exact y4⟩
  · by_cases e : s = q
    · rw [e, upv_eq]; exact h0 (by rw [← e]; exact ha)
    · rw [upv_ne (by omega)]; exact h8.2.1 s (by omega) ha
  · obtain ⟨s, s1, s2⟩ := h8.2.2 r' e1 e2
    exact ⟨s, by omega, by rw [upv_ne s1]; exact s2⟩
/-- a STATE that is not alive -/
theorem RDX.dead (h : RDX V m od Y es P f fb q G N us S z p nf nm tm bs lv lc oid nw wa wn wi wk nb bo cl al ro) (hq : q < pd f 0 P) (hal : ¬ al q) : RDX (upA V 129 6 q (0 : Int32)) m od Y es P f fb (q + 1) G N us S z p nf nm tm bs lv lc oid nw wa wn wi wk nb bo cl al (upv ro q 0) :=
  RDX.found (r := 0) h (fun _ => rfl) h.2.1.2.1 (fun x => ⟨fun y => absurd y (h.2.1.2.2.2.2 x), fun y => absurd ((h.2.2.2.2.1.2 q x hq y.1).mp y.2.2).1 hal⟩)
/-- a STATE whose class has a row -/
theorem RDX.known {s' : Nat} (h : RDX V m od Y es P f fb q G N us S z p nf nm tm bs lv lc oid nw wa wn wi wk nb bo cl al ro) (hq : q < pd f 0 P) (hal : al q) (hs' : s' < q) (hal' : al s') (hc : cl s' = cl q) : RDX (upA V 129 6 q (nI (ro s'))) m od Y es P f fb (q + 1) G N us S z p nf nm tm bs lv lc oid nw wa wn wi wk nb bo cl al (upv ro q (ro s')) := by
  have y := h.2.2.2.2.2.1 s' hs'
  refine RDX.found (r := ro s') h (fun w => absurd hal w) y.2.1 (fun x => (y.2.2 x).trans (and_congr_right (fun hx => and_congr_right (fun _ => ?_))))
  rw [h.2.2.2.2.1.2 s' x (by omega) hx, h.2.2.2.2.1.2 q x hq hx, h.2.2.2.1.2 s' q (by omega) hq hc x hx]
  exact ⟨fun w => ⟨hal, w.2⟩, fun w => ⟨hal', w.2⟩⟩

/-- a row is made and kept -/
theorem RDX.made (h : RDX V m od Y es P f fb q G N us S z p nf nm tm bs lv lc oid nw wa wn wi wk nb bo cl al ro) (hq : q < pd f 0 P) (hal : al q) (hV1 : V1 = upA V 129 6 q (-1 : Int32)) (hu : uq F378 V1 V2) (hRL : RSX V2 m od Y es P f N us S z p nf nm tm bs lv lc oid nw wa wn wi wk nb bo) (hls : ∀ x, lmz ls n x = true ↔ x < pd f 0 P ∧ ∃ c, BIN nb c ∧ GOEb Y V1 P f od S nf nm tm lv lc oid nw wa wn wi wk nb bo q c x) (hA : ADD V2 W N us S z p ls n id) (hfi : fb ≤ id) (hN1 : ∃ N1, W.2.1 113 2 = nI N1 ∧ (N ≤ N1 ∧ N1 ≤ N + 1) ∧ FRK W N1 fb) (hV3 : V3 = upA (upA W 129 6 q (nI (id - fb))) 129 8 (cl q) (nI (id - fb))) : ∃ N' us' S' z' p', (∀ j, j < N → S' j = S j ∧ p' j = p j) ∧ RDX V3 m od Y es P f fb (q + 1) G N' us' S' z' p' nf nm tm bs lv lc oid nw wa wn wi wk nb bo cl al (upv ro q (id - fb)) := by
  obtain ⟨⟨h1, hlc⟩, ⟨k1, k2, k3, k4, k5⟩, ⟨l6, l7, l8⟩, ⟨c1, c2⟩, ⟨a1, a2⟩, h6, h7, h8⟩ := h
  obtain ⟨hq1, ho1, N', us', S', z', p', ln, hS2, hid, ⟨b1, b2⟩, hold, ⟨hSi, hzi⟩, ⟨u1, u2⟩, ⟨w1, w2⟩, hpi⟩ := hA
  obtain ⟨N1, m1, ⟨m2, m3⟩, m4⟩ := hN1
  have hNb := hS2.1.2.2.2
  have hNb0 := h1.2.2.2.2.2.2.1.1.2.2.2
  have eN : N1 = N' := nI_inj (by omega) (by omega) (m1.symm.trans hS2.1.2.2.1)
  subst eN
  have hf := h1.1.2.1
  have t15 : V3.1 15 = V.1 15 := by rw [hV3]; exact (hq1.t 15 rfl).trans ((hu.t 15 rfl).trans (by rw [hV1]; rfl))
  have t25 : V3.1 25 = V.1 25 := by rw [hV3]; exact (hq1.t 25 rfl).trans ((hu.t 25 rfl).trans (by rw [hV1]; rfl))
  have t98 : V3.2.2.1 99 8 = V.2.2.1 99 8 := by rw [hV3]; exact (hq1.a 99 8 rfl).trans ((hu.a 99 8 rfl).trans (by rw [hV1]; rfl))
  have t7 : V3.2.2.1 129 7 = V.2.2.1 129 7 := by rw [hV3]; exact (hq1.a 129 7 rfl).trans ((hu.a 129 7 rfl).trans (by rw [hV1]; rfl))
  have n6 : (V3.2.2.1 129 6).1 = (V.2.2.1 129 6).1 := by rw [hV3]; exact (hq1.n 129 6 rfl).trans ((hu.n 129 6 rfl).trans (by rw [hV1]; rfl))
  have n8 : (V3.2.2.1 129 8).1 = (V.2.2.1 129 8).1 := by rw [hV3]; exact (hq1.n 129 8 rfl).trans ((hu.n 129 8 rfl).trans (by rw [hV1]; rfl))
  have t145 : V3.2.2.2.2.1 145 = V.2.2.2.2.1 145 := by rw [hV3]; exact (hq1.l 145 rfl).trans ((hu.l 145 rfl).trans (by rw [hV1]; rfl))
  have t124 : V3.2.2.2.2.1 124 = V.2.2.2.2.1 124 := by rw [hV3]; exact (hq1.l 124 rfl).trans ((hu.l 124 rfl).trans (by rw [hV1]; rfl))
  have t22 : V3.2.1 113 8 = V.2.1 113 8 := by rw [hV3]; exact (hq1.i 113 8 rfl).trans ((hu.i 113 8 rfl).trans (by rw [hV1]; rfl))
  have r6 : ∀ j, (V3.2.2.1 129 6).2 j = if j = q then nI (id - fb) else (V.2.2.1 129 6).2 j := fun j => by
    rw [hV3]
    show (if j = q then nI (id - fb) else (W.2.2.1 129 6).2 j) = _
    by_cases e : j = q
    · rw [if_pos e, if_pos e]
    · rw [if_neg e, if_neg e, hq1.a 129 6 rfl, hu.a 129 6 rfl, hV1]
      exact if_neg e
  have r8 : ∀ j, (V3.2.2.1 129 8).2 j = if j = cl q then nI (id - fb) else (V.2.2.1 129 8).2 j := fun j => by
    rw [hV3]
    show (if j = cl q then nI (id - fb) else (W.2.2.1 129 8).2 j) = _
    rw [hq1.a 129 8 rfl, hu.a 129 8 rfl, hV1]
    rfl
  have hSV : SOK V3 N1 us' S' z' p' := by rw [hV3]; exact hS2.eq rfl rfl rfl rfl rfl rfl
  have z3 : uq F68x V2 V3 := by
    rw [hV3]
    exact ((((uq.refl F68x V2).tr hq1 rfl).A rfl).A rfl)
  obtain ⟨-, -, -, -, -, g1, g2, g3, g4, g5, ⟨g6, g6b, g6c⟩, g7, g8, g9, g10, g11⟩ := _root_.id hRL
  have hRL3 : RLUx V3 Y es P f N1 us' S' z' p' nf nm tm bs lv lc oid nw wa wn wi wk nb bo := by
    refine ⟨⟨by rw [z3.t 24 rfl, z3.a 129 4 rfl]; exact g1.1, fun r hr => ?_⟩, hSV, by rw [z3.t 15 rfl, z3.t 25 rfl]; exact g3, by unfold CHN at *; rw [z3.t 24 rfl, z3.a 129 15 rfl]; exact g4, vdf_same g5 (z3.i 99 9 rfl) (z3.a 99 8 rfl), ⟨by unfold BRT at *; rw [z3.t 27 rfl]; exact g6, g6b, g6c⟩, g7, by rw [z3.n 129 12 rfl]; exact g8, by rw [z3.n 129 12 rfl]; exact g9, by rw [z3.n 129 10 rfl]; exact g10, by rw [z3.n 129 10 rfl]; exact g11⟩
    obtain ⟨v1, v2, v3, v4⟩ := g1.2 r hr
    rw [z3.t 24 rfl, z3.a 129 4 rfl]
    refine ⟨v1, v2, v3, fun c hc => ?_⟩
    obtain ⟨x1, x2, x3, x4⟩ := v4 c hc
    obtain ⟨y1, y2, y3⟩ := hold _ x2
    exact ⟨x1, by omega, y3.trans x3, by rw [y1]; exact x4⟩
  have hrm : ∀ s t, (MNB Y V3 P f od S' nf nm tm oid nw wa wn wi wk nb bo s t ↔ MNB Y V P f od S nf nm tm oid nw wa wn wi wk nb bo s t) := fun s t => mnb_to (U := V) h1.2.2.2.2.2.1 hf h1.2.2.2.2.2.2.2.2.2.2.1.2.1 (fun j hj => (hold j hj).1) t25 t15 t98
  refine ⟨N1, us', S', z', p', fun j hj => ⟨(hold j hj).1, (hold j hj).2.2⟩, ⟨hRL.fr z3 rfl rfl hRL3, hlc⟩, ⟨by rw [hV3]; exact m4.same rfl rfl rfl rfl, by omega, by omega, t22.trans k4, fun x y => k5 x (by rw [← (hold fb k2).1]; exact y)⟩, ⟨by rw [n6]; exact l6, by rw [t7]; exact l7, by rw [n8]; exact l8⟩, ⟨by rw [t7]; exact c1, fun s s' hs hs' hc t ht => (hrm s t).trans ((c2 s s' hs hs' hc t ht).trans (hrm s' t).symm)⟩, ⟨by rw [t145]; exact a1, fun s t hs ht => (a2 s t hs ht).trans (and_congr_right (fun _ => (hrm s t).symm))⟩, fun s hs => ?_, fun c hc => ?_, (hold fb k2).2.2.trans h8.1, fun s hs ha => ?_, fun r' e1 e2 => ?_⟩
  · rw [r6, t124]
    by_cases e : s = q
    · rw [if_pos e, e, upv_eq, show fb + (id - fb) = id by omega]
      refine ⟨rfl, hid, fun x => ?_⟩
      rw [hSi, hls x]
      refine and_congr_right (fun hx => ?_)
      have hK1 : KNV m V1 Y P f od es := by rw [hV1]; exact h1.1.q (F := F6x) ((uq.refl F6x V).A rfl) rfl
      have hF1 : FAC V1 P f nf nm tm bs lv oid N S p := by rw [hV1]; exact h1.2.2.2.2.2.1
      have hW1 : WIDw Y es P (V1.1 15) (V1.1 25) nw wa wn wi wk := by rw [hV1]; exact h1.2.2.2.2.2.2.2.1
      rw [goe_mnb hK1 hF1 hlc hW1 h1.2.2.2.2.2.2.2.2.2.2.1.2.1 h1.2.2.2.2.2.2.2.2.2.2.1.2.2 hq, hV1]
      show bts (V.2.2.2.2.1 124) x = true ∧ MNB Y (upA V 129 6 q (-1 : Int32)) P f od S nf nm tm oid nw wa wn wi wk nb bo q x ↔ _
      rw [mnb_to (U := V) (V := upA V 129 6 q (-1 : Int32)) h1.2.2.2.2.2.1 hf h1.2.2.2.2.2.2.2.2.2.2.1.2.1 (fun _ _ => rfl) rfl rfl rfl, a2 q x hq hx]
      exact and_congr_right (fun _ => ⟨fun y => ⟨hal, y⟩, fun y => y.2⟩)
    · rw [if_neg e, upv_ne (by omega)]
      obtain ⟨y1, y2, y3⟩ := h6 s (by omega)
      exact ⟨y1, by omega, fun x => by rw [(hold _ y2).1]; exact y3 x⟩
  · rw [r8]
    by_cases e : c = cl q
    · rw [if_pos e]
      exact Or.inr ⟨q, by omega, hal, e.symm, by rw [upv_eq]⟩
    · rw [if_neg e]
      rcases h7 c hc with y | ⟨s', y1, y2, y3, y4⟩
      · exact Or.inl y
      · exact Or.inr ⟨s', by omega, y2, y3, by rw [upv_ne y1]; exact y4⟩
  · by_cases e : s = q
    · rw [e] at ha; exact absurd hal ha
    · rw [upv_ne (by omega)]; exact h8.2.1 s (by omega) ha
  · by_cases e : fb + r' < N
    · obtain ⟨s, s1, s2⟩ := h8.2.2 r' e1 e
      exact ⟨s, by omega, by rw [upv_ne s1]; exact s2⟩
    · exact ⟨q, by omega, by rw [upv_eq]; omega⟩
end RowsOf
