/-! THE RELATION WHILE IT IS MADE: its rows, its store, what each branch leaves -/
/-- all rows that count for a branch leave a step; b = 0: what is common to all; br: a row that is left out -/
def LVB (Y : Ts) (U : Ud) (P : Nat) (f od : Nat → Nat) (S : Nat → Nat → Bool) (nf : Nat) (nm tm : Nat → Int32) (oid : Nat → Nat → Nat) (nw : Nat) (wa wn wi : Nat → Nat) (wk : Nat → Bool) (nb : Nat) (bo : Nat → Nat → Nat) (br : Option Nat) (b s t : Nat) : Prop := (∀ r, fin nb bo b 0 nf r → FLV P f S nm tm oid r s t) ∧ ∀ r, fin nb bo b 1 nw r → ¬ br = some r → WLV Y U P f od wa wn wi wk r s t
def RST (V : Ud) (Y : Ts) (es : Nat → Int32) (P : Nat) (f : Nat → Nat) (N0 : Nat) (O0 : Nat → (Nat → Bool) × Bool) (sf : Nat) (nb : Nat) (bo : Nat → Nat → Nat) (br : Option Nat) (ba bn bi : Nat) (N us : Nat) (S : Nat → Nat → Bool) (z : Nat → Nat) (p : Nat → Bool) (nf : Nat) (nm tm : Nat → Int32) (bs lv : Nat → Nat) (oid : Nat → Nat → Nat) (nw : Nat) (wa wn wi : Nat → Nat) (wk : Nat → Bool) (ou : Nat) : Prop :=
  (FAC V P f nf nm tm bs lv oid N S p ∧ SOK V N us S z p ∧ WIDw Y es P (V.1 15) (V.1 25) nw wa wn wi wk) ∧
  (BRT V nb bo ∧ BOK nb bo 0 nf ∧ BOK nb bo 1 nw ∧ bo 0 0 = 0) ∧
  ((∀ r, r < nf → bs r + pm (nm r) f P ≤ ou) ∧ (∀ r q, r < q → q < nf → bs r + pm (nm r) f P ≤ bs q)) ∧
  (∀ q q', bo (nb - 1) 0 ≤ q → q < nf → bo (nb - 1) 0 ≤ q' → q' < nf → nm q = nm q' → tm q = tm q' → q = q') ∧
  (V.2.1 129 5 = nI ou ∧ ou ≤ (V.2.2.1 129 4).1 ∧ OLN (V.2.2.1 129 4).1 ∧ ou ≤ 32768) ∧
  (V.2.1 113 7 = nI sf ∧ sf ≤ us ∧ us + 256 * (sf / 8192) ≤ sf + 256 * (us / 8192) + 65536 ∧ N + sf ≤ N0 + us ∧ N0 ≤ N ∧ ∀ j, j < N0 → (S j, p j) = O0 j) ∧
  (∀ q, br = some q → (1 < nb ∧ q < bo 1 1) ∧ wa q = ba ∧ wn q = bn ∧ wi q = bi ∧ (V.1 25).2 q 3 = -1 ∧ (V.1 25).2 q 4 = 1)
section Made
variable {O0 : Nat → (Nat → Bool) × Bool} {U V V0 : Ud} {m P N0 sf nb ba bn bi N us nf nw ou b c tot s t a n i qk spn l : Nat} {Y : Ts} {f od bs lv wa wn wi z : Nat → Nat} {wk : Nat → Bool} {bb : Bool} {es : Nat → Int32} {nm tm : Nat → Int32} {mk tk x3 x4 : Int32} {bo oid : Nat → Nat → Nat} {oi : Nat → Nat} {S S' : Nat → Nat → Bool} {p : Nat → Bool} {Q : Nat → Nat → Prop} {br : Option Nat} {F : Uf}
theorem BOK.rise (h : BOK nb bo c tot) : ∀ k b, 1 ≤ b → b + k < nb → bo b c ≤ bo (b + k) c
  | 0, b, _, _ => Nat.le_refl _
  | k + 1, b, h1, h2 => by
    have y := BOK.rise h k b h1 (by omega)
    have y2 := (h.2 (b + k) (by omega) (by omega)).2.1
    unfold enz at y2
    rw [if_pos (by omega)] at y2
    exact Nat.le_trans y y2
theorem fin_lt2 {q : Nat} (hb : b < nb) (h : BOK nb bo c tot) (hq : fin nb bo b c tot q) : q < tot := by
  unfold fin cmz at hq
  by_cases h1 : 1 < nb
  · rw [if_pos h1] at hq
    rcases hq with y | ⟨y1, y2, y3⟩
    · have := h.2 1 (Nat.le_refl _) h1
      omega
    · have := h.2 b y1 hb
      omega
  · rw [if_neg h1] at hq
    rcases hq with y | ⟨y1, y2, y3⟩
    · exact y
    · omega
theorem fin_more2 {q : Nat} (hb : b < nb) (h : BOK nb bo c tot) : fin nb bo b c (tot + 1) q ↔ fin nb bo b c tot q ∨ (q = tot ∧ b + 1 = nb) := by
  by_cases hB : BIN nb b
  · exact fin_more hB h
  · have h0 : b = 0 ∧ 1 < nb := by
      unfold BIN at hB
      omega
    unfold fin cmz
    rw [if_pos h0.2, if_pos h0.2, h0.1]
    omega
theorem fin_last {q : Nat} (hb : b < nb) (h : BOK nb bo c tot) (h1 : bo (nb - 1) c ≤ q) (h2 : q < tot) (h0 : nb = 1 → bo 0 c = 0) : fin nb bo b c tot q ↔ b + 1 = nb := by
  unfold fin cmz
  by_cases hn : 1 < nb
  · rw [if_pos hn]
    have r1 := BOK.rise h (nb - 1 - 1) 1 (Nat.le_refl _) (by omega)
    rw [show 1 + (nb - 1 - 1) = nb - 1 by omega] at r1
    constructor
    · rintro (y | ⟨y1, y2, y3⟩)
      · omega
      · apply Decidable.byContradiction
        intro hne
        have r2 := BOK.rise h (nb - 1 - (b + 1)) (b + 1) (by omega) (by omega)
        rw [show b + 1 + (nb - 1 - (b + 1)) = nb - 1 by omega] at r2
        unfold enz at y3
        rw [if_pos (by omega)] at y3
        omega
    · intro e
      refine Or.inr ⟨by omega, ?_, ?_⟩
      · rw [show b = nb - 1 by omega]
        exact h1
      · unfold enz
        rw [if_neg (by omega)]
        exact h2
  · rw [if_neg hn]
    constructor
    · intro _
      omega
    · intro _
      exact Or.inl h2
theorem wlv_eq {r : Nat} (h25 : V.1 25 = U.1 25) (h15 : V.1 15 = U.1 15) (h98 : V.2.2.1 99 8 = U.2.2.1 99 8) : WLV Y V P f od wa wn wi wk r s t ↔ WLV Y U P f od wa wn wi wk r s t := by
  unfold WLV
  rw [h25, h98, trs_same h15 h98]
  unfold CHSw
  rw [vst_same h15 h98]
theorem LVB.eq (h25 : V.1 25 = U.1 25) (h15 : V.1 15 = U.1 15) (h98 : V.2.2.1 99 8 = U.2.2.1 99 8) : LVB Y V P f od S nf nm tm oid nw wa wn wi wk nb bo br b s t ↔ LVB Y U P f od S nf nm tm oid nw wa wn wi wk nb bo br b s t :=
  and_congr Iff.rfl (forall_congr' (fun _ => imp_congr Iff.rfl (imp_congr Iff.rfl (wlv_eq h25 h15 h98))))

theorem RST.fms (h : RST U Y es P f N0 O0 sf nb bo br ba bn bi N us S z p nf nm tm bs lv oid nw wa wn wi wk ou) : FMS U nf nm tm nb bo := by
  obtain ⟨⟨hF, -⟩, ⟨hB, hB0, -, h00⟩, -⟩ := h
  refine ⟨⟨hF.1.1, hF.1.2.1⟩, fun q hq => ⟨(hF.2 q hq).1.1, (hF.2 q hq).1.2.1⟩, hB, ?_⟩
  by_cases hn : 1 < nb
  · have y := hB0.2 (nb - 1) (by omega) (by omega)
    unfold enz at y
    rw [if_neg (by omega)] at y
    exact y.2.1
  · rw [show nb - 1 = 0 by omega, h00]
    exact Nat.zero_le _
theorem RST.eq (h : RST U Y es P f N0 O0 sf nb bo br ba bn bi N us S z p nf nm tm bs lv oid nw wa wn wi wk ou) (e15 : V.1 15 = U.1 15) (e24 : V.1 24 = U.1 24) (e25 : V.1 25 = U.1 25) (e27 : V.1 27 = U.1 27) (i5 : V.2.1 129 5 = U.2.1 129 5) (j1 : V.2.1 113 1 = U.2.1 113 1) (j2 : V.2.1 113 2 = U.2.1 113 2) (j5 : V.2.1 113 5 = U.2.1 113 5) (j7 : V.2.1 113 7 = U.2.1 113 7) (a4 : V.2.2.1 129 4 = U.2.2.1 129 4) (a3 : V.2.2.1 113 3 = U.2.2.1 113 3) (a13 : V.2.2.1 113 4 = U.2.2.1 113 4) (ep : V.2.2.2.2.2 114 = U.2.2.2.2.2 114) : RST V Y es P f N0 O0 sf nb bo br ba bn bi N us S z p nf nm tm bs lv oid nw wa wn wi wk ou := by
  obtain ⟨⟨hF, hSO, hW⟩, ⟨hB, hr1⟩, hr2, hr3, hr4, hr5, hr6⟩ := h
  refine ⟨⟨by unfold FAC at hF ⊢; rw [e24, a4]; exact hF, hSO.eq j1 j2 j5 a3 a13 ep, by rw [e15, e25]; exact hW⟩, ⟨by unfold BRT at hB ⊢; rw [e27]; exact hB, hr1⟩, hr2, hr3, by rw [i5, a4]; exact hr4, by rw [j7]; exact hr5, by rw [e25]; exact hr6⟩
/-- frames that keep it -/
def rok (F : Uf) : Bool := !in1 F.t 15 && (!in1 F.t 24 && (!in1 F.t 25 && (!in1 F.t 27 && (!in2 F.i 129 5 && (!in2 F.i 113 1 && (!in2 F.i 113 2 && (!in2 F.i 113 5 && (!in2 F.i 113 7 && (!in2 F.a 129 4 && (!in2 F.a 113 3 && (!in2 F.a 113 4 && (!in2 F.a 99 8 && !F.p))))))))))))
theorem rok_eq (hq : uq F U V) (hF : rok F = true) : (V.1 15 = U.1 15 ∧ V.1 24 = U.1 24 ∧ V.1 25 = U.1 25 ∧ V.1 27 = U.1 27) ∧ (V.2.1 129 5 = U.2.1 129 5 ∧ V.2.1 113 1 = U.2.1 113 1 ∧ V.2.1 113 2 = U.2.1 113 2 ∧ V.2.1 113 5 = U.2.1 113 5 ∧ V.2.1 113 7 = U.2.1 113 7) ∧ (V.2.2.1 129 4 = U.2.2.1 129 4 ∧ V.2.2.1 113 3 = U.2.2.1 113 3 ∧ V.2.2.1 113 4 = U.2.2.1 113 4 ∧ V.2.2.1 99 8 = U.2.2.1 99 8) ∧ V.2.2.2.2.2 114 = U.2.2.2.2.2 114 := by
  unfold rok at hF
  obtain ⟨b1, hF⟩ := kok_b hF
  obtain ⟨b2, hF⟩ := kok_b hF
  obtain ⟨b3, hF⟩ := kok_b hF
  obtain ⟨b4, hF⟩ := kok_b hF
  obtain ⟨b5, hF⟩ := kok_b hF
  obtain ⟨b6, hF⟩ := kok_b hF
  obtain ⟨b7, hF⟩ := kok_b hF
  obtain ⟨b8, hF⟩ := kok_b hF
  obtain ⟨b9, hF⟩ := kok_b hF
  obtain ⟨b10, hF⟩ := kok_b hF
  obtain ⟨b11, hF⟩ := kok_b hF
  obtain ⟨b12, hF⟩ := kok_b hF
  obtain ⟨b13, hF⟩ := kok_b hF
  have b14 : F.p = false := by
    cases e : F.p
    · rfl
    · rw [e] at hF
      cases hF
  exact ⟨⟨hq.t 15 b1, hq.t 24 b2, hq.t 25 b3, hq.t 27 b4⟩, ⟨hq.i 129 5 b5, hq.i 113 1 b6, hq.i 113 2 b7, hq.i 113 5 b8, hq.i 113 7 b9⟩, ⟨hq.a 129 4 b10, hq.a 113 3 b11, hq.a 113 4 b12, hq.a 99 8 b13⟩, congrFun (hq.2.2.2.2.2 b14) 114⟩
theorem RST.q (h : RST U Y es P f N0 O0 sf nb bo br ba bn bi N us S z p nf nm tm bs lv oid nw wa wn wi wk ou) (hq : uq F U V) (hF : rok F = true) : RST V Y es P f N0 O0 sf nb bo br ba bn bi N us S z p nf nm tm bs lv oid nw wa wn wi wk ou := by
  obtain ⟨⟨e15, e24, e25, e27⟩, ⟨i5, j1, j2, j5, j7⟩, ⟨a4, a3, a13, a8⟩, ep⟩ := rok_eq hq hF
  exact h.eq e15 e24 e25 e27 i5 j1 j2 j5 j7 a4 a3 a13 ep
theorem LVB.q (hq : uq F U V) (hF : rok F = true) : LVB Y V P f od S nf nm tm oid nw wa wn wi wk nb bo br b s t ↔ LVB Y U P f od S nf nm tm oid nw wa wn wi wk nb bo br b s t := by
  obtain ⟨⟨e15, e24, e25, e27⟩, -, ⟨-, -, -, a8⟩, -⟩ := rok_eq hq hF
  exact LVB.eq e25 e15 a8

theorem rows_put2 (hF : FAC U P f nf nm tm bs lv oid N S p) (hf : ∀ k, 1 ≤ f k) (hb : b < nb) (hB0 : BOK nb bo 0 nf) (hs : s < pd f 0 P) (hP : P ≤ 14) (hS : ∀ j, j < N → S' j = S j) (hq : ∀ x, S' (oi (pj mk f P P s)) x = true ↔ Q (pj mk f P P s) x) : (∀ r, fin nb bo b 0 (nf + 1) r → FLV P f S' (upv nm nf mk) (upv tm nf tk) (upv oid nf oi) r s t) ↔ (∀ r, fin nb bo b 0 nf r → FLV P f S nm tm oid r s t) ∧ (b + 1 = nb → Q (pj mk f P P s) (ixz tk f (dgzU f P t) P)) := by
  have hold : ∀ r, fin nb bo b 0 nf r → (FLV P f S' (upv nm nf mk) (upv tm nf tk) (upv oid nf oi) r s t ↔ FLV P f S nm tm oid r s t) := fun r hr => by
    have hrn := fin_lt2 hb hB0 hr
    refine flv_put hrn ?_ hS
    have y := pj_lt (mk := nm r) (f := f) (P := P) (n := P) (fun k _ => hf k) (Nat.le_refl P) s (by rw [Nat.sub_self]; exact hs)
    rw [wn_pm] at y
    rw [ixz_pj hs]
    exact ((hF.2 r hrn).2.2.2 _ y).2.1
  constructor
  · intro h
    refine ⟨fun r hr => (hold r hr).mp (h r ((fin_more2 hb hB0).mpr (Or.inl hr))), fun e => ?_⟩
    have y := h nf ((fin_more2 hb hB0).mpr (Or.inr ⟨rfl, e⟩))
    exact (hq _).mp ((flv_new hP hs).mp y)
  · rintro ⟨h1, h2⟩ r hr
    rcases (fin_more2 hb hB0).mp hr with y | ⟨y, e⟩
    · exact (hold r y).mpr (h1 r y)
    · rw [y]
      exact (flv_new hP hs).mpr ((hq _).mpr (h2 e))
/-- a new table -/
theorem RST.put (h : RST U Y es P f N0 O0 sf nb bo br ba bn bi N us S z p nf nm tm bs lv oid nw wa wn wi wk ou) (hf : ∀ k, 1 ≤ f k) (hP : P ≤ 14) (hnf : nf < 67108864) (h0 : ∀ j, j < ou → (V0.2.2.1 129 4).2 j = (U.2.2.1 129 4).2 j) (hT : TBX V0 V N us S z p spn ou (pm mk f P) Q) (h5 : V.2.1 129 5 = nI (ou + pm mk f P) ∧ ou + pm mk f P ≤ (V.2.2.1 129 4).1 ∧ OLN (V.2.2.1 129 4).1) (h24 : V.1 24 = tset 6 (tput 6 (U.1 24) mk tk (nI ou) 0) (nI nf) 4 (lvz tk l)) (hTM : TMK tk l P) (hQ : ∀ c x, c < pm mk f P → Q c x → x < pm tk f P) (e15 : V.1 15 = U.1 15) (e25 : V.1 25 = U.1 25) (e27 : V.1 27 = U.1 27) (e98 : V.2.2.1 99 8 = U.2.2.1 99 8) (j7 : V.2.1 113 7 = U.2.1 113 7) (hcost : us - sf + pm mk f P * (spn + 1) ≤ 65536) (hfit : ou + pm mk f P ≤ 32768) (hnk : ∀ q, ¬ KNF nf nm tm (bo (nb - 1) 0) mk tk q) : ∃ (N' us' : Nat) (S' : Nat → Nat → Bool) (z' : Nat → Nat) (p' : Nat → Bool) (oi : Nat → Nat), RST V Y es P f N0 O0 sf nb bo br ba bn bi N' us' S' z' p' (nf + 1) (upv nm nf mk) (upv tm nf tk) (upv bs nf ou) (upv lv nf l) (upv oid nf oi) nw wa wn wi wk (ou + pm mk f P) ∧ ∀ b s t, b < nb → s < pd f 0 P → t < pd f 0 P → (LVB Y V P f od S' (nf + 1) (upv nm nf mk) (upv tm nf tk) (upv oid nf oi) nw wa wn wi wk nb bo br b s t ↔ LVB Y U P f od S nf nm tm oid nw wa wn wi wk nb bo br b s t ∧ (b + 1 = nb → Q (pj mk f P P s) (ixz tk f (dgzU f P t) P))) := by
  obtain ⟨⟨hF, hSO, hW⟩, ⟨hB, hB0, hB1, h00⟩, ⟨hb1, hb2⟩, hun, ⟨o1, o2, o3, o4⟩, ⟨n1, n2, n3, n4⟩, hbr⟩ := h
  obtain ⟨N', us', S', z', p', oi, r1, r2, r3, ⟨r4, r4b, r4c⟩, r5c, r6⟩ := FAC.put hF h0 hT h5.2.1 (by rcases h5.2.2 with y | y | y <;> omega) hb1 hnf h24 hTM hQ
  have r5 : ∀ j, j < N → S' j = S j := fun j hj => (r5c j hj).1
  have hsd : sf / 8192 ≤ us / 8192 := Nat.div_le_div_right n2
  refine ⟨N', us', S', z', p', oi, ⟨⟨r2, r1, by rw [e15, e25]; exact hW⟩, ⟨by unfold BRT at hB ⊢; rw [e27]; exact hB, hB0.more hnf, hB1, h00⟩, ⟨fun r hr => ?_, fun r q hrq hq => ?_⟩, fun q q' g1 g2 g3 g4 g5 g6 => ?_, ⟨h5.1, h5.2.1, h5.2.2, hfit⟩, ⟨j7.trans n1, by omega, by omega, by omega, by omega, fun j hj => by rw [r5 j (by omega), (r5c j (by omega)).2]; exact n4.2.2 j hj⟩, by rw [e25]; exact hbr⟩, fun b s t hb hs ht => ?_⟩
  · by_cases er : r = nf
    · rw [er, upv_eq, upv_eq]
      exact Nat.le_refl _
    · have hrn : r < nf := by omega
      rw [upv_ne hrn, upv_ne hrn]
      have := hb1 r hrn
      omega
  · have hrn : r < nf := by omega
    rw [upv_ne hrn, upv_ne hrn]
    by_cases eq1 : q = nf
    · rw [eq1, upv_eq]
      exact hb1 r hrn
    · rw [upv_ne (show q < nf by omega)]
      exact hb2 r q hrq (by omega)
  · by_cases e1 : q = nf
    · by_cases e2 : q' = nf
      · rw [e1, e2]
      · have h2 : q' < nf := by omega
        rw [e1, upv_eq, upv_ne h2] at g5 g6
        exact absurd ⟨⟨g3, h2⟩, g5.symm, g6.symm⟩ (hnk q')
    · have h1 : q < nf := by omega
      by_cases e2 : q' = nf
      · rw [e2, upv_eq, upv_ne h1] at g5 g6
        exact absurd ⟨⟨g1, h1⟩, g5, g6⟩ (hnk q)
      · have h2 : q' < nf := by omega
        rw [upv_ne h1, upv_ne h2] at g5 g6
        exact hun q q' g1 h1 g3 h2 g5 g6
  · have hpj : pj mk f P P s < pm mk f P := by
      have y := pj_lt (mk := mk) (f := f) (P := P) (n := P) (fun k _ => hf k) (Nat.le_refl P) s (by rw [Nat.sub_self]; exact hs)
      rw [wn_pm] at y
      exact y
    unfold LVB
    rw [rows_put2 hF hf hb hB0 hs hP r5 (r6 _ hpj)]
    have hw : (∀ r, fin nb bo b 1 nw r → ¬ br = some r → WLV Y V P f od wa wn wi wk r s t) ↔ (∀ r, fin nb bo b 1 nw r → ¬ br = some r → WLV Y U P f od wa wn wi wk r s t) := forall_congr' (fun _ => imp_congr Iff.rfl (imp_congr Iff.rfl (wlv_eq e25 e15 e98)))
    rw [hw]
    exact ⟨fun ⟨⟨a1, a2⟩, a3⟩ => ⟨⟨a1, a3⟩, a2⟩, fun ⟨⟨a1, a3⟩, a2⟩ => ⟨⟨a1, a2⟩, a3⟩⟩

theorem rows_again2 (hF : FAC U P f nf nm tm bs lv oid N S p) (hf : ∀ k, 1 ≤ f k) (hb : b < nb) (hB0 : BOK nb bo 0 nf) (hs : s < pd f 0 P) (hS : ∀ j, j < N → S' j = S j) (hmk : nm qk = mk) (hq : ∀ x, S' (oi (pj mk f P P s)) x = true ↔ S (oid qk (pj mk f P P s)) x = true ∧ Q (pj mk f P P s) x) : (∀ r, fin nb bo b 0 nf r → FLV P f S' nm tm (upv oid qk oi) r s t) ↔ (∀ r, fin nb bo b 0 nf r → FLV P f S nm tm oid r s t) ∧ (fin nb bo b 0 nf qk → Q (pj mk f P P s) (ixz (tm qk) f (dgzU f P t) P)) := by
  have hoth : ∀ r, fin nb bo b 0 nf r → ¬ r = qk → (FLV P f S' nm tm (upv oid qk oi) r s t ↔ FLV P f S nm tm oid r s t) := fun r hr hne => by
    have hrn := fin_lt2 hb hB0 hr
    have y := pj_lt (mk := nm r) (f := f) (P := P) (n := P) (fun k _ => hf k) (Nat.le_refl P) s (by rw [Nat.sub_self]; exact hs)
    rw [wn_pm] at y
    unfold FLV
    rw [upv_no hne, ixz_pj hs, hS _ ((hF.2 r hrn).2.2.2 _ y).2.1]
  have hown : FLV P f S' nm tm (upv oid qk oi) qk s t ↔ FLV P f S nm tm oid qk s t ∧ Q (pj mk f P P s) (ixz (tm qk) f (dgzU f P t) P) := by
    unfold FLV
    rw [upv_eq, ixz_pj hs, hmk]
    exact hq _
  constructor
  · intro h
    refine ⟨fun r hr => ?_, fun hk => (hown.mp (h qk hk)).2⟩
    by_cases e : r = qk
    · rw [e] at hr ⊢
      exact (hown.mp (h qk hr)).1
    · exact (hoth r hr e).mp (h r hr)
  · rintro ⟨h1, h2⟩ r hr
    by_cases e : r = qk
    · rw [e] at hr ⊢
      exact hown.mpr ⟨h1 qk hr, h2 hr⟩
    · exact (hoth r hr e).mpr (h1 r hr)
/-- a table again -/
theorem RST.again (h : RST U Y es P f N0 O0 sf nb bo br ba bn bi N us S z p nf nm tm bs lv oid nw wa wn wi wk ou) (hf : ∀ k, 1 ≤ f k) (hqk : KNF nf nm tm (bo (nb - 1) 0) mk tk qk) (hT : TBX U V N us S z p spn (bs qk) (pm mk f P) (fun c x => S (oid qk c) x = true ∧ Q c x)) (h4 : (V.2.2.1 129 4).1 = (U.2.2.1 129 4).1) (i5 : V.2.1 129 5 = U.2.1 129 5) (e24 : V.1 24 = U.1 24) (e15 : V.1 15 = U.1 15) (e25 : V.1 25 = U.1 25) (e27 : V.1 27 = U.1 27) (e98 : V.2.2.1 99 8 = U.2.2.1 99 8) (j7 : V.2.1 113 7 = U.2.1 113 7) (hcost : us - sf + pm mk f P * (spn + 1) ≤ 65536) : ∃ (N' us' : Nat) (S' : Nat → Nat → Bool) (z' : Nat → Nat) (p' : Nat → Bool) (oi : Nat → Nat), RST V Y es P f N0 O0 sf nb bo br ba bn bi N' us' S' z' p' nf nm tm bs lv (upv oid qk oi) nw wa wn wi wk ou ∧ ∀ b s t, b < nb → s < pd f 0 P → t < pd f 0 P → (LVB Y V P f od S' nf nm tm (upv oid qk oi) nw wa wn wi wk nb bo br b s t ↔ LVB Y U P f od S nf nm tm oid nw wa wn wi wk nb bo br b s t ∧ (b + 1 = nb → Q (pj mk f P P s) (ixz tk f (dgzU f P t) P))) := by
  obtain ⟨⟨hF, hSO, hW⟩, ⟨hB, hB0, hB1, h00⟩, ⟨hb1, hb2⟩, hun, ⟨o1, o2, o3, o4⟩, ⟨n1, n2, n3, n4⟩, hbr⟩ := h
  obtain ⟨⟨k1, k2⟩, k3, k4⟩ := hqk
  obtain ⟨N', us', S', z', p', oi, r1, r2, r3, ⟨r4, r4b, r4c⟩, r5c, r6⟩ := FAC.again hF k2 rfl k3 hT h4 e24 (fun q hq hne => by
    rcases Nat.lt_or_gt_of_ne hne with y | y
    · exact Or.inl (hb2 q qk y k2)
    · exact Or.inr (by rw [← k3]; exact hb2 qk q y hq))
  have r5 : ∀ j, j < N → S' j = S j := fun j hj => (r5c j hj).1
  have hsd : sf / 8192 ≤ us / 8192 := Nat.div_le_div_right n2
  refine ⟨N', us', S', z', p', oi, ⟨⟨r2, r1, by rw [e15, e25]; exact hW⟩, ⟨by unfold BRT at hB ⊢; rw [e27]; exact hB, hB0, hB1, h00⟩, ⟨hb1, hb2⟩, hun, ⟨i5.trans o1, by rw [h4]; exact o2, by rw [h4]; exact o3, o4⟩, ⟨j7.trans n1, by omega, by omega, by omega, by omega, fun j hj => by rw [r5 j (by omega), (r5c j (by omega)).2]; exact n4.2.2 j hj⟩, by rw [e25]; exact hbr⟩, fun b s t hb hs ht => ?_⟩
  have hpj : pj mk f P P s < pm mk f P := by
    have y := pj_lt (mk := mk) (f := f) (P := P) (n := P) (fun k _ => hf k) (Nat.le_refl P) s (by rw [Nat.sub_self]; exact hs)
    rw [wn_pm] at y
    exact y
  unfold LVB
  rw [rows_again2 hF hf hb hB0 hs r5 k3 (r6 _ hpj), fin_last hb hB0 k1 k2 (fun _ => h00), k4]
  have hw : (∀ r, fin nb bo b 1 nw r → ¬ br = some r → WLV Y V P f od wa wn wi wk r s t) ↔ (∀ r, fin nb bo b 1 nw r → ¬ br = some r → WLV Y U P f od wa wn wi wk r s t) := forall_congr' (fun _ => imp_congr Iff.rfl (imp_congr Iff.rfl (wlv_eq e25 e15 e98)))
  rw [hw]
  exact ⟨fun ⟨⟨a1, a2⟩, a3⟩ => ⟨⟨a1, a3⟩, a2⟩, fun ⟨⟨a1, a3⟩, a2⟩ => ⟨⟨a1, a2⟩, a3⟩⟩

/-- a wide row more -/
theorem RST.wide (h : RST U Y es P f N0 O0 sf nb bo br ba bn bi N us S z p nf nm tm bs lv oid nw wa wn wi wk ou) (hnw : nw < 16777216) (h25 : V.1 25 = tset 5 (tput 5 (U.1 25) (nI a) (nI (a + n)) (nI i) x3) (nI nw) 4 x4) (hi : i < (Y 11).1) (hb : a + n ≤ (Y 0).1) (hk : (x3 = -1 ∧ x4 = 1 ∧ (n = 0 ∨ WTC Y es a n i)) ∨ (∃ pl, pl < P ∧ x3 = nI pl ∧ x4 = 0 ∧ ¬ NXW Y (U.1 15) P a n i ∧ ∃ al Lk rs, ¬ al = 2 ∧ rgs Y (im Y i) Lk a (a + n) ∧ 1 ≤ Lk.length ∧ SRT Y es i al a rs n ∧ (bb = true → Lk = [true]) ∧ (bb = false → ¬ true ∈ Lk)) ∨ ∃ pl, pl < P ∧ x3 = nI pl ∧ x4 = 1 ∧ WTC Y es a n i ∧ ∀ q, NXP Y (U.1 15) P a n i q → q = pl) (e15 : V.1 15 = U.1 15) (e24 : V.1 24 = U.1 24) (e27 : V.1 27 = U.1 27) (e2 : V.2 = U.2) : RST V Y es P f N0 O0 sf nb bo br ba bn bi N us S z p nf nm tm bs lv oid (nw + 1) (upv wa nw a) (upv wn nw n) (upv wi nw i) (upv wk nw bb) ou ∧ ∀ b s t, b < nb → s < pd f 0 P → t < pd f 0 P → (LVB Y V P f od S nf nm tm oid (nw + 1) (upv wa nw a) (upv wn nw n) (upv wi nw i) (upv wk nw bb) nb bo br b s t ↔ LVB Y U P f od S nf nm tm oid nw wa wn wi wk nb bo br b s t ∧ (b + 1 = nb → WLV Y V P f od (upv wa nw a) (upv wn nw n) (upv wi nw i) (upv wk nw bb) nw s t)) := by
  obtain ⟨⟨hF, hSO, hW⟩, ⟨hB, hB0, hB1, h00⟩, ⟨hb1, hb2⟩, hun, ho, hn, hbr⟩ := h
  have hWn := hW.1.1
  have hbl : 1 < nb → bo 1 1 ≤ nw := fun y => by
    have := hB1.2 1 (Nat.le_refl _) y
    omega
  obtain ⟨-, eold, -⟩ := wide_rows hWn hnw h25
  refine ⟨⟨⟨by unfold FAC at hF ⊢; rw [e24, e2]; exact hF, hSO.eq (by rw [e2]) (by rw [e2]) (by rw [e2]) (by rw [e2]) (by rw [e2]) (by rw [e2]), by rw [e15]; exact hW.put hnw h25 hi hb hk⟩, ⟨by unfold BRT at hB ⊢; rw [e27]; exact hB, hB0, hB1.more (by omega), h00⟩, ⟨hb1, hb2⟩, hun, by rw [e2]; exact ho, by rw [e2]; exact hn, fun q hq => ?_⟩, fun b s t hb' hs ht => ?_⟩
  · obtain ⟨⟨g0, g1⟩, g2, g3, g4, g5, g6⟩ := hbr q hq
    have hqn : q < nw := by have := hbl g0; omega
    rw [upv_ne hqn, upv_ne hqn, upv_ne hqn, eold q 3 hqn, eold q 4 hqn]
    exact ⟨⟨g0, g1⟩, g2, g3, g4, g5, g6⟩
  · have e98 : V.2.2.1 99 8 = U.2.2.1 99 8 := by rw [e2]
    have hnb : ¬ br = some nw := fun y => by
      obtain ⟨⟨g0, g1⟩, -⟩ := hbr nw y
      have := hbl g0
      omega
    unfold LVB
    constructor
    · rintro ⟨h1, h2⟩
      exact ⟨⟨h1, fun r hr hne => (wlv_put hWn hnw h25 e15 e98 (fin_lt2 hb' hB1 hr)).mp (h2 r ((fin_more2 hb' hB1).mpr (Or.inl hr)) hne)⟩, fun e => h2 nw ((fin_more2 hb' hB1).mpr (Or.inr ⟨rfl, e⟩)) hnb⟩
    · rintro ⟨⟨h1, h2⟩, h3⟩
      refine ⟨h1, fun r hr hne => ?_⟩
      rcases (fin_more2 hb' hB1).mp hr with y | ⟨y, e⟩
      · exact (wlv_put hWn hnw h25 e15 e98 (fin_lt2 hb' hB1 y)).mpr (h2 r y hne)
      · rw [y]
        exact h3 e
end Made
