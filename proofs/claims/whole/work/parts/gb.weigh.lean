/-! RELATION: as it stands when all is taken; weighBranches -/
/-- the relation as it stands: GF -/
def RLP (V : Ud) (Y : Ts) (es : Nat → Int32) (P : Nat) (f od : Nat → Nat) (N0 : Nat) (O0 : Nat → (Nat → Bool) × Bool) (sf : Nat) (GF : Nat → Nat → Prop) (A : Nat → Prop) (nb : Nat) (bo : Nat → Nat → Nat) (N us : Nat) (S : Nat → Nat → Bool) (z : Nat → Nat) (p : Nat → Bool) (nf : Nat) (nm tm : Nat → Int32) (bs lv : Nat → Nat) (oid : Nat → Nat → Nat) (nw : Nat) (wa wn wi : Nat → Nat) (wk : Nat → Bool) : Prop :=
  (FAC V P f nf nm tm bs lv oid N S p ∧ SOK V N us S z p ∧ WIDw Y es P (V.1 15) (V.1 25) nw wa wn wi wk) ∧ (BRT V nb bo ∧ BOK nb bo 0 nf ∧ BOK nb bo 1 nw) ∧ (OLN (V.2.2.1 129 4).1 ∧ nf + nw ≤ 16384) ∧
  (V.2.1 113 7 = nI sf ∧ sf ≤ us ∧ us + 256 * (sf / 8192) ≤ sf + 256 * (us / 8192) + 65536 ∧ N + sf ≤ N0 + us ∧ N0 ≤ N ∧ ∀ j, j < N0 → (S j, p j) = O0 j) ∧ BTS (V.2.2.2.2.1 145) (pd f 0 P) A ∧ ∀ s t, s < pd f 0 P → t < pd f 0 P → ((A s ∧ MNB Y V P f od S nf nm tm oid nw wa wn wi wk nb bo s t) ↔ GF s t)
def RLF (V : Ud) (Y : Ts) (es : Nat → Int32) (P : Nat) (f od : Nat → Nat) (N0 : Nat) (O0 : Nat → (Nat → Bool) × Bool) (sf : Nat) (GF : Nat → Nat → Prop) : Prop := ∃ A nb bo N us S z p nf nm tm bs lv oid nw wa wn wi wk, RLP V Y es P f od N0 O0 sf GF A nb bo N us S z p nf nm tm bs lv oid nw wa wn wi wk
section Weigh
variable {O0 : Nat → (Nat → Bool) × Bool} {H : mu_H} {U V W : Ud} {m d P N0 sf nb ba bn bi n0 cnt q r s u : Nat} {C : Nat → Nat} {Y : Ts} {f od pa pn : Nat → Nat} {es : Nat → Int32} {bo : Nat → Nat → Nat} {G : Nat → Nat → Nat → Prop} {GF : Nat → Nat → Prop} {F : Uf}
/-- without branches -/
theorem RLG.one (h : RLG U Y es P f od N0 O0 sf 1 bo none 0 0 0 cnt G) (hc : cnt ≤ 16384) : RLF U Y es P f od N0 O0 sf (G 0) := by
  obtain ⟨A, N, us, S, z, p, nf, nm, tm, bs, lv, oid, nw, wa, wn, wi, wk, ou, ⟨⟨hF, hSO, hW⟩, ⟨hB, hB0, hB1, h00⟩, hbb, hun, ho, hn, hbr⟩, h2, h3, h4⟩ := h
  refine ⟨A, 1, bo, N, us, S, z, p, nf, nm, tm, bs, lv, oid, nw, wa, wn, wi, wk, ⟨hF, hSO, hW⟩, ⟨hB, hB0, hB1⟩, ⟨ho.2.2.1, by omega⟩, hn, h3, fun s t hs ht => ?_⟩
  rw [← h4 0 s t (by decide) hs ht]
  refine and_congr Iff.rfl ⟨fun ⟨b, hb, y1, y2⟩ => ?_, fun ⟨y1, y2⟩ => ⟨0, Or.inl ⟨rfl, rfl⟩, y1, fun r hr => y2 r hr (by intro z; cases z)⟩⟩
  have e : b = 0 := by
    unfold BIN at hb
    omega
  rw [e] at y1 y2
  exact ⟨y1, fun r hr _ => y2 r hr⟩
/-- the branches are kept -/
theorem RLG.all (h : RLG U Y es P f od N0 O0 sf nb bo (some q) ba 0 bi cnt G) (hc : cnt ≤ 16384) (hX : BRX U Y es W P f od nb q ba 0 bi n0 pa pn G GF (fun _ _ => True)) : RLF U Y es P f od N0 O0 sf GF := by
  obtain ⟨A, N, us, S, z, p, nf, nm, tm, bs, lv, oid, nw, wa, wn, wi, wk, ou, ⟨⟨hF, hSO, hW⟩, ⟨hB, hB0, hB1, h00⟩, hbb, hun, ho, hn, hbr⟩, h2, h3, h4⟩ := h
  obtain ⟨⟨g0, g1⟩, g2, g3, g4, g5, g6⟩ := hbr q rfl
  obtain ⟨-, -, -, x1, x2, x3⟩ := hX
  refine ⟨A, nb, bo, N, us, S, z, p, nf, nm, tm, bs, lv, oid, nw, wa, wn, wi, wk, ⟨hF, hSO, hW⟩, ⟨hB, hB0, hB1⟩, ⟨ho.2.2.1, by omega⟩, hn, h3, fun s t hs ht => ?_⟩
  have hwq : WLV Y U P f od wa wn wi wk q s t := by
    unfold WLV
    rw [g6, g3]
    exact ⟨fun y => absurd y (by decide), fun _ y => absurd rfl y⟩
  rw [x2 s t hs ht, x1 s t]
  constructor
  · rintro ⟨a1, b, hb, a2, a3⟩
    have hbn : 1 ≤ b ∧ b < nb := by
      unfold BIN at hb
      omega
    have y := (x3 b s t hbn.1 hbn.2 hs ht).mp ⟨(h4 b s t hbn.2 hs ht).mp ⟨a1, a2, fun r hr _ => a3 r hr⟩, fun _ => trivial⟩
    exact ⟨y.1, Or.inl ⟨b, hbn.1, hbn.2, y.2⟩⟩
  · rintro ⟨a1, ⟨b, b1, b2, y⟩ | y⟩
    · obtain ⟨c1, c2, c3⟩ := (h4 b s t b2 hs ht).mpr ((x3 b s t b1 b2 hs ht).mpr ⟨a1, y⟩).1
      refine ⟨c1, b, Or.inr ⟨b1, b2⟩, c2, fun r hr => ?_⟩
      by_cases e : r = q
      · rw [e]
        exact hwq
      · exact c3 r hr (fun z => e (Option.some.inj z).symm)
    · exact absurd rfl y.1
/-- the branches are taken back -/
theorem RLG.back (h : RLG U Y es P f od N0 O0 sf nb bo (some q) ba 0 bi cnt G) (hc : cnt ≤ 16384) (hX : BRX U Y es W P f od nb q ba 0 bi n0 pa pn G GF (fun _ _ => True)) (w15 : W.1 15 = U.1 15) (w98 : W.2.2.1 99 8 = U.2.2.1 99 8) (h24 : V.1 24 = tcut (U.1 24) (bo 1 0)) (h25 : V.1 25 = tset 5 (tcut (U.1 25) (bo 1 1)) (nI q) 1 (nI (ba + n0))) (h27 : V.1 27 = tcut (U.1 27) 1) (e15 : V.1 15 = U.1 15) (e98 : V.2.2.1 99 8 = U.2.2.1 99 8) (e4 : V.2.2.1 129 4 = U.2.2.1 129 4) (j1 : V.2.1 113 1 = U.2.1 113 1) (j2 : V.2.1 113 2 = U.2.1 113 2) (j5 : V.2.1 113 5 = U.2.1 113 5) (j7 : V.2.1 113 7 = U.2.1 113 7) (a3 : V.2.2.1 113 3 = U.2.2.1 113 3) (a13 : V.2.2.1 113 4 = U.2.2.1 113 4) (ep : V.2.2.2.2.2 114 = U.2.2.2.2.2 114) (l5 : V.2.2.2.2.1 145 = U.2.2.2.2.1 145) : RLF V Y es P f od N0 O0 sf GF := by
  obtain ⟨A, N, us, S, z, p, nf, nm, tm, bs, lv, oid, nw, wa, wn, wi, wk, ou, ⟨⟨hF, hSO, hW⟩, ⟨hB, hB0, hB1, h00⟩, hbb, hun, ho, hn, hbr⟩, h2, h3, h4⟩ := h
  obtain ⟨⟨g0, g1⟩, g2, g3, g4, g5, g6⟩ := hbr q rfl
  obtain ⟨-, -, ⟨xw, xi, -, -⟩, x1, x2, x3⟩ := hX
  have hf1 : bo 1 0 ≤ nf := by
    have y := hB0.2 1 (Nat.le_refl _) g0
    omega
  have hw1 : bo 1 1 ≤ nw := by
    have y := hB1.2 1 (Nat.le_refl _) g0
    omega
  have hnw := hW.1
  have hnf := hF.1
  have e25 : V.1 25 = (bo 1 1, fun i c => if i = q ∧ c = 1 then nI (ba + n0) else if i < bo 1 1 then (U.1 25).2 i c else 0) := by
    rw [h25]
    exact ts5q_eq (T := tcut (U.1 25) (bo 1 1)) g1 (by show bo 1 1 ≤ 16777216; omega)
  have hrow : ∀ r c, r < bo 1 1 → ¬ (r = q ∧ c = 1) → (V.1 25).2 r c = (U.1 25).2 r c := fun r c hr hne => by
    rw [e25]
    show (if r = q ∧ c = 1 then nI (ba + n0) else if r < bo 1 1 then (U.1 25).2 r c else 0) = _
    rw [if_neg hne, if_pos hr]
  have hq1 : (V.1 25).2 q 1 = nI (ba + n0) := by
    rw [e25]
    show (if q = q ∧ 1 = 1 then nI (ba + n0) else _) = _
    rw [if_pos ⟨rfl, rfl⟩]
  have hfac : ∀ r c, r < bo 1 0 → (V.1 24).2 r c = (U.1 24).2 r c := fun r c hr => by
    rw [h24]
    show (if r < bo 1 0 then (U.1 24).2 r c else 0) = _
    rw [if_pos hr]
  have hxb := xw.1.2.1
  have hFn : FAC V P f (bo 1 0) nm tm bs lv oid N S p := by
    refine ⟨⟨by rw [h24]; rfl, by omega, by rw [e4]; exact hnf.2.2⟩, fun r hr => ?_⟩
    rw [hfac r 0 hr, hfac r 1 hr, hfac r 2 hr, hfac r 4 hr, e4]
    exact hF.2 r (by omega)
  have hWn : WIDw Y es P (V.1 15) (V.1 25) (bo 1 1) wa (upv wn q n0) wi wk := by
    refine ⟨⟨by rw [e25], by omega⟩, fun r hr => ?_⟩
    obtain ⟨⟨w0, w1, w2, w3, w4⟩, wc⟩ := hW.2 r (by omega)
    by_cases e : r = q
    · rw [e] at w0 w1 w2 w3 w4 ⊢
      rw [upv_eq, hrow q 0 g1 (by omega), hrow q 2 g1 (by omega), hrow q 3 g1 (by omega), hrow q 4 g1 (by omega), hq1, g2, g4]
      rw [g2] at w0
      rw [g4] at w2
      exact ⟨⟨w0, rfl, w2, xi, hxb⟩, Or.inl ⟨g5, g6, Or.inr xw⟩⟩
    · rw [upv_no e, hrow r 0 hr (fun y => e y.1), hrow r 1 hr (fun y => e y.1), hrow r 2 hr (fun y => e y.1), hrow r 3 hr (fun y => e y.1), hrow r 4 hr (fun y => e y.1), e15]
      exact ⟨⟨w0, w1, w2, w3, w4⟩, wc⟩
  have hBn : BRT V 1 bo := by
    refine ⟨by rw [h27]; rfl, ⟨Nat.le_refl _, by decide⟩, fun b c hb hc => ?_⟩
    have e0 : b = 0 := by omega
    rw [h27, e0]
    show (if 0 < 1 then (U.1 27).2 0 c else 0) = _ ∧ _
    rw [if_pos (by decide)]
    exact hB.2.2 0 c (by omega) hc
  have hBk : ∀ c tot, tot ≤ 67108864 → BOK 1 bo c tot := fun c tot ht => ⟨ht, fun b b1 b2 => absurd b2 (by omega)⟩
  refine ⟨A, 1, bo, N, us, S, z, p, bo 1 0, nm, tm, bs, lv, oid, bo 1 1, wa, upv wn q n0, wi, wk, ⟨hFn, hSO.eq j1 j2 j5 a3 a13 ep, hWn⟩, ⟨hBn, hBk 0 _ (by omega), hBk 1 _ (by omega)⟩, ⟨by rw [e4]; exact ho.2.2.1, by omega⟩, by rw [j7]; exact hn, by rw [l5]; exact h3, fun s t hs ht => ?_⟩
  rw [x2 s t hs ht, ← h4 0 s t (by omega) hs ht]
  have hwr : ∀ r, ¬ r = q → r < bo 1 1 → (WLV Y V P f od wa (upv wn q n0) wi wk r s t ↔ WLV Y U P f od wa wn wi wk r s t) := fun r hr hb => by
    unfold WLV
    rw [upv_no hr, hrow r 3 hb (fun y => hr y.1), hrow r 4 hb (fun y => hr y.1), e98, trs_same e15 e98]
    unfold CHSw
    rw [vst_same e15 e98]
  have hwq : WLV Y V P f od wa (upv wn q n0) wi wk q s t ↔ trs Y W f P od bi ba n0 s t = 1 := by
    unfold WLV
    rw [upv_eq, hrow q 4 g1 (by omega), g6, g2, g4, trs_same (U := W) (e15.trans w15.symm) (e98.trans w98.symm)]
    exact ⟨fun y => y.2 rfl xw.pos, fun y => ⟨fun z => absurd z (by decide), fun _ _ => y⟩⟩
  have hf0 : ∀ c tot r, fin 1 bo 0 c tot r ↔ r < tot := fun c tot r => by
    unfold fin cmz
    rw [if_neg (by decide)]
    omega
  have hfU : ∀ c tot r, fin nb bo 0 c tot r ↔ r < bo 1 c := fun c tot r => by
    unfold fin cmz
    rw [if_pos g0]
    omega
  constructor
  · rintro ⟨a1, b, hb, a2, a3⟩
    have e : b = 0 := by
      unfold BIN at hb
      omega
    rw [e] at a2 a3
    refine ⟨⟨a1, fun r hr => a2 r ((hf0 0 _ r).mpr ((hfU 0 _ r).mp hr)), fun r hr hne => ?_⟩, hwq.mp (a3 q ((hf0 1 _ q).mpr g1))⟩
    have hrb := (hfU 1 _ r).mp hr
    exact (hwr r (fun e => hne (by rw [e])) hrb).mp (a3 r ((hf0 1 _ r).mpr hrb))
  · rintro ⟨⟨a1, a2, a3⟩, a4⟩
    refine ⟨a1, 0, Or.inl ⟨rfl, rfl⟩, fun r hr => a2 r ((hfU 0 _ r).mpr ((hf0 0 _ r).mp hr)), fun r hr => ?_⟩
    have hrb := (hf0 1 _ r).mp hr
    by_cases e : r = q
    · rw [e]
      exact hwq.mpr a4
    · exact (hwr r e hrb).mpr (a3 r ((hfU 1 _ r).mpr hrb) (fun z => e (Option.some.inj z).symm))
def F397 : Uf := ⟨[24, 25, 27], [(129, 5)], [], [], [], false⟩
def F397i : Uf := ⟨[], [(129, 5)], [], [], [], false⟩
def F397f : Uf := ⟨[24], [], [], [], [], false⟩

/-- PathProver$Relation.weighBranches()V -/
abbrev mu_m397 : ev_M := (5, none, [], ev_b397)
theorem mu_g397 : mu_good mu_m397 := mu_goodk ev_k397
theorem rl_weigh (h : um m H) (e : ud m H = U) (hK : RSK m U Y P f od es) (hR : RLG U Y es P f od N0 O0 sf nb bo (some q) ba 0 bi cnt G) (hcn : cnt ≤ 16384) (hX : BRX U Y es U P f od nb q ba 0 bi n0 pa pn G GF (fun _ _ => True)) : mu_TV (mu_D (d + 3)) 397 [.inr (.inr (some 129))] H (fun H1 => um m H1 ∧ ur m C H H1 ∧ uq F397 U (ud m H1) ∧ RSK m (ud m H1) Y P f od es ∧ RLF (ud m H1) Y es P f od N0 O0 sf GF) := by
  obtain ⟨⟨vq25, vb25, vb24⟩, v0, v1, v2, v3, v4, vc, vcn1, vnb1, vnbs⟩ := hR.row hK.1.P14
  have hRc := hR
  obtain ⟨A, N, us, S, z, p, nf, nm, tm, bs, lv, oid, nw, wa, wn, wi, wk, ou, ⟨⟨hF, hSO, hW⟩, ⟨hB, hB0, hB1, h00⟩, hbb, hun, ho, hn, hbr⟩, hr2, hr3, hr4⟩ := hRc
  have hnf : (U.1 24).1 = nf := hF.1.1
  have hnw : (U.1 25).1 = nw := hW.1.1
  have hnbs : (U.1 27).1 = nb := hB.1
  have hcf : bo 1 0 ≤ nf := by have y := hB0.2 1 (Nat.le_refl _) vnb1; omega
  have hcw : bo 1 1 ≤ nw := by have y := hB1.2 1 (Nat.le_refl _) vnb1; omega
  have hnb2 := hB.2.1.2
  have hnfb := hF.1.2.1
  have hnwb := hW.1.2
  have h22U : U.2.1 129 22 = nI q := hX.1.1
  have hbo0 := (hB.2.2 1 0 vnb1 (by decide)).2
  have hD : MDL Y es := hK.1.2.2.2.1
  obtain ⟨hb13, hb0, hb15, hb16, hb17⟩ := hD.2.2.2.1
  have hwb0 := hX.2.2.1.1.1.2.1
  refine mu_meth (M := mu_m397) rfl rfl ?_
  refine mw_ht (mu_fn_of (show [0].Nodup by decide)) ?_
  refine mw_go mu_g397 (k := 2) (f1 := (4, [(0, .inr (.inr (some 129)))], [.inl (mu_i H 129 22)], H)) (C := [mu_is H (some 129) 9]) rfl (show mu_is H (some 129) 9 from (h.1.1.is rfl)) ?_
  rw [(show mu_i H 129 22 = (nI q) from (ud_i (U := U) (m := m) (P := 129) (j := 22) e rfl).trans h22U)]
  refine mw_if (P := (nI q) < 0) (a := 7) (b := 8) (fun _ => rfl) trivial (fun h1 => absurd h1 (nI_pos (by omega))) (fun h1 => ?_)
  refine mw_go mu_g397 (k := 4) (f1 := (12, [(3, .inl (1 : Int32)), (1, .inr (.inl (0 : Int64))), (0, .inr (.inr (some 129)))], [], H)) (C := []) rfl trivial ?_
  show mu_W _ _ (12, [(3, .inl (nI 1)), (1, .inr (.inl (0 : Int64))), (0, .inr (.inr (some 129)))], [], H) _
  refine mw_sub (L' := [(3, .inl (nI 1)), (1, .inr (.inl (0 : Int64))), (0, .inr (.inr (some 129)))]) (by simp) ?_
  refine mw_down (α := Nat × Int64) (fun zs => (12, [(3, .inl (nI zs.1)), (1, .inr (.inl zs.2)), (0, .inr (.inr (some 129)))], [], H)) (fun zs => nb - zs.1) (fun zs => (1 ≤ zs.1 ∧ zs.1 ≤ nb)) (fun zs hza iha => ?_) (1, (0 : Int64)) (show 1 ≤ 1 ∧ 1 ≤ nb from (by omega))
  obtain ⟨b, acc⟩ := zs
  have hb := hza
  have hb : 1 ≤ b ∧ b ≤ nb := hb
  show mu_W _ _ (12, [(3, .inl (nI b)), (1, .inr (.inl acc)), (0, .inr (.inr (some 129)))], [], H) _
  refine mw_go mu_g397 (k := 3) (f1 := (17, [(3, .inl (nI b)), (1, .inr (.inl acc)), (0, .inr (.inr (some 129)))], [.inr (.inr (mu_r H 129 23)), .inl (nI b)], H)) (C := [mu_is H (some 129) 9]) rfl (show mu_is H (some 129) 9 from (h.1.1.is rfl)) ?_
  rw [(h.1.1.r (p := 129) (j := 23) (q := 167) rfl)]
  refine mw_go mu_g397 (k := 1) (f1 := (20, [(3, .inl (nI b)), (1, .inr (.inl acc)), (0, .inr (.inr (some 129)))], [.inl (mu_i H 167 2), .inl (nI b)], H)) (C := [mu_is H (some 167) 10]) rfl (show mu_is H (some 167) 10 from (h.1.1.is rfl)) ?_
  rw [(show mu_i H 167 2 = (nI nb) from (h.size e (j := 27) (by decide) rfl).trans (congrArg nI ((congrArg Prod.fst (show U.1 27 = (U.1 27) from rfl)).trans hnbs)))]
  refine mw_if (P := (nI b) < (nI nb)) (a := 23) (b := 45) (fun _ => rfl) trivial (fun h2 => ?_) (fun h2 => ?_)
  · -- 23: (nI b) < (nI nb)
    have nh2 : b < nb := (nI_ltI (by omega) (by omega)).mp (show nI b < nI nb from h2)
    refine mw_go mu_g397 (k := 4) (f1 := (30, [(3, .inl (nI b)), (1, .inr (.inl acc)), (0, .inr (.inr (some 129)))], [.inr (.inr (mu_r H 129 23)), .inl (64 : Int32), .inr (.inl acc)], H)) (C := [mu_is H (some 129) 9]) rfl (show mu_is H (some 129) 9 from (h.1.1.is rfl)) ?_
    rw [(h.1.1.r (p := 129) (j := 23) (q := 167) rfl)]
    refine mw_go mu_g397 (k := 2) (f1 := (32, [(3, .inl (nI b)), (1, .inr (.inl acc)), (0, .inr (.inr (some 129)))], [.inl (4 : Int32), .inl (nI b), .inr (.inr (some 167)), .inl (64 : Int32), .inr (.inl acc)], H)) (C := []) rfl trivial ?_
    refine mw_cIe (fun _ => rfl) (show mu_is H (some 167) 10 from (h.1.1.is rfl)) (h.getr (d := (d + 1)) e (j := 27) (by decide) rfl (nI b) (c := 4) (by decide)) ?_
    rw [show (tget (U.1 27) (nI b) 4) = ((U.1 27).2 b 4) from (congrArg (fun z => tget z (nI b) 4) (show U.1 27 = (U.1 27) from rfl)).trans (tget_nI (by first | omega | decide))]
    refine mw_go mu_g397 (k := 5) (f1 := (42, [(3, .inl ((nI b) + 1)), (1, .inr (.inl (acc + (((64 : Int32) + ((U.1 27).2 b 4)).toInt64)))), (0, .inr (.inr (some 129)))], [], H)) (C := []) rfl trivial ?_
    rw [(show ((nI b) + 1) = (nI (b + 1)) from (nI_add b 1))]
    refine mw_go mu_g397 (k := 1) (f1 := (12, [(3, .inl (nI (b + 1))), (1, .inr (.inl (acc + (((64 : Int32) + ((U.1 27).2 b 4)).toInt64)))), (0, .inr (.inr (some 129)))], [], H)) (C := []) rfl trivial ?_
    exact mw_sub (by simp) (iha (b + 1, (acc + (((64 : Int32) + ((U.1 27).2 b 4)).toInt64))) (show 1 ≤ (b + 1) ∧ (b + 1) ≤ nb from (by omega)) (by show nb - (b + 1) < nb - b; omega))
  · -- 45: not (nI b) < (nI nb)
    have nh2 : ¬ b < nb := fun z => h2 (show nI b < nI nb from (nI_ltI (by omega) (by omega)).mpr z)
    refine mw_go mu_g397 (k := 2) (f1 := (49, [(3, .inl (nI b)), (1, .inr (.inl acc)), (0, .inr (.inr (some 129)))], [.inr (.inr (mu_r H 129 23))], H)) (C := [mu_is H (some 129) 9]) rfl (show mu_is H (some 129) 9 from (h.1.1.is rfl)) ?_
    rw [(h.1.1.r (p := 129) (j := 23) (q := 167) rfl)]
    refine mw_go mu_g397 (k := 2) (f1 := (51, [(3, .inl (nI b)), (1, .inr (.inl acc)), (0, .inr (.inr (some 129)))], [.inl (3 : Int32), .inl (0 : Int32), .inr (.inr (some 167))], H)) (C := []) rfl trivial ?_
    refine mw_cIe (fun _ => rfl) (show mu_is H (some 167) 10 from (h.1.1.is rfl)) (h.getr (d := (d + 1)) e (j := 27) (by decide) rfl (0 : Int32) (c := 3) (by decide)) ?_
    rw [show (tget (U.1 27) (0 : Int32) 3) = (nI (ba + n0)) from ((congrArg (fun z => tget z (0 : Int32) 3) (show U.1 27 = (U.1 27) from rfl)).trans (tget_nI (by first | omega | decide))).trans hX.1.2.1]
    refine mw_go mu_g397 (k := 2) (f1 := (58, [(3, .inl (nI b)), (1, .inr (.inl acc)), (0, .inr (.inr (some 129)))], [.inr (.inr (mu_r H 129 3)), .inl (nI (ba + n0))], H)) (C := [mu_is H (some 129) 9]) rfl (show mu_is H (some 129) 9 from (h.1.1.is rfl)) ?_
    rw [(h.1.1.r (p := 129) (j := 3) (q := 132) rfl)]
    refine mw_go mu_g397 (k := 2) (f1 := (62, [(3, .inl (nI b)), (1, .inr (.inl acc)), (0, .inr (.inr (some 129)))], [.inl (mu_i H 129 22), .inr (.inr (some 132)), .inl (nI (ba + n0))], H)) (C := [mu_is H (some 129) 9]) rfl (show mu_is H (some 129) 9 from (h.1.1.is rfl)) ?_
    rw [(show mu_i H 129 22 = (nI q) from (ud_i (U := U) (m := m) (P := 129) (j := 22) e rfl).trans h22U)]
    refine mw_go mu_g397 (k := 1) (f1 := (63, [(3, .inl (nI b)), (1, .inr (.inl acc)), (0, .inr (.inr (some 129)))], [.inl (0 : Int32), .inl (nI q), .inr (.inr (some 132)), .inl (nI (ba + n0))], H)) (C := []) rfl trivial ?_
    refine mw_cIe (fun _ => rfl) (show mu_is H (some 132) 10 from (h.1.1.is rfl)) (h.getr (d := (d + 1)) e (j := 25) (by decide) rfl (nI q) (c := 0) (by decide)) ?_
    rw [show (tget (U.1 25) (nI q) 0) = (nI ba) from ((congrArg (fun z => tget z (nI q) 0) (show U.1 25 = (U.1 25) from rfl)).trans (tget_nI (by first | omega | decide))).trans v0]
    refine mw_go mu_g397 (k := 1) (f1 := (67, [(3, .inl (nI b)), (1, .inr (.inl acc)), (0, .inr (.inr (some 129)))], [.inl ((nI (ba + n0)) - (nI ba))], H)) (C := []) rfl trivial ?_
    rw [(show ((nI (ba + n0)) - (nI ba)) = (nI ((ba + n0) - ba)) from (nI_sub (a := ba + n0) (b := ba) (by omega)))]
    refine mw_go mu_g397 (k := 6) (f1 := (77, [(3, .inl (nI ((ba + n0) - ba))), (1, .inr (.inl acc)), (0, .inr (.inr (some 129)))], [.inr (.inr (mu_r H 129 23)), .inr (.inl ((24 : Int64) * acc))], H)) (C := [mu_is H (some 129) 9]) rfl (show mu_is H (some 129) 9 from (h.1.1.is rfl)) ?_
    rw [(h.1.1.r (p := 129) (j := 23) (q := 167) rfl)]
    refine mw_go mu_g397 (k := 2) (f1 := (79, [(3, .inl (nI ((ba + n0) - ba))), (1, .inr (.inl acc)), (0, .inr (.inr (some 129)))], [.inl (4 : Int32), .inl (0 : Int32), .inr (.inr (some 167)), .inr (.inl ((24 : Int64) * acc))], H)) (C := []) rfl trivial ?_
    refine mw_cIe (fun _ => rfl) (show mu_is H (some 167) 10 from (h.1.1.is rfl)) (h.getr (d := (d + 1)) e (j := 27) (by decide) rfl (0 : Int32) (c := 4) (by decide)) ?_
    rw [show (tget (U.1 27) (0 : Int32) 4) = ((U.1 27).2 0 4) from (congrArg (fun z => tget z (0 : Int32) 4) (show U.1 27 = (U.1 27) from rfl)).trans (tget_nI (by first | omega | decide))]
    refine mw_go mu_g397 (k := 5) (f1 := (87, [(3, .inl (nI ((ba + n0) - ba))), (1, .inr (.inl acc)), (0, .inr (.inr (some 129)))], [.inl (lg_cmp ((24 : Int64) * acc) ((((U.1 27).2 0 4).toInt64) * ((nI ((ba + n0) - ba)).toInt64)))], H)) (C := []) rfl trivial ?_
    refine mw_if (P := 0 < (lg_cmp ((24 : Int64) * acc) ((((U.1 27).2 0 4).toInt64) * ((nI ((ba + n0) - ba)).toInt64)))) (a := 90) (b := 188) (fun _ => rfl) trivial (fun h7 => ?_) (fun h7 => ?_)
    · -- 90: 0 < (lg_cmp ((24 : Int64) * acc) ((((U.1 27).2 0 4).toInt64) * ((nI ((ba + n0) - ba)).toInt64)))
      refine mw_go mu_g397 (k := 2) (f1 := (94, [(3, .inl (nI ((ba + n0) - ba))), (1, .inr (.inl acc)), (0, .inr (.inr (some 129)))], [.inr (.inr (mu_r H 129 23))], H)) (C := [mu_is H (some 129) 9]) rfl (show mu_is H (some 129) 9 from (h.1.1.is rfl)) ?_
      rw [(h.1.1.r (p := 129) (j := 23) (q := 167) rfl)]
      refine mw_go mu_g397 (k := 2) (f1 := (96, [(3, .inl (nI ((ba + n0) - ba))), (1, .inr (.inl acc)), (0, .inr (.inr (some 129)))], [.inl (0 : Int32), .inl (1 : Int32), .inr (.inr (some 167))], H)) (C := []) rfl trivial ?_
      refine mw_cIe (fun _ => rfl) (show mu_is H (some 167) 10 from (h.1.1.is rfl)) (h.getr (d := (d + 1)) e (j := 27) (by decide) rfl (1 : Int32) (c := 0) (by decide)) ?_
      rw [show (tget (U.1 27) (1 : Int32) 0) = (nI (bo 1 0)) from ((congrArg (fun z => tget z (1 : Int32) 0) (show U.1 27 = (U.1 27) from rfl)).trans (tget_nI (by first | omega | decide))).trans (hB.2.2 1 0 (by omega) (by decide)).1]
      refine mw_go mu_g397 (k := 5) (f1 := (108, [(4, .inl (nI (bo 1 0))), (3, .inl (nI ((ba + n0) - ba))), (1, .inr (.inl acc)), (0, .inr (.inr (some 129)))], [.inr (.inr (mu_r H 129 1)), .inl (nI (bo 1 0)), .inr (.inr (some 129))], H)) (C := [mu_is H (some 129) 9]) rfl (show mu_is H (some 129) 9 from (h.1.1.is rfl)) ?_
      rw [(h.1.1.r (p := 129) (j := 1) (q := 130) rfl)]
      refine mw_go mu_g397 (k := 1) (f1 := (111, [(4, .inl (nI (bo 1 0))), (3, .inl (nI ((ba + n0) - ba))), (1, .inr (.inl acc)), (0, .inr (.inr (some 129)))], [.inl (mu_i H 130 2), .inl (nI (bo 1 0)), .inr (.inr (some 129))], H)) (C := [mu_is H (some 130) 10]) rfl (show mu_is H (some 130) 10 from (h.1.1.is rfl)) ?_
      rw [(show mu_i H 130 2 = (nI nf) from (h.size e (j := 24) (by decide) rfl).trans (congrArg nI ((congrArg Prod.fst (show U.1 24 = (U.1 24) from rfl)).trans hnf)))]
      refine mw_if (P := (nI (bo 1 0)) < (nI nf)) (a := 114) (b := 127) (fun _ => rfl) trivial (fun h9 => ?_) (fun h9 => ?_)
      · -- 114: (nI (bo 1 0)) < (nI nf)
        have nh9 : (bo 1 0) < nf := (nI_ltI (by omega) (by omega)).mp (show nI (bo 1 0) < nI nf from h9)
        refine mw_go mu_g397 (k := 2) (f1 := (118, [(4, .inl (nI (bo 1 0))), (3, .inl (nI ((ba + n0) - ba))), (1, .inr (.inl acc)), (0, .inr (.inr (some 129)))], [.inr (.inr (mu_r H 129 1)), .inr (.inr (some 129))], H)) (C := [mu_is H (some 129) 9]) rfl (show mu_is H (some 129) 9 from (h.1.1.is rfl)) ?_
        rw [(h.1.1.r (p := 129) (j := 1) (q := 130) rfl)]
        refine mw_go mu_g397 (k := 2) (f1 := (121, [(4, .inl (nI (bo 1 0))), (3, .inl (nI ((ba + n0) - ba))), (1, .inr (.inl acc)), (0, .inr (.inr (some 129)))], [.inl (2 : Int32), .inl (nI (bo 1 0)), .inr (.inr (some 130)), .inr (.inr (some 129))], H)) (C := []) rfl trivial ?_
        refine mw_cIe (fun _ => rfl) (show mu_is H (some 130) 10 from (h.1.1.is rfl)) (h.getr (d := (d + 1)) e (j := 24) (by decide) rfl (nI (bo 1 0)) (c := 2) (by decide)) ?_
        rw [show (tget (U.1 24) (nI (bo 1 0)) 2) = ((U.1 24).2 (bo 1 0) 2) from (congrArg (fun z => tget z (nI (bo 1 0)) 2) (show U.1 24 = (U.1 24) from rfl)).trans (tget_nI (by first | omega | decide))]
        refine mw_go mu_g397 (k := 2) (f1 := (134, [(4, .inl (nI (bo 1 0))), (3, .inl (nI ((ba + n0) - ba))), (1, .inr (.inl acc)), (0, .inr (.inr (some 129)))], [], (mu_si H 129 5 ((U.1 24).2 (bo 1 0) 2)))) (C := [mu_is H (some 129) 9]) rfl (show mu_is H (some 129) 9 from (h.1.1.is rfl)) ?_
        obtain ⟨u11, r11, d11⟩ : um m (mu_si H 129 5 ((U.1 24).2 (bo 1 0) 2)) ∧ ur m C H (mu_si H 129 5 ((U.1 24).2 (bo 1 0) 2)) ∧ ud m (mu_si H 129 5 ((U.1 24).2 (bo 1 0) 2)) = (upI U 129 5 ((U.1 24).2 (bo 1 0) 2)) := h.sI (C := C) e rfl
        generalize (mu_si H 129 5 ((U.1 24).2 (bo 1 0) 2)) = Q11 at u11 r11 d11 ⊢
        have qf11 : uq F397 U (upI U 129 5 ((U.1 24).2 (bo 1 0) 2)) := (uq.refl F397 U).I rfl
        have ht11 : ur m C H Q11 := (ur.refl m C H).trans r11
        obtain ⟨X1, hX1⟩ : ∃ X, X = (upI U 129 5 ((U.1 24).2 (bo 1 0) 2)) := ⟨_, rfl⟩
        rw [← hX1] at d11 qf11
        have zX1 : uq F397i U X1 := by rw [hX1]; exact ((uq.refl F397i U).I rfl)
        refine mw_go mu_g397 (k := 2) (f1 := (138, [(4, .inl (nI (bo 1 0))), (3, .inl (nI ((ba + n0) - ba))), (1, .inr (.inl acc)), (0, .inr (.inr (some 129)))], [.inr (.inr (mu_r Q11 129 1))], Q11)) (C := [mu_is Q11 (some 129) 9]) rfl (show mu_is Q11 (some 129) 9 from (u11.1.1.is rfl)) ?_
        rw [(u11.1.1.r (p := 129) (j := 1) (q := 130) rfl)]
        refine mw_go mu_g397 (k := 1) (f1 := (140, [(4, .inl (nI (bo 1 0))), (3, .inl (nI ((ba + n0) - ba))), (1, .inr (.inl acc)), (0, .inr (.inr (some 129)))], [.inl (nI (bo 1 0)), .inr (.inr (some 130))], Q11)) (C := []) rfl trivial ?_
        refine mw_cV (fun _ => rfl) (show mu_is Q11 (some 130) 10 from (u11.1.1.is rfl)) (u11.cutr (C := C) (d := d) d11 (j := 24) (Or.inr ⟨by decide, by decide⟩) rfl (k := bo 1 0) (by rw [(show (X1.1 24) = (U.1 24) from (zX1.t 24 rfl)), hnf]; exact hcf)) (fun Q12 q12 => ?_)
        obtain ⟨u12, r12, d12⟩ := q12
        have ht12 : ur m C H Q12 := ht11.trans r12
        have qf12 : uq F397 U (upT X1 (ac 24 X1.1 (bo 1 0))) := qf11.ac rfl
        obtain ⟨X2, hX2⟩ : ∃ X, X = (upT X1 (ac 24 X1.1 (bo 1 0))) := ⟨_, rfl⟩
        rw [← hX2] at d12 qf12
        have zX2 : uq F397f X1 X2 := by rw [hX2]; exact ((uq.refl F397f X1).T (fun q hq => by first | exact ax_ne (in1_ne rfl hq) | exact ap_ne (in1_ne rfl hq) | exact fu_ne _ _ (in1_ne rfl hq)))
        refine mw_go mu_g397 (k := 2) (f1 := (147, [(4, .inl (nI (bo 1 0))), (3, .inl (nI ((ba + n0) - ba))), (1, .inr (.inl acc)), (0, .inr (.inr (some 129)))], [.inr (.inr (mu_r Q12 129 3))], Q12)) (C := [mu_is Q12 (some 129) 9]) rfl (show mu_is Q12 (some 129) 9 from (u12.1.1.is rfl)) ?_
        rw [(u12.1.1.r (p := 129) (j := 3) (q := 132) rfl)]
        refine mw_go mu_g397 (k := 2) (f1 := (151, [(4, .inl (nI (bo 1 0))), (3, .inl (nI ((ba + n0) - ba))), (1, .inr (.inl acc)), (0, .inr (.inr (some 129)))], [.inr (.inr (mu_r Q12 129 23)), .inr (.inr (some 132))], Q12)) (C := [mu_is Q12 (some 129) 9]) rfl (show mu_is Q12 (some 129) 9 from (u12.1.1.is rfl)) ?_
        rw [(u12.1.1.r (p := 129) (j := 23) (q := 167) rfl)]
        refine mw_go mu_g397 (k := 2) (f1 := (153, [(4, .inl (nI (bo 1 0))), (3, .inl (nI ((ba + n0) - ba))), (1, .inr (.inl acc)), (0, .inr (.inr (some 129)))], [.inl (1 : Int32), .inl (1 : Int32), .inr (.inr (some 167)), .inr (.inr (some 132))], Q12)) (C := []) rfl trivial ?_
        refine mw_cIe (fun _ => rfl) (show mu_is Q12 (some 167) 10 from (u12.1.1.is rfl)) (u12.getr (d := (d + 1)) d12 (j := 27) (by decide) rfl (1 : Int32) (c := 1) (by decide)) ?_
        rw [show (tget (X2.1 27) (1 : Int32) 1) = (nI (bo 1 1)) from ((congrArg (fun z => tget z (1 : Int32) 1) (show X2.1 27 = (U.1 27) from ((zX2.t 27 rfl).trans (zX1.t 27 rfl)))).trans (tget_nI (by first | omega | decide))).trans (hB.2.2 1 1 (by omega) (by decide)).1]
        refine mw_cV (fun _ => rfl) (show mu_is Q12 (some 132) 10 from (u12.1.1.is rfl)) (u12.cutr (C := C) (d := d) d12 (j := 25) (Or.inr ⟨by decide, by decide⟩) rfl (k := bo 1 1) (by rw [(show (X2.1 25) = (U.1 25) from ((zX2.t 25 rfl).trans (zX1.t 25 rfl))), hnw]; exact hcw)) (fun Q14 q14 => ?_)
        obtain ⟨u14, r14, d14⟩ := q14
        have ht14 : ur m C H Q14 := ht12.trans r14
        have qf14 : uq F397 U (upT X2 (ac 25 X2.1 (bo 1 1))) := qf12.ac rfl
        obtain ⟨X3, hX3⟩ : ∃ X, X = (upT X2 (ac 25 X2.1 (bo 1 1))) := ⟨_, rfl⟩
        rw [← hX3] at d14 qf14
        have zX3 : uq F394w X2 X3 := by rw [hX3]; exact ((uq.refl F394w X2).T (fun q hq => by first | exact ax_ne (in1_ne rfl hq) | exact ap_ne (in1_ne rfl hq) | exact fu_ne _ _ (in1_ne rfl hq)))
        refine mw_go mu_g397 (k := 2) (f1 := (163, [(4, .inl (nI (bo 1 0))), (3, .inl (nI ((ba + n0) - ba))), (1, .inr (.inl acc)), (0, .inr (.inr (some 129)))], [.inr (.inr (mu_r Q14 129 3))], Q14)) (C := [mu_is Q14 (some 129) 9]) rfl (show mu_is Q14 (some 129) 9 from (u14.1.1.is rfl)) ?_
        rw [(u14.1.1.r (p := 129) (j := 3) (q := 132) rfl)]
        refine mw_go mu_g397 (k := 2) (f1 := (167, [(4, .inl (nI (bo 1 0))), (3, .inl (nI ((ba + n0) - ba))), (1, .inr (.inl acc)), (0, .inr (.inr (some 129)))], [.inl (mu_i Q14 129 22), .inr (.inr (some 132))], Q14)) (C := [mu_is Q14 (some 129) 9]) rfl (show mu_is Q14 (some 129) 9 from (u14.1.1.is rfl)) ?_
        rw [(show mu_i Q14 129 22 = (nI q) from (ud_i (U := X3) (m := m) (P := 129) (j := 22) d14 rfl).trans ((zX3.i 129 22 rfl).trans ((zX2.i 129 22 rfl).trans ((zX1.i 129 22 rfl).trans h22U))))]
        refine mw_go mu_g397 (k := 3) (f1 := (172, [(4, .inl (nI (bo 1 0))), (3, .inl (nI ((ba + n0) - ba))), (1, .inr (.inl acc)), (0, .inr (.inr (some 129)))], [.inr (.inr (mu_r Q14 129 23)), .inl (1 : Int32), .inl (nI q), .inr (.inr (some 132))], Q14)) (C := [mu_is Q14 (some 129) 9]) rfl (show mu_is Q14 (some 129) 9 from (u14.1.1.is rfl)) ?_
        rw [(u14.1.1.r (p := 129) (j := 23) (q := 167) rfl)]
        refine mw_go mu_g397 (k := 2) (f1 := (174, [(4, .inl (nI (bo 1 0))), (3, .inl (nI ((ba + n0) - ba))), (1, .inr (.inl acc)), (0, .inr (.inr (some 129)))], [.inl (3 : Int32), .inl (0 : Int32), .inr (.inr (some 167)), .inl (1 : Int32), .inl (nI q), .inr (.inr (some 132))], Q14)) (C := []) rfl trivial ?_
        refine mw_cIe (fun _ => rfl) (show mu_is Q14 (some 167) 10 from (u14.1.1.is rfl)) (u14.getr (d := (d + 1)) d14 (j := 27) (by decide) rfl (0 : Int32) (c := 3) (by decide)) ?_
        rw [show (tget (X3.1 27) (0 : Int32) 3) = (nI (ba + n0)) from ((congrArg (fun z => tget z (0 : Int32) 3) (show X3.1 27 = (U.1 27) from ((zX3.t 27 rfl).trans ((zX2.t 27 rfl).trans (zX1.t 27 rfl))))).trans (tget_nI (by first | omega | decide))).trans hX.1.2.1]
        refine mw_cV (fun _ => rfl) (show mu_is Q14 (some 132) 10 from (u14.1.1.is rfl)) (u14.setr (C := C) (d := (d + 1)) d14 (j := 25) (Or.inr ⟨by decide, by decide⟩) rfl (nI q) (nI (ba + n0)) (c := 1) (by decide)) (fun Q16 q16 => ?_)
        obtain ⟨u16, r16, d16⟩ := q16
        have ht16 : ur m C H Q16 := ht14.trans r16
        have qf16 : uq F397 U (upT X3 (ax 25 X3.1 (nI q) 1 (nI (ba + n0)))) := qf14.ax rfl
        obtain ⟨X4, hX4⟩ : ∃ X, X = (upT X3 (ax 25 X3.1 (nI q) 1 (nI (ba + n0)))) := ⟨_, rfl⟩
        rw [← hX4] at d16 qf16
        have zX4 : uq F394w X3 X4 := by rw [hX4]; exact ((uq.refl F394w X3).T (fun q hq => by first | exact ax_ne (in1_ne rfl hq) | exact ap_ne (in1_ne rfl hq) | exact fu_ne _ _ (in1_ne rfl hq)))
        refine mw_go mu_g397 (k := 2) (f1 := (184, [(4, .inl (nI (bo 1 0))), (3, .inl (nI ((ba + n0) - ba))), (1, .inr (.inl acc)), (0, .inr (.inr (some 129)))], [.inr (.inr (mu_r Q16 129 23))], Q16)) (C := [mu_is Q16 (some 129) 9]) rfl (show mu_is Q16 (some 129) 9 from (u16.1.1.is rfl)) ?_
        rw [(u16.1.1.r (p := 129) (j := 23) (q := 167) rfl)]
        refine mw_go mu_g397 (k := 1) (f1 := (185, [(4, .inl (nI (bo 1 0))), (3, .inl (nI ((ba + n0) - ba))), (1, .inr (.inl acc)), (0, .inr (.inr (some 129)))], [.inl (1 : Int32), .inr (.inr (some 167))], Q16)) (C := []) rfl trivial ?_
        refine mw_cV (fun _ => rfl) (show mu_is Q16 (some 167) 10 from (u16.1.1.is rfl)) (u16.cutr (C := C) (d := d) d16 (j := 27) (Or.inr ⟨by decide, by decide⟩) rfl (k := 1) (by rw [(show (X4.1 27) = (U.1 27) from ((zX4.t 27 rfl).trans ((zX3.t 27 rfl).trans ((zX2.t 27 rfl).trans (zX1.t 27 rfl))))), hnbs]; omega)) (fun Q17 q17 => ?_)
        obtain ⟨u17, r17, d17⟩ := q17
        have ht17 : ur m C H Q17 := ht16.trans r17
        have qf17 : uq F397 U (upT X4 (ac 27 X4.1 1)) := qf16.ac rfl
        obtain ⟨X5, hX5⟩ : ∃ X, X = (upT X4 (ac 27 X4.1 1)) := ⟨_, rfl⟩
        rw [← hX5] at d17 qf17
        have zX5 : uq F394b X4 X5 := by rw [hX5]; exact ((uq.refl F394b X4).T (fun q hq => by first | exact ax_ne (in1_ne rfl hq) | exact ap_ne (in1_ne rfl hq) | exact fu_ne _ _ (in1_ne rfl hq)))
        refine mw_of (fun _ => mu_ret rfl trivial ⟨Q17, rfl, u17, ht17, (by rw [d17]; exact qf17), ?_⟩)
        rw [d17]
        have h24w : X5.1 24 = tcut (U.1 24) (bo 1 0) := by rw [show X5.1 24 = X2.1 24 from (zX5.t 24 rfl).trans ((zX4.t 24 rfl).trans (zX3.t 24 rfl)), hX2, ← (show X1.1 24 = U.1 24 from zX1.t 24 rfl)]; rfl
        have h25w : X5.1 25 = tset 5 (tcut (U.1 25) (bo 1 1)) (nI q) 1 (nI (ba + n0)) := by
          rw [show X5.1 25 = X4.1 25 from zX5.t 25 rfl, hX4, show (upT X3 (ax 25 X3.1 (nI q) 1 (nI (ba + n0)))).1 25 = tset 5 (X3.1 25) (nI q) 1 (nI (ba + n0)) from rfl, hX3, ← (show X2.1 25 = U.1 25 from (zX2.t 25 rfl).trans (zX1.t 25 rfl))]
          rfl
        have h27w : X5.1 27 = tcut (U.1 27) 1 := by rw [hX5, ← (show X4.1 27 = U.1 27 from (zX4.t 27 rfl).trans ((zX3.t 27 rfl).trans ((zX2.t 27 rfl).trans (zX1.t 27 rfl))))]; rfl
        have zU : uq F397 U X5 := ((((((uq.refl F397 U).tr zX1 rfl).tr zX2 rfl).tr zX3 rfl).tr zX4 rfl).tr zX5 rfl)
        exact ⟨hK.q zU rfl rfl, hR.back (V := X5) hcn hX rfl rfl h24w h25w h27w (zU.t 15 rfl) (zU.a 99 8 rfl) (zU.a 129 4 rfl) (zU.i 113 1 rfl) (zU.i 113 2 rfl) (zU.i 113 5 rfl) (zU.i 113 7 rfl) (zU.a 113 3 rfl) (zU.a 113 4 rfl) (congrFun (zU.2.2.2.2.2 rfl) 114) (zU.l 145 rfl)⟩
      · -- 127: not (nI (bo 1 0)) < (nI nf)
        have nh9 : ¬ (bo 1 0) < nf := fun z => h9 (show nI (bo 1 0) < nI nf from (nI_ltI (by omega) (by omega)).mpr z)
        refine mw_go mu_g397 (k := 2) (f1 := (131, [(4, .inl (nI (bo 1 0))), (3, .inl (nI ((ba + n0) - ba))), (1, .inr (.inl acc)), (0, .inr (.inr (some 129)))], [.inl (mu_i H 129 5), .inr (.inr (some 129))], H)) (C := [mu_is H (some 129) 9]) rfl (show mu_is H (some 129) 9 from (h.1.1.is rfl)) ?_
        rw [(show mu_i H 129 5 = (U.2.1 129 5) from (ud_i (U := U) (m := m) (P := 129) (j := 5) e rfl))]
        refine mw_go mu_g397 (k := 1) (f1 := (134, [(4, .inl (nI (bo 1 0))), (3, .inl (nI ((ba + n0) - ba))), (1, .inr (.inl acc)), (0, .inr (.inr (some 129)))], [], (mu_si H 129 5 (U.2.1 129 5)))) (C := [mu_is H (some 129) 9]) rfl (show mu_is H (some 129) 9 from (h.1.1.is rfl)) ?_
        obtain ⟨u18, r18, d18⟩ : um m (mu_si H 129 5 (U.2.1 129 5)) ∧ ur m C H (mu_si H 129 5 (U.2.1 129 5)) ∧ ud m (mu_si H 129 5 (U.2.1 129 5)) = (upI U 129 5 (U.2.1 129 5)) := h.sI (C := C) e rfl
        generalize (mu_si H 129 5 (U.2.1 129 5)) = Q18 at u18 r18 d18 ⊢
        have qf18 : uq F397 U (upI U 129 5 (U.2.1 129 5)) := (uq.refl F397 U).I rfl
        have ht18 : ur m C H Q18 := (ur.refl m C H).trans r18
        obtain ⟨X1, hX1⟩ : ∃ X, X = (upI U 129 5 (U.2.1 129 5)) := ⟨_, rfl⟩
        rw [← hX1] at d18 qf18
        have zX1 : uq F397i U X1 := by rw [hX1]; exact ((uq.refl F397i U).I rfl)
        refine mw_go mu_g397 (k := 2) (f1 := (138, [(4, .inl (nI (bo 1 0))), (3, .inl (nI ((ba + n0) - ba))), (1, .inr (.inl acc)), (0, .inr (.inr (some 129)))], [.inr (.inr (mu_r Q18 129 1))], Q18)) (C := [mu_is Q18 (some 129) 9]) rfl (show mu_is Q18 (some 129) 9 from (u18.1.1.is rfl)) ?_
        rw [(u18.1.1.r (p := 129) (j := 1) (q := 130) rfl)]
        refine mw_go mu_g397 (k := 1) (f1 := (140, [(4, .inl (nI (bo 1 0))), (3, .inl (nI ((ba + n0) - ba))), (1, .inr (.inl acc)), (0, .inr (.inr (some 129)))], [.inl (nI (bo 1 0)), .inr (.inr (some 130))], Q18)) (C := []) rfl trivial ?_
        refine mw_cV (fun _ => rfl) (show mu_is Q18 (some 130) 10 from (u18.1.1.is rfl)) (u18.cutr (C := C) (d := d) d18 (j := 24) (Or.inr ⟨by decide, by decide⟩) rfl (k := bo 1 0) (by rw [(show (X1.1 24) = (U.1 24) from (zX1.t 24 rfl)), hnf]; exact hcf)) (fun Q19 q19 => ?_)
        obtain ⟨u19, r19, d19⟩ := q19
        have ht19 : ur m C H Q19 := ht18.trans r19
        have qf19 : uq F397 U (upT X1 (ac 24 X1.1 (bo 1 0))) := qf18.ac rfl
        obtain ⟨X2, hX2⟩ : ∃ X, X = (upT X1 (ac 24 X1.1 (bo 1 0))) := ⟨_, rfl⟩
        rw [← hX2] at d19 qf19
        have zX2 : uq F397f X1 X2 := by rw [hX2]; exact ((uq.refl F397f X1).T (fun q hq => by first | exact ax_ne (in1_ne rfl hq) | exact ap_ne (in1_ne rfl hq) | exact fu_ne _ _ (in1_ne rfl hq)))
        refine mw_go mu_g397 (k := 2) (f1 := (147, [(4, .inl (nI (bo 1 0))), (3, .inl (nI ((ba + n0) - ba))), (1, .inr (.inl acc)), (0, .inr (.inr (some 129)))], [.inr (.inr (mu_r Q19 129 3))], Q19)) (C := [mu_is Q19 (some 129) 9]) rfl (show mu_is Q19 (some 129) 9 from (u19.1.1.is rfl)) ?_
        rw [(u19.1.1.r (p := 129) (j := 3) (q := 132) rfl)]
        refine mw_go mu_g397 (k := 2) (f1 := (151, [(4, .inl (nI (bo 1 0))), (3, .inl (nI ((ba + n0) - ba))), (1, .inr (.inl acc)), (0, .inr (.inr (some 129)))], [.inr (.inr (mu_r Q19 129 23)), .inr (.inr (some 132))], Q19)) (C := [mu_is Q19 (some 129) 9]) rfl (show mu_is Q19 (some 129) 9 from (u19.1.1.is rfl)) ?_
        rw [(u19.1.1.r (p := 129) (j := 23) (q := 167) rfl)]
        refine mw_go mu_g397 (k := 2) (f1 := (153, [(4, .inl (nI (bo 1 0))), (3, .inl (nI ((ba + n0) - ba))), (1, .inr (.inl acc)), (0, .inr (.inr (some 129)))], [.inl (1 : Int32), .inl (1 : Int32), .inr (.inr (some 167)), .inr (.inr (some 132))], Q19)) (C := []) rfl trivial ?_
        refine mw_cIe (fun _ => rfl) (show mu_is Q19 (some 167) 10 from (u19.1.1.is rfl)) (u19.getr (d := (d + 1)) d19 (j := 27) (by decide) rfl (1 : Int32) (c := 1) (by decide)) ?_
        rw [show (tget (X2.1 27) (1 : Int32) 1) = (nI (bo 1 1)) from ((congrArg (fun z => tget z (1 : Int32) 1) (show X2.1 27 = (U.1 27) from ((zX2.t 27 rfl).trans (zX1.t 27 rfl)))).trans (tget_nI (by first | omega | decide))).trans (hB.2.2 1 1 (by omega) (by decide)).1]
        refine mw_cV (fun _ => rfl) (show mu_is Q19 (some 132) 10 from (u19.1.1.is rfl)) (u19.cutr (C := C) (d := d) d19 (j := 25) (Or.inr ⟨by decide, by decide⟩) rfl (k := bo 1 1) (by rw [(show (X2.1 25) = (U.1 25) from ((zX2.t 25 rfl).trans (zX1.t 25 rfl))), hnw]; exact hcw)) (fun Q21 q21 => ?_)
        obtain ⟨u21, r21, d21⟩ := q21
        have ht21 : ur m C H Q21 := ht19.trans r21
        have qf21 : uq F397 U (upT X2 (ac 25 X2.1 (bo 1 1))) := qf19.ac rfl
        obtain ⟨X3, hX3⟩ : ∃ X, X = (upT X2 (ac 25 X2.1 (bo 1 1))) := ⟨_, rfl⟩
        rw [← hX3] at d21 qf21
        have zX3 : uq F394w X2 X3 := by rw [hX3]; exact ((uq.refl F394w X2).T (fun q hq => by first | exact ax_ne (in1_ne rfl hq) | exact ap_ne (in1_ne rfl hq) | exact fu_ne _ _ (in1_ne rfl hq)))
        refine mw_go mu_g397 (k := 2) (f1 := (163, [(4, .inl (nI (bo 1 0))), (3, .inl (nI ((ba + n0) - ba))), (1, .inr (.inl acc)), (0, .inr (.inr (some 129)))], [.inr (.inr (mu_r Q21 129 3))], Q21)) (C := [mu_is Q21 (some 129) 9]) rfl (show mu_is Q21 (some 129) 9 from (u21.1.1.is rfl)) ?_
        rw [(u21.1.1.r (p := 129) (j := 3) (q := 132) rfl)]
        refine mw_go mu_g397 (k := 2) (f1 := (167, [(4, .inl (nI (bo 1 0))), (3, .inl (nI ((ba + n0) - ba))), (1, .inr (.inl acc)), (0, .inr (.inr (some 129)))], [.inl (mu_i Q21 129 22), .inr (.inr (some 132))], Q21)) (C := [mu_is Q21 (some 129) 9]) rfl (show mu_is Q21 (some 129) 9 from (u21.1.1.is rfl)) ?_
        rw [(show mu_i Q21 129 22 = (nI q) from (ud_i (U := X3) (m := m) (P := 129) (j := 22) d21 rfl).trans ((zX3.i 129 22 rfl).trans ((zX2.i 129 22 rfl).trans ((zX1.i 129 22 rfl).trans h22U))))]
        refine mw_go mu_g397 (k := 3) (f1 := (172, [(4, .inl (nI (bo 1 0))), (3, .inl (nI ((ba + n0) - ba))), (1, .inr (.inl acc)), (0, .inr (.inr (some 129)))], [.inr (.inr (mu_r Q21 129 23)), .inl (1 : Int32), .inl (nI q), .inr (.inr (some 132))], Q21)) (C := [mu_is Q21 (some 129) 9]) rfl (show mu_is Q21 (some 129) 9 from (u21.1.1.is rfl)) ?_
        rw [(u21.1.1.r (p := 129) (j := 23) (q := 167) rfl)]
        refine mw_go mu_g397 (k := 2) (f1 := (174, [(4, .inl (nI (bo 1 0))), (3, .inl (nI ((ba + n0) - ba))), (1, .inr (.inl acc)), (0, .inr (.inr (some 129)))], [.inl (3 : Int32), .inl (0 : Int32), .inr (.inr (some 167)), .inl (1 : Int32), .inl (nI q), .inr (.inr (some 132))], Q21)) (C := []) rfl trivial ?_
        refine mw_cIe (fun _ => rfl) (show mu_is Q21 (some 167) 10 from (u21.1.1.is rfl)) (u21.getr (d := (d + 1)) d21 (j := 27) (by decide) rfl (0 : Int32) (c := 3) (by decide)) ?_
        rw [show (tget (X3.1 27) (0 : Int32) 3) = (nI (ba + n0)) from ((congrArg (fun z => tget z (0 : Int32) 3) (show X3.1 27 = (U.1 27) from ((zX3.t 27 rfl).trans ((zX2.t 27 rfl).trans (zX1.t 27 rfl))))).trans (tget_nI (by first | omega | decide))).trans hX.1.2.1]
        refine mw_cV (fun _ => rfl) (show mu_is Q21 (some 132) 10 from (u21.1.1.is rfl)) (u21.setr (C := C) (d := (d + 1)) d21 (j := 25) (Or.inr ⟨by decide, by decide⟩) rfl (nI q) (nI (ba + n0)) (c := 1) (by decide)) (fun Q23 q23 => ?_)
        obtain ⟨u23, r23, d23⟩ := q23
        have ht23 : ur m C H Q23 := ht21.trans r23
        have qf23 : uq F397 U (upT X3 (ax 25 X3.1 (nI q) 1 (nI (ba + n0)))) := qf21.ax rfl
        obtain ⟨X4, hX4⟩ : ∃ X, X = (upT X3 (ax 25 X3.1 (nI q) 1 (nI (ba + n0)))) := ⟨_, rfl⟩
        rw [← hX4] at d23 qf23
        have zX4 : uq F394w X3 X4 := by rw [hX4]; exact ((uq.refl F394w X3).T (fun q hq => by first | exact ax_ne (in1_ne rfl hq) | exact ap_ne (in1_ne rfl hq) | exact fu_ne _ _ (in1_ne rfl hq)))
        refine mw_go mu_g397 (k := 2) (f1 := (184, [(4, .inl (nI (bo 1 0))), (3, .inl (nI ((ba + n0) - ba))), (1, .inr (.inl acc)), (0, .inr (.inr (some 129)))], [.inr (.inr (mu_r Q23 129 23))], Q23)) (C := [mu_is Q23 (some 129) 9]) rfl (show mu_is Q23 (some 129) 9 from (u23.1.1.is rfl)) ?_
        rw [(u23.1.1.r (p := 129) (j := 23) (q := 167) rfl)]
        refine mw_go mu_g397 (k := 1) (f1 := (185, [(4, .inl (nI (bo 1 0))), (3, .inl (nI ((ba + n0) - ba))), (1, .inr (.inl acc)), (0, .inr (.inr (some 129)))], [.inl (1 : Int32), .inr (.inr (some 167))], Q23)) (C := []) rfl trivial ?_
        refine mw_cV (fun _ => rfl) (show mu_is Q23 (some 167) 10 from (u23.1.1.is rfl)) (u23.cutr (C := C) (d := d) d23 (j := 27) (Or.inr ⟨by decide, by decide⟩) rfl (k := 1) (by rw [(show (X4.1 27) = (U.1 27) from ((zX4.t 27 rfl).trans ((zX3.t 27 rfl).trans ((zX2.t 27 rfl).trans (zX1.t 27 rfl))))), hnbs]; omega)) (fun Q24 q24 => ?_)
        obtain ⟨u24, r24, d24⟩ := q24
        have ht24 : ur m C H Q24 := ht23.trans r24
        have qf24 : uq F397 U (upT X4 (ac 27 X4.1 1)) := qf23.ac rfl
        obtain ⟨X5, hX5⟩ : ∃ X, X = (upT X4 (ac 27 X4.1 1)) := ⟨_, rfl⟩
        rw [← hX5] at d24 qf24
        have zX5 : uq F394b X4 X5 := by rw [hX5]; exact ((uq.refl F394b X4).T (fun q hq => by first | exact ax_ne (in1_ne rfl hq) | exact ap_ne (in1_ne rfl hq) | exact fu_ne _ _ (in1_ne rfl hq)))
        refine mw_of (fun _ => mu_ret rfl trivial ⟨Q24, rfl, u24, ht24, (by rw [d24]; exact qf24), ?_⟩)
        rw [d24]
        have h24w : X5.1 24 = tcut (U.1 24) (bo 1 0) := by rw [show X5.1 24 = X2.1 24 from (zX5.t 24 rfl).trans ((zX4.t 24 rfl).trans (zX3.t 24 rfl)), hX2, ← (show X1.1 24 = U.1 24 from zX1.t 24 rfl)]; rfl
        have h25w : X5.1 25 = tset 5 (tcut (U.1 25) (bo 1 1)) (nI q) 1 (nI (ba + n0)) := by
          rw [show X5.1 25 = X4.1 25 from zX5.t 25 rfl, hX4, show (upT X3 (ax 25 X3.1 (nI q) 1 (nI (ba + n0)))).1 25 = tset 5 (X3.1 25) (nI q) 1 (nI (ba + n0)) from rfl, hX3, ← (show X2.1 25 = U.1 25 from (zX2.t 25 rfl).trans (zX1.t 25 rfl))]
          rfl
        have h27w : X5.1 27 = tcut (U.1 27) 1 := by rw [hX5, ← (show X4.1 27 = U.1 27 from (zX4.t 27 rfl).trans ((zX3.t 27 rfl).trans ((zX2.t 27 rfl).trans (zX1.t 27 rfl))))]; rfl
        have zU : uq F397 U X5 := ((((((uq.refl F397 U).tr zX1 rfl).tr zX2 rfl).tr zX3 rfl).tr zX4 rfl).tr zX5 rfl)
        exact ⟨hK.q zU rfl rfl, hR.back (V := X5) hcn hX rfl rfl h24w h25w h27w (zU.t 15 rfl) (zU.a 99 8 rfl) (zU.a 129 4 rfl) (zU.i 113 1 rfl) (zU.i 113 2 rfl) (zU.i 113 5 rfl) (zU.i 113 7 rfl) (zU.a 113 3 rfl) (zU.a 113 4 rfl) (congrFun (zU.2.2.2.2.2 rfl) 114) (zU.l 145 rfl)⟩
    · -- 188: not 0 < (lg_cmp ((24 : Int64) * acc) ((((U.1 27).2 0 4).toInt64) * ((nI ((ba + n0) - ba)).toInt64)))
      refine mw_of (fun _ => mu_ret rfl trivial ⟨H, rfl, h, (ur.refl m C H), (by rw [e]; exact (uq.refl F397 U)), ?_⟩)
      rw [e]
      exact ⟨hK, hR.all hcn hX⟩
theorem rl_weigh0 (h : um m H) (e : ud m H = U) (h22 : U.2.1 129 22 = -1) : mu_TV (mu_D (d + 3)) 397 [.inr (.inr (some 129))] H (fun H1 => um m H1 ∧ ur m C H H1 ∧ ud m H1 = U) := by
  refine mu_meth (M := mu_m397) rfl rfl ?_
  refine mw_ht (mu_fn_of (show [0].Nodup by decide)) ?_
  refine mw_go mu_g397 (k := 2) (f1 := (4, [(0, .inr (.inr (some 129)))], [.inl (mu_i H 129 22)], H)) (C := [mu_is H (some 129) 9]) rfl (show mu_is H (some 129) 9 from (h.1.1.is rfl)) ?_
  rw [(show mu_i H 129 22 = (-1 : Int32) from (ud_i (U := U) (m := m) (P := 129) (j := 22) e rfl).trans h22)]
  refine mw_if (P := (-1 : Int32) < 0) (a := 7) (b := 8) (fun _ => rfl) trivial (fun h1 => ?_) (fun h1 => absurd (by decide) h1)
  exact mw_of (fun _ => mu_ret rfl trivial ⟨H, rfl, h, (ur.refl m C H), e⟩)
end Weigh
