/-! RELATION: openBranch, the first time -/
/-- where the branches stand: q the wide row, n0 how long it was, PN what is left of the last one -/
def BRX (V : Ud) (Y : Ts) (es : Nat → Int32) (U : Ud) (P : Nat) (f od : Nat → Nat) (nb q ba bn bi n0 : Nat) (pa pn : Nat → Nat) (G : Nat → Nat → Nat → Prop) (GF PN : Nat → Nat → Prop) : Prop :=
  (V.2.1 129 22 = nI q ∧ (V.1 27).2 0 3 = nI (ba + n0) ∧ (V.1 27).1 = nb) ∧ (∀ b, 1 ≤ b → b < nb → (V.1 27).2 b 2 = nI (pa b) ∧ (V.1 27).2 b 3 = nI (pa b + pn b) ∧ WTC Y es (pa b) (pn b) bi) ∧ (WTC Y es ba n0 bi ∧ bi < (Y 11).1 ∧ nb + bn ≤ 14001 ∧ bn ≤ n0) ∧
  (∀ s u, trs Y U f P od bi ba n0 s u = 1 ↔ (∃ b, 1 ≤ b ∧ b < nb ∧ trs Y U f P od bi (pa b) (pn b) s u = 1) ∨ (¬ bn = 0 ∧ trs Y U f P od bi ba bn s u = 1)) ∧
  (∀ s u, s < pd f 0 P → u < pd f 0 P → (GF s u ↔ G 0 s u ∧ trs Y U f P od bi ba n0 s u = 1)) ∧
  ∀ b s u, 1 ≤ b → b < nb → s < pd f 0 P → u < pd f 0 P → ((G b s u ∧ (b + 1 = nb → PN s u)) ↔ G 0 s u ∧ trs Y U f P od bi (pa b) (pn b) s u = 1)
section OpenFirst
variable {O0 : Nat → (Nat → Bool) × Bool} {H : mu_H} {U V : Ud} {m d P N0 sf nb ba bn bi N us nf nw ou cnt cnt' q a n i r s u : Nat} {C : Nat → Nat} {Y : Ts} {f od bs lv wa wn wi z : Nat → Nat} {wk : Nat → Bool} {es : Nat → Int32} {nm tm : Nat → Int32} {bo oid : Nat → Nat → Nat} {S : Nat → Nat → Bool} {p : Nat → Bool} {br : Option Nat} {A : Nat → Prop} {G : Nat → Nat → Nat → Prop} {T : Tb} {row v : Int32}
theorem tsx_1 {w c : Nat} : (tset w T row c v).1 = T.1 := by
  unfold tset
  by_cases h : row < 0
  · rw [if_pos h]
  · rw [if_neg h]
    by_cases h2 : row.toNatClampNeg < T.1 ∧ c < w
    · rw [if_pos h2]
    · rw [if_neg h2]
theorem tsx_c {w c c' : Nat} (hc : ¬ c' = c) : (tset w T row c v).2 r c' = T.2 r c' := by
  unfold tset
  by_cases h : row < 0
  · rw [if_pos h]
  · rw [if_neg h]
    by_cases h2 : row.toNatClampNeg < T.1 ∧ c < w
    · rw [if_pos h2]
      show (if r = row.toNatClampNeg ∧ c' = c then v else T.2 r c') = _
      rw [if_neg (fun y => hc y.2)]
    · rw [if_neg h2]
theorem tpo_old {a b c e : Int32} {k : Nat} (h : ¬ r = T.1) : (tput 5 T a b c e).2 r k = T.2 r k := by
  show (if r = T.1 then (if k < 5 then rw_col a b c e k else 0) else T.2 r k) = _
  rw [if_neg h]
theorem tpo_new {a b c e : Int32} {k : Nat} (h : r = T.1) (hk : k < 5) : (tput 5 T a b c e).2 r k = rw_col a b c e k := by
  show (if r = T.1 then (if k < 5 then rw_col a b c e k else 0) else T.2 r k) = _
  rw [if_pos h, if_pos hk]
theorem ts0_at (h : 0 < T.1) : (tset 5 T (0 : Int32) 3 v).2 0 3 = v := by
  unfold tset
  rw [if_neg (by decide), show (0 : Int32).toNatClampNeg = 0 from rfl, if_pos ⟨h, by decide⟩]
  show (if 0 = 0 ∧ 3 = 3 then v else T.2 0 3) = v
  rw [if_pos ⟨rfl, rfl⟩]
/-- what is noted of branches beside where their rows begin -/
theorem RLO.t27 {c : Nat} (h : RLO U Y es P f od N0 O0 sf nb bo br ba bn bi A N us S z p nf nm tm bs lv oid nw wa wn wi wk ou cnt G) (hc : 2 ≤ c) : RLO (upT U (ax 27 U.1 row c v)) Y es P f od N0 O0 sf nb bo br ba bn bi A N us S z p nf nm tm bs lv oid nw wa wn wi wk ou cnt G := by
  obtain ⟨h1, h2, h3, h4⟩ := h
  obtain ⟨⟨hF, hSO, hW⟩, ⟨hB, hr1⟩, hr2, hr3, hr4, hr5, hr6⟩ := h1
  have e27 : (upT U (ax 27 U.1 row c v)).1 27 = tset 5 (U.1 27) row c v := rfl
  have hBn : BRT (upT U (ax 27 U.1 row c v)) nb bo := by
    obtain ⟨b1, b2, b3⟩ := hB
    unfold BRT
    rw [e27]
    exact ⟨tsx_1.trans b1, b2, fun b c' hb hc' => ⟨(tsx_c (by omega)).trans (b3 b c' hb hc').1, (b3 b c' hb hc').2⟩⟩
  exact ⟨⟨⟨hF, hSO.eq rfl rfl rfl rfl rfl rfl, hW⟩, ⟨hBn, hr1⟩, hr2, hr3, hr4, hr5, hr6⟩, h2, h3, fun b s t hb hs ht => (and_congr Iff.rfl (LVB.eq (U := U) rfl rfl rfl)).trans (h4 b s t hb hs ht)⟩
theorem RLG.cn (h : RLG U Y es P f od N0 O0 sf nb bo br ba bn bi cnt G) (hc : (U.1 24).1 + (U.1 25).1 ≤ cnt') : RLG U Y es P f od N0 O0 sf nb bo br ba bn bi cnt' G := by
  obtain ⟨A, N, us, S, z, p, nf, nm, tm, bs, lv, oid, nw, wa, wn, wi, wk, ou, h1, h2, h3, h4⟩ := h
  exact ⟨A, N, us, S, z, p, nf, nm, tm, bs, lv, oid, nw, wa, wn, wi, wk, ou, h1, by have y1 := h1.1.1.1.1; have y2 := h1.1.2.2.1.1; omega, h3, h4⟩
/-- one piece alone -/
theorem one_piece (hw : WTC Y es a n i) (hi : i < (Y 11).1) (hY0 : (Y 0).1 ≤ 67108864) (hY11 : (Y 11).1 ≤ 67108864) (hT : T.1 = 1) (h0 : T.2 0 0 = nI a) (h1 : T.2 0 1 = nI (a + n)) (h2 : T.2 0 2 = nI i) : (∀ r, r < T.1 → PCT Y es T r) ∧ ∀ s u, (PND Y U f P od T s u ↔ trs Y U f P od i a n s u = 1) := by
  have hb := hw.1.2.1
  obtain ⟨e1, e2, e3⟩ := rw_of h0 h1 h2 (by omega) (by omega)
  refine ⟨fun r hr => ?_, fun s u => ⟨fun y => ?_, fun y r hr _ => ?_⟩⟩
  · rw [show r = 0 by omega]
    unfold PCT
    rw [e1, e2, e3]
    exact ⟨⟨h0, h1, h2⟩, hi, hb, Or.inr hw⟩
  · have z := y 0 (by omega) (by rw [e2]; exact hw.pos)
    rw [e1, e2, e3] at z
    exact z
  · rw [show r = 0 by omega, e1, e2, e3]
    exact y
/-- the first branch: what is left of the outer | -/
theorem brx_first {V : Ud} {j n0 pa1 pn1 : Nat} {G' : Nat → Nat → Nat → Prop} {GF PN : Nat → Nat → Prop} (h22 : V.2.1 129 22 = nI q) (h03 : (V.1 27).2 0 3 = nI (ba + n0)) (hs2 : (V.1 27).1 = 2) (h12 : (V.1 27).2 1 2 = nI pa1) (h13 : (V.1 27).2 1 3 = nI (pa1 + pn1)) (hw1 : WTC Y es pa1 pn1 bi) (hw0 : WTC Y es ba n0 bi) (hbi : bi < (Y 11).1) (hj : j < n0) (hn0 : n0 ≤ 14000) (hx : ∀ s u, trs Y U f P od bi ba n0 s u = 1 ↔ trs Y U f P od bi pa1 pn1 s u = 1 ∨ (¬ j = 0 ∧ trs Y U f P od bi ba j s u = 1)) (hG1 : ∀ s u, G' 1 s u ↔ G' 0 s u) (hGF : ∀ s u, s < pd f 0 P → u < pd f 0 P → (GF s u ↔ G' 0 s u ∧ trs Y U f P od bi ba n0 s u = 1)) (hPN : ∀ s u, PN s u ↔ trs Y U f P od bi pa1 pn1 s u = 1) : BRX V Y es U P f od 2 q ba j bi n0 (fun _ => pa1) (fun _ => pn1) G' GF PN := by
  refine ⟨⟨h22, h03, hs2⟩, fun b b1 b2 => ?_, ⟨hw0, hbi, by omega, by omega⟩, fun s u => ?_, hGF, fun b s u b1 b2 hs hu => ?_⟩
  · rw [show b = 1 by omega]
    exact ⟨h12, h13, hw1⟩
  · rw [hx s u]
    exact ⟨fun y => y.imp (fun y => ⟨1, Nat.le_refl _, by decide, y⟩) id, fun y => y.imp (fun ⟨_, _, _, y⟩ => y) id⟩
  · rw [show b = 1 by omega, hG1 s u]
    exact and_congr Iff.rfl ((⟨fun y => y rfl, fun y _ => y⟩ : (1 + 1 = 2 → PN s u) ↔ PN s u).trans (hPN s u))
def F394 : Uf := ⟨[23, 25, 27], [(129, 22)], [(129, 14)], [], [], false⟩
def F394i : Uf := ⟨[], [(129, 22)], [], [], [], false⟩
def F394c : Uf := ⟨[], [], [(129, 14)], [], [], false⟩
def F394w : Uf := ⟨[25], [], [], [], [], false⟩
def F394b : Uf := ⟨[27], [], [], [], [], false⟩
def F394p : Uf := ⟨[23], [], [], [], [], false⟩

/-- PathProver$Relation.openBranch()Z -/
abbrev mu_m394 : ev_M := (8, (some .boolean), [], ev_b394)
theorem mu_g394 : mu_good mu_m394 := mu_goodk ev_k394
theorem rl_open1 (h : um m H) (e : ud m H = U) (hK : RSK m U Y P f od es) (hR : RLG U Y es P f od N0 O0 sf 1 bo none 0 0 0 cnt G) (hC23 : 50000 ≤ C 23) (hC23b : C 23 ≤ 8388608) (hC27 : 141000 ≤ C 27) (hC27b : C 27 ≤ 8388608) : mu_TI (mu_D (d + 6)) 394 [.inr (.inr (some 129))] H (fun x H1 => um m H1 ∧ ur m C H H1 ∧ uq F394 U (ud m H1) ∧ RSK m (ud m H1) Y P f od es ∧ ((x = 0 ∧ RLG (ud m H1) Y es P f od N0 O0 sf 1 bo none 0 0 0 cnt G ∧ (ud m H1).2.1 129 22 = -1) ∨ (x = 1 ∧ ∃ bo' q ba bn bi n0 pa pn G' cnt', (cnt' = 2047 ∨ (cnt' = cnt ∧ bn = 0)) ∧ RLG (ud m H1) Y es P f od N0 O0 sf 2 bo' (some q) ba bn bi cnt' G' ∧ ((ud m H1).1 23).1 = 1 ∧ (∀ r, r < ((ud m H1).1 23).1 → PCT Y es ((ud m H1).1 23) r) ∧ BRX (ud m H1) Y es U P f od 2 q ba bn bi n0 pa pn G' (G 0) (PND Y U f P od ((ud m H1).1 23))))) := by
  obtain ⟨A, N, us, S, z, p, nf, nm, tm, bs, lv, oid, nw, wa, wn, wi, wk, ou, hRO⟩ := hR
  obtain ⟨⟨hF, hSO, hW⟩, ⟨hB, hB0, hB1, h00⟩, hbb, hun, ho, hn, hbr⟩ := id hRO.1
  have hD : MDL Y es := hK.1.2.2.2.1
  have hCc : Cc Y := hD.1.2.2.2.2.2.1.2
  obtain ⟨hb13, hb0, hb15, hb16, hb17⟩ := hD.2.2.2.1
  have hY11 : (Y 11).1 ≤ 67108864 := hD.1.2.2.2.2.2.2 11 (by decide)
  have hmo : U.2.2.2.1 99 0 = some m := hK.1.1.2.2.2.2.2
  have hj0U : U.1 0 = Y 0 := hK.1.2.2.1.1 0 (by decide)
  have hj9U : U.1 9 = Y 9 := hK.1.2.2.1.1 9 (by decide)
  have hnbs : (U.1 27).1 = 1 := hB.1
  have hnf : (U.1 24).1 = nf := hF.1.1
  have hnw : (U.1 25).1 = nw := hW.1.1
  have hnwb : nw ≤ 16777216 := hW.1.2
  have hnfb : nf ≤ 67108864 := hF.1.2.1
  refine mu_meth (M := mu_m394) rfl rfl ?_
  refine mw_ht (mu_fn_of (show [0].Nodup by decide)) ?_
  refine mw_go mu_g394 (k := 2) (f1 := (4, [(0, .inr (.inr (some 129)))], [.inr (.inr (mu_r H 129 23))], H)) (C := [mu_is H (some 129) 9]) rfl (show mu_is H (some 129) 9 from (h.1.1.is rfl)) ?_
  rw [(h.1.1.r (p := 129) (j := 23) (q := 167) rfl)]
  refine mw_go mu_g394 (k := 1) (f1 := (7, [(0, .inr (.inr (some 129)))], [.inl (mu_i H 167 2)], H)) (C := [mu_is H (some 167) 10]) rfl (show mu_is H (some 167) 10 from (h.1.1.is rfl)) ?_
  rw [(show mu_i H 167 2 = (nI 1) from (h.size e (j := 27) (by decide) rfl).trans (congrArg nI ((congrArg Prod.fst (show U.1 27 = (U.1 27) from rfl)).trans hnbs)))]
  refine mw_go mu_g394 (k := 1) (f1 := (8, [(0, .inr (.inr (some 129)))], [.inl (1 : Int32), .inl (nI 1)], H)) (C := []) rfl trivial ?_
  refine mw_if (P := (nI 1) = (1 : Int32)) (a := 11) (b := 56) (fun _ => rfl) trivial (fun h1 => ?_) (fun h1 => absurd (by decide) h1)
  refine mw_go mu_g394 (k := 2) (f1 := (13, [(0, .inr (.inr (some 129)))], [.inr (.inr (some 129)), .inr (.inr (some 129))], H)) (C := []) rfl trivial ?_
  refine mw_cI (fun _ => rfl) (show mu_is H (some 129) 9 from (h.1.1.is rfl)) (rl_longest (d := (d + 3)) (Y := Y) (nw := nw) (wa := wa) (wn := wn) h e (show (U.2.2.2.1 99 0) = some m from hmo) (show U.1 0 = Y 0 from (rfl).trans hj0U) hnw hnwb (fun r hr => ⟨(hW.2 r hr).1.1, (hW.2 r hr).1.2.1, by have y := (hW.2 r hr).1.2.2.2.2; omega⟩)) (fun x2 H2 q2 => ?_)
  rcases q2 with ⟨rfl | ⟨q, hq, rfl, hWO⟩, hHe⟩
  · -- (-1 : Int32)
    rw [hHe]
    refine mw_go mu_g394 (k := 1) (f1 := (19, [(0, .inr (.inr (some 129)))], [], (mu_si H 129 22 (-1 : Int32)))) (C := [mu_is H (some 129) 9]) rfl (show mu_is H (some 129) 9 from (h.1.1.is rfl)) ?_
    obtain ⟨u3, r3, d3⟩ : um m (mu_si H 129 22 (-1 : Int32)) ∧ ur m C H (mu_si H 129 22 (-1 : Int32)) ∧ ud m (mu_si H 129 22 (-1 : Int32)) = (upI U 129 22 (-1 : Int32)) := h.sI (C := C) e rfl
    generalize (mu_si H 129 22 (-1 : Int32)) = Q3 at u3 r3 d3 ⊢
    have qf3 : uq F394 U (upI U 129 22 (-1 : Int32)) := (uq.refl F394 U).I rfl
    have ht3 : ur m C H Q3 := (ur.refl m C H).trans r3
    obtain ⟨X1, hX1⟩ : ∃ X, X = (upI U 129 22 (-1 : Int32)) := ⟨_, rfl⟩
    rw [← hX1] at d3 qf3
    have zX1 : uq F394i U X1 := by rw [hX1]; exact ((uq.refl F394i U).I rfl)
    refine mw_go mu_g394 (k := 2) (f1 := (23, [(0, .inr (.inr (some 129)))], [.inr (.inr (mu_r Q3 129 23))], Q3)) (C := [mu_is Q3 (some 129) 9]) rfl (show mu_is Q3 (some 129) 9 from (u3.1.1.is rfl)) ?_
    rw [(u3.1.1.r (p := 129) (j := 23) (q := 167) rfl)]
    refine mw_go mu_g394 (k := 4) (f1 := (29, [(0, .inr (.inr (some 129)))], [.inr (.inr (mu_r Q3 129 3)), .inl (3 : Int32), .inl (0 : Int32), .inr (.inr (some 167))], Q3)) (C := [mu_is Q3 (some 129) 9]) rfl (show mu_is Q3 (some 129) 9 from (u3.1.1.is rfl)) ?_
    rw [(u3.1.1.r (p := 129) (j := 3) (q := 132) rfl)]
    refine mw_go mu_g394 (k := 2) (f1 := (33, [(0, .inr (.inr (some 129)))], [.inl (mu_i Q3 129 22), .inr (.inr (some 132)), .inl (3 : Int32), .inl (0 : Int32), .inr (.inr (some 167))], Q3)) (C := [mu_is Q3 (some 129) 9]) rfl (show mu_is Q3 (some 129) 9 from (u3.1.1.is rfl)) ?_
    rw [(show mu_i Q3 129 22 = (-1 : Int32) from (ud_i (U := X1) (m := m) (P := 129) (j := 22) d3 rfl).trans (by rw [hX1]; rfl))]
    refine mw_go mu_g394 (k := 1) (f1 := (34, [(0, .inr (.inr (some 129)))], [.inl (1 : Int32), .inl (-1 : Int32), .inr (.inr (some 132)), .inl (3 : Int32), .inl (0 : Int32), .inr (.inr (some 167))], Q3)) (C := []) rfl trivial ?_
    refine mw_cIe (fun _ => rfl) (show mu_is Q3 (some 132) 10 from (u3.1.1.is rfl)) (u3.getr (d := (d + 4)) d3 (j := 25) (by decide) rfl (-1 : Int32) (c := 1) (by decide)) ?_
    rw [show (tget (X1.1 25) (-1 : Int32) 1) = (0 : Int32) from if_pos (by decide)]
    refine mw_cV (fun _ => rfl) (show mu_is Q3 (some 167) 10 from (u3.1.1.is rfl)) (u3.setr (C := C) (d := (d + 4)) d3 (j := 27) (Or.inr ⟨by decide, by decide⟩) rfl (0 : Int32) (0 : Int32) (c := 3) (by decide)) (fun Q5 q5 => ?_)
    obtain ⟨u5, r5, d5⟩ := q5
    have ht5 : ur m C H Q5 := ht3.trans r5
    have qf5 : uq F394 U (upT X1 (ax 27 X1.1 (0 : Int32) 3 (0 : Int32))) := qf3.ax rfl
    obtain ⟨X2, hX2⟩ : ∃ X, X = (upT X1 (ax 27 X1.1 (0 : Int32) 3 (0 : Int32))) := ⟨_, rfl⟩
    rw [← hX2] at d5 qf5
    have zX2 : uq F394b X1 X2 := by rw [hX2]; exact ((uq.refl F394b X1).T (fun q hq => by first | exact ax_ne (in1_ne rfl hq) | exact ap_ne (in1_ne rfl hq) | exact fu_ne _ _ (in1_ne rfl hq)))
    refine mw_go mu_g394 (k := 2) (f1 := (44, [(0, .inr (.inr (some 129)))], [.inr (.inr (mu_r Q5 129 14))], Q5)) (C := [mu_is Q5 (some 129) 9]) rfl (show mu_is Q5 (some 129) 9 from (u5.1.1.is rfl)) ?_
    rw [(u5.1.1.r (p := 129) (j := 14) (q := 142) rfl)]
    refine mw_go mu_g394 (k := 3) (f1 := (49, [(0, .inr (.inr (some 129)))], [.inr (.inr (mu_r Q5 129 14)), .inl (0 : Int32), .inr (.inr (some 142))], Q5)) (C := [mu_is Q5 (some 129) 9]) rfl (show mu_is Q5 (some 129) 9 from (u5.1.1.is rfl)) ?_
    rw [(u5.1.1.r (p := 129) (j := 14) (q := 142) rfl)]
    refine mw_go mu_g394 (k := 2) (f1 := (53, [(0, .inr (.inr (some 129)))], [.inl (14 : Int32), .inl (14 : Int32), .inr (.inr (some 142)), .inl (0 : Int32), .inr (.inr (some 142))], Q5)) (C := []) rfl trivial ?_
    refine mw_copyI (t := 0) rfl (show mu_is Q5 (some 142) 100 from (u5.iA d5 rfl rfl ((ud_q (m := m) (P := 129) (j := 14) d5 rfl).symm.trans (u5.1.1.r (p := 129) (j := 14) (q := 142) rfl)))) (show mu_is Q5 (some 142) 100 from (u5.iA d5 rfl rfl ((ud_q (m := m) (P := 129) (j := 14) d5 rfl).symm.trans (u5.1.1.r (p := 129) (j := 14) (q := 142) rfl)))) (by decide) (by decide) (by decide) (by decide) (by rw [show mu_n Q5 (mu_p (some 142)) = 28 from (u5.1.1.a (p := 142) (x := (100, 28)) rfl).2, (show (0 : Int32).toNatClampNeg = 0 from by decide), (show (14 : Int32).toNatClampNeg = 14 from by decide)]; omega) (by rw [show mu_n Q5 (mu_p (some 142)) = 28 from (u5.1.1.a (p := 142) (x := (100, 28)) rfl).2, (show (14 : Int32).toNatClampNeg = 14 from by decide)]; omega) (fun z => by cases z) (by decide) ?_
    rw [(show (0 : Int32).toNatClampNeg = 0 from by decide), (show (14 : Int32).toNatClampNeg = 14 from by decide)]
    show mu_W _ _ (56, [(0, .inr (.inr (some 129)))], [], (mu_cpi Q5 142 0 142 14 14)) _
    obtain ⟨u6, r6, d6⟩ : um m (mu_cpi Q5 142 0 142 14 14) ∧ ur m C Q5 (mu_cpi Q5 142 0 142 14 14) ∧ ud m (mu_cpi Q5 142 0 142 14 14) = (upF X2 129 14 14 (fun i => (X2.2.2.1 129 14).2 (0 + i)) 14) := u5.cA (C := C) d5 rfl rfl ((ud_q (m := m) (P := 129) (j := 14) d5 rfl).symm.trans (u5.1.1.r (p := 129) (j := 14) (q := 142) rfl)) rfl rfl ((ud_q (m := m) (P := 129) (j := 14) d5 rfl).symm.trans (u5.1.1.r (p := 129) (j := 14) (q := 142) rfl))
    generalize (mu_cpi Q5 142 0 142 14 14) = Q6 at u6 r6 d6 ⊢
    have qf6 : uq F394 U (upF X2 129 14 14 (fun i => (X2.2.2.1 129 14).2 (0 + i)) 14) := qf5.F rfl
    have ht6 : ur m C H Q6 := ht5.trans r6
    obtain ⟨X3, hX3⟩ : ∃ X, X = (upF X2 129 14 14 (fun i => (X2.2.2.1 129 14).2 (0 + i)) 14) := ⟨_, rfl⟩
    rw [← hX3] at d6 qf6
    have zX3 : uq F394c X2 X3 := by rw [hX3]; exact ((uq.refl F394c X2).F rfl)
    refine mw_go mu_g394 (k := 2) (f1 := (60, [(0, .inr (.inr (some 129)))], [.inr (.inr (mu_r Q6 129 3))], Q6)) (C := [mu_is Q6 (some 129) 9]) rfl (show mu_is Q6 (some 129) 9 from (u6.1.1.is rfl)) ?_
    rw [(u6.1.1.r (p := 129) (j := 3) (q := 132) rfl)]
    refine mw_go mu_g394 (k := 2) (f1 := (64, [(0, .inr (.inr (some 129)))], [.inl (mu_i Q6 129 22), .inr (.inr (some 132))], Q6)) (C := [mu_is Q6 (some 129) 9]) rfl (show mu_is Q6 (some 129) 9 from (u6.1.1.is rfl)) ?_
    rw [(show mu_i Q6 129 22 = (-1 : Int32) from (ud_i (U := X3) (m := m) (P := 129) (j := 22) d6 rfl).trans ((zX3.i 129 22 rfl).trans ((zX2.i 129 22 rfl).trans (by rw [hX1]; rfl))))]
    refine mw_go mu_g394 (k := 1) (f1 := (65, [(0, .inr (.inr (some 129)))], [.inl (0 : Int32), .inl (-1 : Int32), .inr (.inr (some 132))], Q6)) (C := []) rfl trivial ?_
    refine mw_cIe (fun _ => rfl) (show mu_is Q6 (some 132) 10 from (u6.1.1.is rfl)) (u6.getr (d := (d + 4)) d6 (j := 25) (by decide) rfl (-1 : Int32) (c := 0) (by decide)) ?_
    rw [show (tget (X3.1 25) (-1 : Int32) 0) = (0 : Int32) from if_pos (by decide)]
    refine mw_go mu_g394 (k := 3) (f1 := (73, [(1, .inl (0 : Int32)), (0, .inr (.inr (some 129)))], [.inr (.inr (mu_r Q6 129 3))], Q6)) (C := [mu_is Q6 (some 129) 9]) rfl (show mu_is Q6 (some 129) 9 from (u6.1.1.is rfl)) ?_
    rw [(u6.1.1.r (p := 129) (j := 3) (q := 132) rfl)]
    refine mw_go mu_g394 (k := 2) (f1 := (77, [(1, .inl (0 : Int32)), (0, .inr (.inr (some 129)))], [.inl (mu_i Q6 129 22), .inr (.inr (some 132))], Q6)) (C := [mu_is Q6 (some 129) 9]) rfl (show mu_is Q6 (some 129) 9 from (u6.1.1.is rfl)) ?_
    rw [(show mu_i Q6 129 22 = (-1 : Int32) from (ud_i (U := X3) (m := m) (P := 129) (j := 22) d6 rfl).trans ((zX3.i 129 22 rfl).trans ((zX2.i 129 22 rfl).trans (by rw [hX1]; rfl))))]
    refine mw_go mu_g394 (k := 1) (f1 := (78, [(1, .inl (0 : Int32)), (0, .inr (.inr (some 129)))], [.inl (2 : Int32), .inl (-1 : Int32), .inr (.inr (some 132))], Q6)) (C := []) rfl trivial ?_
    refine mw_cIe (fun _ => rfl) (show mu_is Q6 (some 132) 10 from (u6.1.1.is rfl)) (u6.getr (d := (d + 4)) d6 (j := 25) (by decide) rfl (-1 : Int32) (c := 2) (by decide)) ?_
    rw [show (tget (X3.1 25) (-1 : Int32) 2) = (0 : Int32) from if_pos (by decide)]
    refine mw_go mu_g394 (k := 5) (f1 := (88, [(3, .inl (0 : Int32)), (2, .inl (0 : Int32)), (1, .inl (0 : Int32)), (0, .inr (.inr (some 129)))], [.inl (65536 : Int32), .inl (0 : Int32)], Q6)) (C := []) rfl trivial ?_
    refine mw_if (P := (0 : Int32) < (65536 : Int32)) (a := 91) (b := 310) (fun _ => rfl) trivial (fun h9 => ?_) (fun h9 => absurd (by decide) h9)
    refine mw_go mu_g394 (k := 2) (f1 := (95, [(3, .inl (0 : Int32)), (2, .inl (0 : Int32)), (1, .inl (0 : Int32)), (0, .inr (.inr (some 129)))], [.inr (.inr (mu_r Q6 129 3))], Q6)) (C := [mu_is Q6 (some 129) 9]) rfl (show mu_is Q6 (some 129) 9 from (u6.1.1.is rfl)) ?_
    rw [(u6.1.1.r (p := 129) (j := 3) (q := 132) rfl)]
    refine mw_go mu_g394 (k := 2) (f1 := (99, [(3, .inl (0 : Int32)), (2, .inl (0 : Int32)), (1, .inl (0 : Int32)), (0, .inr (.inr (some 129)))], [.inl (mu_i Q6 129 22), .inr (.inr (some 132))], Q6)) (C := [mu_is Q6 (some 129) 9]) rfl (show mu_is Q6 (some 129) 9 from (u6.1.1.is rfl)) ?_
    rw [(show mu_i Q6 129 22 = (-1 : Int32) from (ud_i (U := X3) (m := m) (P := 129) (j := 22) d6 rfl).trans ((zX3.i 129 22 rfl).trans ((zX2.i 129 22 rfl).trans (by rw [hX1]; rfl))))]
    refine mw_go mu_g394 (k := 1) (f1 := (100, [(3, .inl (0 : Int32)), (2, .inl (0 : Int32)), (1, .inl (0 : Int32)), (0, .inr (.inr (some 129)))], [.inl (1 : Int32), .inl (-1 : Int32), .inr (.inr (some 132))], Q6)) (C := []) rfl trivial ?_
    refine mw_cIe (fun _ => rfl) (show mu_is Q6 (some 132) 10 from (u6.1.1.is rfl)) (u6.getr (d := (d + 4)) d6 (j := 25) (by decide) rfl (-1 : Int32) (c := 1) (by decide)) ?_
    rw [show (tget (X3.1 25) (-1 : Int32) 1) = (0 : Int32) from if_pos (by decide)]
    refine mw_go mu_g394 (k := 1) (f1 := (104, [(3, .inl (0 : Int32)), (2, .inl (0 : Int32)), (1, .inl (0 : Int32)), (0, .inr (.inr (some 129)))], [.inl (0 : Int32), .inl (0 : Int32)], Q6)) (C := []) rfl trivial ?_
    refine mw_if (P := (0 : Int32) < (0 : Int32)) (a := 107) (b := 310) (fun _ => rfl) trivial (fun h11 => absurd h11 (by decide)) (fun h11 => ?_)
    refine mw_go mu_g394 (k := 1) (f1 := (311, [(3, .inl (0 : Int32)), (2, .inl (0 : Int32)), (1, .inl (0 : Int32)), (0, .inr (.inr (some 129)))], [.inl (0 : Int32)], Q6)) (C := []) rfl trivial ?_
    refine mw_of (fun _ => mu_ret rfl (Or.inl rfl) ⟨(0 : Int32), Q6, rfl, u6, ht6, (by rw [d6]; exact qf6), ?_⟩)
    rw [d6]
    have hRa := hRO.q zX1 rfl rfl
    have hRb : RLO X2 Y es P f od N0 O0 sf 1 bo none 0 0 0 A N us S z p nf nm tm bs lv oid nw wa wn wi wk ou cnt G := by rw [hX2]; exact RLO.t27 hRa (by omega)
    exact ⟨hK.q (F := F394) (show uq F394 U X3 from ((((uq.refl F394 U).tr zX1 rfl).tr zX2 rfl).tr zX3 rfl)) rfl rfl, Or.inl ⟨rfl, ⟨A, N, us, S, z, p, nf, nm, tm, bs, lv, oid, nw, wa, wn, wi, wk, ou, hRb.q zX3 rfl rfl⟩, ((zX3.i 129 22 rfl).trans ((zX2.i 129 22 rfl).trans (by rw [hX1]; rfl)))⟩⟩
  · -- (nI q)
    rw [hHe]
    obtain ⟨⟨w0, w1, w2, w3, w4⟩, -⟩ := hW.2 q hq
    obtain ⟨hwo3, hwo1, hwo6⟩ := hWO
    obtain ⟨nn, hnn⟩ : ∃ nn, wn q = nn + 1 := ⟨wn q - 1, by omega⟩
    refine mw_go mu_g394 (k := 1) (f1 := (19, [(0, .inr (.inr (some 129)))], [], (mu_si H 129 22 (nI q)))) (C := [mu_is H (some 129) 9]) rfl (show mu_is H (some 129) 9 from (h.1.1.is rfl)) ?_
    obtain ⟨u12, r12, d12⟩ : um m (mu_si H 129 22 (nI q)) ∧ ur m C H (mu_si H 129 22 (nI q)) ∧ ud m (mu_si H 129 22 (nI q)) = (upI U 129 22 (nI q)) := h.sI (C := C) e rfl
    generalize (mu_si H 129 22 (nI q)) = Q12 at u12 r12 d12 ⊢
    have qf12 : uq F394 U (upI U 129 22 (nI q)) := (uq.refl F394 U).I rfl
    have ht12 : ur m C H Q12 := (ur.refl m C H).trans r12
    obtain ⟨X1, hX1⟩ : ∃ X, X = (upI U 129 22 (nI q)) := ⟨_, rfl⟩
    rw [← hX1] at d12 qf12
    have zX1 : uq F394i U X1 := by rw [hX1]; exact ((uq.refl F394i U).I rfl)
    refine mw_go mu_g394 (k := 2) (f1 := (23, [(0, .inr (.inr (some 129)))], [.inr (.inr (mu_r Q12 129 23))], Q12)) (C := [mu_is Q12 (some 129) 9]) rfl (show mu_is Q12 (some 129) 9 from (u12.1.1.is rfl)) ?_
    rw [(u12.1.1.r (p := 129) (j := 23) (q := 167) rfl)]
    refine mw_go mu_g394 (k := 4) (f1 := (29, [(0, .inr (.inr (some 129)))], [.inr (.inr (mu_r Q12 129 3)), .inl (3 : Int32), .inl (0 : Int32), .inr (.inr (some 167))], Q12)) (C := [mu_is Q12 (some 129) 9]) rfl (show mu_is Q12 (some 129) 9 from (u12.1.1.is rfl)) ?_
    rw [(u12.1.1.r (p := 129) (j := 3) (q := 132) rfl)]
    refine mw_go mu_g394 (k := 2) (f1 := (33, [(0, .inr (.inr (some 129)))], [.inl (mu_i Q12 129 22), .inr (.inr (some 132)), .inl (3 : Int32), .inl (0 : Int32), .inr (.inr (some 167))], Q12)) (C := [mu_is Q12 (some 129) 9]) rfl (show mu_is Q12 (some 129) 9 from (u12.1.1.is rfl)) ?_
    rw [(show mu_i Q12 129 22 = (nI q) from (ud_i (U := X1) (m := m) (P := 129) (j := 22) d12 rfl).trans (by rw [hX1]; rfl))]
    refine mw_go mu_g394 (k := 1) (f1 := (34, [(0, .inr (.inr (some 129)))], [.inl (1 : Int32), .inl (nI q), .inr (.inr (some 132)), .inl (3 : Int32), .inl (0 : Int32), .inr (.inr (some 167))], Q12)) (C := []) rfl trivial ?_
    refine mw_cIe (fun _ => rfl) (show mu_is Q12 (some 132) 10 from (u12.1.1.is rfl)) (u12.getr (d := (d + 4)) d12 (j := 25) (by decide) rfl (nI q) (c := 1) (by decide)) ?_
    rw [show (tget (X1.1 25) (nI q) 1) = (nI (wa q + wn q)) from ((congrArg (fun z => tget z (nI q) 1) (show X1.1 25 = (U.1 25) from (zX1.t 25 rfl))).trans (tget_nI (by first | omega | decide))).trans w1]
    refine mw_cV (fun _ => rfl) (show mu_is Q12 (some 167) 10 from (u12.1.1.is rfl)) (u12.setr (C := C) (d := (d + 4)) d12 (j := 27) (Or.inr ⟨by decide, by decide⟩) rfl (0 : Int32) (nI (wa q + wn q)) (c := 3) (by decide)) (fun Q14 q14 => ?_)
    obtain ⟨u14, r14, d14⟩ := q14
    have ht14 : ur m C H Q14 := ht12.trans r14
    have qf14 : uq F394 U (upT X1 (ax 27 X1.1 (0 : Int32) 3 (nI (wa q + wn q)))) := qf12.ax rfl
    obtain ⟨X2, hX2⟩ : ∃ X, X = (upT X1 (ax 27 X1.1 (0 : Int32) 3 (nI (wa q + wn q)))) := ⟨_, rfl⟩
    rw [← hX2] at d14 qf14
    have zX2 : uq F394b X1 X2 := by rw [hX2]; exact ((uq.refl F394b X1).T (fun q hq => by first | exact ax_ne (in1_ne rfl hq) | exact ap_ne (in1_ne rfl hq) | exact fu_ne _ _ (in1_ne rfl hq)))
    refine mw_go mu_g394 (k := 2) (f1 := (44, [(0, .inr (.inr (some 129)))], [.inr (.inr (mu_r Q14 129 14))], Q14)) (C := [mu_is Q14 (some 129) 9]) rfl (show mu_is Q14 (some 129) 9 from (u14.1.1.is rfl)) ?_
    rw [(u14.1.1.r (p := 129) (j := 14) (q := 142) rfl)]
    refine mw_go mu_g394 (k := 3) (f1 := (49, [(0, .inr (.inr (some 129)))], [.inr (.inr (mu_r Q14 129 14)), .inl (0 : Int32), .inr (.inr (some 142))], Q14)) (C := [mu_is Q14 (some 129) 9]) rfl (show mu_is Q14 (some 129) 9 from (u14.1.1.is rfl)) ?_
    rw [(u14.1.1.r (p := 129) (j := 14) (q := 142) rfl)]
    refine mw_go mu_g394 (k := 2) (f1 := (53, [(0, .inr (.inr (some 129)))], [.inl (14 : Int32), .inl (14 : Int32), .inr (.inr (some 142)), .inl (0 : Int32), .inr (.inr (some 142))], Q14)) (C := []) rfl trivial ?_
    refine mw_copyI (t := 0) rfl (show mu_is Q14 (some 142) 100 from (u14.iA d14 rfl rfl ((ud_q (m := m) (P := 129) (j := 14) d14 rfl).symm.trans (u14.1.1.r (p := 129) (j := 14) (q := 142) rfl)))) (show mu_is Q14 (some 142) 100 from (u14.iA d14 rfl rfl ((ud_q (m := m) (P := 129) (j := 14) d14 rfl).symm.trans (u14.1.1.r (p := 129) (j := 14) (q := 142) rfl)))) (by decide) (by decide) (by decide) (by decide) (by rw [show mu_n Q14 (mu_p (some 142)) = 28 from (u14.1.1.a (p := 142) (x := (100, 28)) rfl).2, (show (0 : Int32).toNatClampNeg = 0 from by decide), (show (14 : Int32).toNatClampNeg = 14 from by decide)]; omega) (by rw [show mu_n Q14 (mu_p (some 142)) = 28 from (u14.1.1.a (p := 142) (x := (100, 28)) rfl).2, (show (14 : Int32).toNatClampNeg = 14 from by decide)]; omega) (fun z => by cases z) (by decide) ?_
    rw [(show (0 : Int32).toNatClampNeg = 0 from by decide), (show (14 : Int32).toNatClampNeg = 14 from by decide)]
    show mu_W _ _ (56, [(0, .inr (.inr (some 129)))], [], (mu_cpi Q14 142 0 142 14 14)) _
    obtain ⟨u15, r15, d15⟩ : um m (mu_cpi Q14 142 0 142 14 14) ∧ ur m C Q14 (mu_cpi Q14 142 0 142 14 14) ∧ ud m (mu_cpi Q14 142 0 142 14 14) = (upF X2 129 14 14 (fun i => (X2.2.2.1 129 14).2 (0 + i)) 14) := u14.cA (C := C) d14 rfl rfl ((ud_q (m := m) (P := 129) (j := 14) d14 rfl).symm.trans (u14.1.1.r (p := 129) (j := 14) (q := 142) rfl)) rfl rfl ((ud_q (m := m) (P := 129) (j := 14) d14 rfl).symm.trans (u14.1.1.r (p := 129) (j := 14) (q := 142) rfl))
    generalize (mu_cpi Q14 142 0 142 14 14) = Q15 at u15 r15 d15 ⊢
    have qf15 : uq F394 U (upF X2 129 14 14 (fun i => (X2.2.2.1 129 14).2 (0 + i)) 14) := qf14.F rfl
    have ht15 : ur m C H Q15 := ht14.trans r15
    obtain ⟨X3, hX3⟩ : ∃ X, X = (upF X2 129 14 14 (fun i => (X2.2.2.1 129 14).2 (0 + i)) 14) := ⟨_, rfl⟩
    rw [← hX3] at d15 qf15
    have zX3 : uq F394c X2 X3 := by rw [hX3]; exact ((uq.refl F394c X2).F rfl)
    refine mw_go mu_g394 (k := 2) (f1 := (60, [(0, .inr (.inr (some 129)))], [.inr (.inr (mu_r Q15 129 3))], Q15)) (C := [mu_is Q15 (some 129) 9]) rfl (show mu_is Q15 (some 129) 9 from (u15.1.1.is rfl)) ?_
    rw [(u15.1.1.r (p := 129) (j := 3) (q := 132) rfl)]
    refine mw_go mu_g394 (k := 2) (f1 := (64, [(0, .inr (.inr (some 129)))], [.inl (mu_i Q15 129 22), .inr (.inr (some 132))], Q15)) (C := [mu_is Q15 (some 129) 9]) rfl (show mu_is Q15 (some 129) 9 from (u15.1.1.is rfl)) ?_
    rw [(show mu_i Q15 129 22 = (nI q) from (ud_i (U := X3) (m := m) (P := 129) (j := 22) d15 rfl).trans ((zX3.i 129 22 rfl).trans ((zX2.i 129 22 rfl).trans (by rw [hX1]; rfl))))]
    refine mw_go mu_g394 (k := 1) (f1 := (65, [(0, .inr (.inr (some 129)))], [.inl (0 : Int32), .inl (nI q), .inr (.inr (some 132))], Q15)) (C := []) rfl trivial ?_
    refine mw_cIe (fun _ => rfl) (show mu_is Q15 (some 132) 10 from (u15.1.1.is rfl)) (u15.getr (d := (d + 4)) d15 (j := 25) (by decide) rfl (nI q) (c := 0) (by decide)) ?_
    rw [show (tget (X3.1 25) (nI q) 0) = (nI (wa q)) from ((congrArg (fun z => tget z (nI q) 0) (show X3.1 25 = (U.1 25) from ((zX3.t 25 rfl).trans ((zX2.t 25 rfl).trans (zX1.t 25 rfl))))).trans (tget_nI (by first | omega | decide))).trans w0]
    refine mw_go mu_g394 (k := 3) (f1 := (73, [(1, .inl (nI (wa q))), (0, .inr (.inr (some 129)))], [.inr (.inr (mu_r Q15 129 3))], Q15)) (C := [mu_is Q15 (some 129) 9]) rfl (show mu_is Q15 (some 129) 9 from (u15.1.1.is rfl)) ?_
    rw [(u15.1.1.r (p := 129) (j := 3) (q := 132) rfl)]
    refine mw_go mu_g394 (k := 2) (f1 := (77, [(1, .inl (nI (wa q))), (0, .inr (.inr (some 129)))], [.inl (mu_i Q15 129 22), .inr (.inr (some 132))], Q15)) (C := [mu_is Q15 (some 129) 9]) rfl (show mu_is Q15 (some 129) 9 from (u15.1.1.is rfl)) ?_
    rw [(show mu_i Q15 129 22 = (nI q) from (ud_i (U := X3) (m := m) (P := 129) (j := 22) d15 rfl).trans ((zX3.i 129 22 rfl).trans ((zX2.i 129 22 rfl).trans (by rw [hX1]; rfl))))]
    refine mw_go mu_g394 (k := 1) (f1 := (78, [(1, .inl (nI (wa q))), (0, .inr (.inr (some 129)))], [.inl (2 : Int32), .inl (nI q), .inr (.inr (some 132))], Q15)) (C := []) rfl trivial ?_
    refine mw_cIe (fun _ => rfl) (show mu_is Q15 (some 132) 10 from (u15.1.1.is rfl)) (u15.getr (d := (d + 4)) d15 (j := 25) (by decide) rfl (nI q) (c := 2) (by decide)) ?_
    rw [show (tget (X3.1 25) (nI q) 2) = (nI (wi q)) from ((congrArg (fun z => tget z (nI q) 2) (show X3.1 25 = (U.1 25) from ((zX3.t 25 rfl).trans ((zX2.t 25 rfl).trans (zX1.t 25 rfl))))).trans (tget_nI (by first | omega | decide))).trans w2]
    refine mw_go mu_g394 (k := 5) (f1 := (88, [(3, .inl (0 : Int32)), (2, .inl (nI (wi q))), (1, .inl (nI (wa q))), (0, .inr (.inr (some 129)))], [.inl (65536 : Int32), .inl (0 : Int32)], Q15)) (C := []) rfl trivial ?_
    refine mw_if (P := (0 : Int32) < (65536 : Int32)) (a := 91) (b := 310) (fun _ => rfl) trivial (fun h18 => ?_) (fun h18 => absurd (by decide) h18)
    refine mw_go mu_g394 (k := 2) (f1 := (95, [(3, .inl (0 : Int32)), (2, .inl (nI (wi q))), (1, .inl (nI (wa q))), (0, .inr (.inr (some 129)))], [.inr (.inr (mu_r Q15 129 3))], Q15)) (C := [mu_is Q15 (some 129) 9]) rfl (show mu_is Q15 (some 129) 9 from (u15.1.1.is rfl)) ?_
    rw [(u15.1.1.r (p := 129) (j := 3) (q := 132) rfl)]
    refine mw_go mu_g394 (k := 2) (f1 := (99, [(3, .inl (0 : Int32)), (2, .inl (nI (wi q))), (1, .inl (nI (wa q))), (0, .inr (.inr (some 129)))], [.inl (mu_i Q15 129 22), .inr (.inr (some 132))], Q15)) (C := [mu_is Q15 (some 129) 9]) rfl (show mu_is Q15 (some 129) 9 from (u15.1.1.is rfl)) ?_
    rw [(show mu_i Q15 129 22 = (nI q) from (ud_i (U := X3) (m := m) (P := 129) (j := 22) d15 rfl).trans ((zX3.i 129 22 rfl).trans ((zX2.i 129 22 rfl).trans (by rw [hX1]; rfl))))]
    refine mw_go mu_g394 (k := 1) (f1 := (100, [(3, .inl (0 : Int32)), (2, .inl (nI (wi q))), (1, .inl (nI (wa q))), (0, .inr (.inr (some 129)))], [.inl (1 : Int32), .inl (nI q), .inr (.inr (some 132))], Q15)) (C := []) rfl trivial ?_
    refine mw_cIe (fun _ => rfl) (show mu_is Q15 (some 132) 10 from (u15.1.1.is rfl)) (u15.getr (d := (d + 4)) d15 (j := 25) (by decide) rfl (nI q) (c := 1) (by decide)) ?_
    rw [show (tget (X3.1 25) (nI q) 1) = (nI (wa q + wn q)) from ((congrArg (fun z => tget z (nI q) 1) (show X3.1 25 = (U.1 25) from ((zX3.t 25 rfl).trans ((zX2.t 25 rfl).trans (zX1.t 25 rfl))))).trans (tget_nI (by first | omega | decide))).trans w1]
    refine mw_go mu_g394 (k := 1) (f1 := (104, [(3, .inl (0 : Int32)), (2, .inl (nI (wi q))), (1, .inl (nI (wa q))), (0, .inr (.inr (some 129)))], [.inl (nI (wa q)), .inl (nI (wa q + wn q))], Q15)) (C := []) rfl trivial ?_
    refine mw_if (P := (nI (wa q)) < (nI (wa q + wn q))) (a := 107) (b := 310) (fun _ => rfl) trivial (fun h20 => ?_) (fun h20 => absurd ((nI_ltI (by omega) (by omega)).mpr (by omega)) h20)
    have hRa := hRO.q zX1 rfl rfl
    have hRb : RLO X2 Y es P f od N0 O0 sf 1 bo none 0 0 0 A N us S z p nf nm tm bs lv oid nw wa wn wi wk ou cnt G := by rw [hX2]; exact RLO.t27 hRa (by omega)
    have hRc := hRb.q zX3 rfl rfl
    have hwq : WTC Y es (wa q) (wn q) (wi q) := by
      rcases (hW.2 q hq).2 with ⟨y1, y2, y3⟩ | ⟨pl, y1, y2, -⟩ | ⟨pl, y1, y2, -⟩
      · exact y3.resolve_left (by omega)
      · rw [y2] at hwo3; exact absurd hwo3 (nI_pos (by have y := hK.1.P14; omega))
      · rw [y2] at hwo3; exact absurd hwo3 (nI_pos (by have y := hK.1.P14; omega))
    have hwo3X : (X3.1 25).2 q 3 < 0 := by rw [(show (X3.1 25) = (U.1 25) from ((zX3.t 25 rfl).trans ((zX2.t 25 rfl).trans (zX1.t 25 rfl))))]; exact hwo3
    refine mw_go mu_g394 (k := 2) (f1 := (111, [(3, .inl (0 : Int32)), (2, .inl (nI (wi q))), (1, .inl (nI (wa q))), (0, .inr (.inr (some 129)))], [.inr (.inr (mu_r Q15 129 3))], Q15)) (C := [mu_is Q15 (some 129) 9]) rfl (show mu_is Q15 (some 129) 9 from (u15.1.1.is rfl)) ?_
    rw [(u15.1.1.r (p := 129) (j := 3) (q := 132) rfl)]
    refine mw_go mu_g394 (k := 2) (f1 := (115, [(3, .inl (0 : Int32)), (2, .inl (nI (wi q))), (1, .inl (nI (wa q))), (0, .inr (.inr (some 129)))], [.inl (mu_i Q15 129 22), .inr (.inr (some 132))], Q15)) (C := [mu_is Q15 (some 129) 9]) rfl (show mu_is Q15 (some 129) 9 from (u15.1.1.is rfl)) ?_
    rw [(show mu_i Q15 129 22 = (nI q) from (ud_i (U := X3) (m := m) (P := 129) (j := 22) d15 rfl).trans ((zX3.i 129 22 rfl).trans ((zX2.i 129 22 rfl).trans (by rw [hX1]; rfl))))]
    refine mw_go mu_g394 (k := 1) (f1 := (116, [(3, .inl (0 : Int32)), (2, .inl (nI (wi q))), (1, .inl (nI (wa q))), (0, .inr (.inr (some 129)))], [.inl (1 : Int32), .inl (nI q), .inr (.inr (some 132))], Q15)) (C := []) rfl trivial ?_
    refine mw_cIe (fun _ => rfl) (show mu_is Q15 (some 132) 10 from (u15.1.1.is rfl)) (u15.getr (d := (d + 4)) d15 (j := 25) (by decide) rfl (nI q) (c := 1) (by decide)) ?_
    rw [show (tget (X3.1 25) (nI q) 1) = (nI (wa q + wn q)) from ((congrArg (fun z => tget z (nI q) 1) (show X3.1 25 = (U.1 25) from ((zX3.t 25 rfl).trans ((zX2.t 25 rfl).trans (zX1.t 25 rfl))))).trans (tget_nI (by first | omega | decide))).trans w1]
    refine mw_go mu_g394 (k := 3) (f1 := (125, [(4, .inl (nI (wa q + wn q))), (3, .inl (0 : Int32)), (2, .inl (nI (wi q))), (1, .inl (nI (wa q))), (0, .inr (.inr (some 129)))], [.inr (.inr (mu_r Q15 129 0))], Q15)) (C := [mu_is Q15 (some 129) 9]) rfl (show mu_is Q15 (some 129) 9 from (u15.1.1.is rfl)) ?_
    rw [(u15.1.1.r (p := 129) (j := 0) (q := 99) rfl)]
    refine mw_go mu_g394 (k := 1) (f1 := (128, [(4, .inl (nI (wa q + wn q))), (3, .inl (0 : Int32)), (2, .inl (nI (wi q))), (1, .inl (nI (wa q))), (0, .inr (.inr (some 129)))], [.inr (.inr (mu_r Q15 99 0))], Q15)) (C := [mu_is Q15 (some 99) 13]) rfl (show mu_is Q15 (some 99) 13 from (u15.1.1.is rfl)) ?_
    rw [(show mu_r Q15 99 0 = (some m) from (ud_q (U := X3) (m := m) (P := 99) (j := 0) d15 rfl).trans ((zX3.r 99 0 rfl).trans ((zX2.r 99 0 rfl).trans ((zX1.r 99 0 rfl).trans hmo))))]
    refine mw_go mu_g394 (k := 1) (f1 := (131, [(4, .inl (nI (wa q + wn q))), (3, .inl (0 : Int32)), (2, .inl (nI (wi q))), (1, .inl (nI (wa q))), (0, .inr (.inr (some 129)))], [.inr (.inr (mu_r Q15 m 0))], Q15)) (C := [mu_is Q15 (some m) 6]) rfl (show mu_is Q15 (some m) 6 from (show mu_is Q15 (some m) 6 from gi_im u15.1.1 u15.2)) ?_
    rw [(show mu_r Q15 m 0 = some (m + 1) from (gi_mr u15.1.1 u15.2 (j := 0) (by decide)).trans (congrArg some (by omega)))]
    refine mw_go mu_g394 (k := 3) (f1 := (135, [(4, .inl (nI (wa q + wn q))), (3, .inl (0 : Int32)), (2, .inl (nI (wi q))), (1, .inl (nI (wa q))), (0, .inr (.inr (some 129)))], [.inl ((nI (wa q + wn q)) - (1 : Int32)), .inr (.inr (some (m + 1)))], Q15)) (C := []) rfl trivial ?_
    rw [(show ((nI (wa q + wn q)) - (1 : Int32)) = (nI ((wa q + wn q) - 1)) from (nI_sub (a := wa q + wn q) (b := 1) (by omega)))]
    refine mw_go mu_g394 (k := 1) (f1 := (136, [(4, .inl (nI (wa q + wn q))), (3, .inl (0 : Int32)), (2, .inl (nI (wi q))), (1, .inl (nI (wa q))), (0, .inr (.inr (some 129)))], [.inl (0 : Int32), .inl (nI ((wa q + wn q) - 1)), .inr (.inr (some (m + 1)))], Q15)) (C := []) rfl trivial ?_
    refine mw_cIe (fun _ => rfl) (show mu_is Q15 (some (m + 1)) 10 from ((u15.1.1.w (md_w0 u15.2)).1)) (u15.getr (d := (d + 4)) d15 (j := 0) (by decide) rfl (nI ((wa q + wn q) - 1)) (c := 0) (by decide)) ?_
    rw [show (tget (X3.1 0) (nI ((wa q + wn q) - 1)) 0) = (6 : Int32) from ((congrArg (fun z => tget z (nI ((wa q + wn q) - 1)) 0) (show X3.1 0 = (U.1 0) from ((zX3.t 0 rfl).trans ((zX2.t 0 rfl).trans (zX1.t 0 rfl))))).trans (tget_nI (by first | omega | decide))).trans (by rw [hj0U, show (wa q + wn q) - 1 = wa q + wn q - 1 by omega, oc_w hD.1 (by omega), hwo6]; rfl)]
    refine mw_go mu_g394 (k := 1) (f1 := (141, [(4, .inl (nI (wa q + wn q))), (3, .inl (0 : Int32)), (2, .inl (nI (wi q))), (1, .inl (nI (wa q))), (0, .inr (.inr (some 129)))], [.inl (6 : Int32), .inl (6 : Int32)], Q15)) (C := []) rfl trivial ?_
    refine mw_if (P := (6 : Int32) = (6 : Int32)) (a := 144) (b := 169) (fun _ => rfl) trivial (fun h23 => ?_) (fun h23 => absurd (by decide) h23)
    refine mw_go mu_g394 (k := 2) (f1 := (148, [(4, .inl (nI (wa q + wn q))), (3, .inl (0 : Int32)), (2, .inl (nI (wi q))), (1, .inl (nI (wa q))), (0, .inr (.inr (some 129)))], [.inr (.inr (mu_r Q15 129 1))], Q15)) (C := [mu_is Q15 (some 129) 9]) rfl (show mu_is Q15 (some 129) 9 from (u15.1.1.is rfl)) ?_
    rw [(u15.1.1.r (p := 129) (j := 1) (q := 130) rfl)]
    refine mw_go mu_g394 (k := 1) (f1 := (151, [(4, .inl (nI (wa q + wn q))), (3, .inl (0 : Int32)), (2, .inl (nI (wi q))), (1, .inl (nI (wa q))), (0, .inr (.inr (some 129)))], [.inl (mu_i Q15 130 2)], Q15)) (C := [mu_is Q15 (some 130) 10]) rfl (show mu_is Q15 (some 130) 10 from (u15.1.1.is rfl)) ?_
    rw [(show mu_i Q15 130 2 = (nI nf) from (u15.size d15 (j := 24) (by decide) rfl).trans (congrArg nI ((congrArg Prod.fst (show X3.1 24 = (U.1 24) from ((zX3.t 24 rfl).trans ((zX2.t 24 rfl).trans (zX1.t 24 rfl))))).trans hnf)))]
    refine mw_go mu_g394 (k := 2) (f1 := (155, [(4, .inl (nI (wa q + wn q))), (3, .inl (0 : Int32)), (2, .inl (nI (wi q))), (1, .inl (nI (wa q))), (0, .inr (.inr (some 129)))], [.inr (.inr (mu_r Q15 129 3)), .inl (nI nf)], Q15)) (C := [mu_is Q15 (some 129) 9]) rfl (show mu_is Q15 (some 129) 9 from (u15.1.1.is rfl)) ?_
    rw [(u15.1.1.r (p := 129) (j := 3) (q := 132) rfl)]
    refine mw_go mu_g394 (k := 1) (f1 := (158, [(4, .inl (nI (wa q + wn q))), (3, .inl (0 : Int32)), (2, .inl (nI (wi q))), (1, .inl (nI (wa q))), (0, .inr (.inr (some 129)))], [.inl (mu_i Q15 132 2), .inl (nI nf)], Q15)) (C := [mu_is Q15 (some 132) 10]) rfl (show mu_is Q15 (some 132) 10 from (u15.1.1.is rfl)) ?_
    rw [(show mu_i Q15 132 2 = (nI nw) from (u15.size d15 (j := 25) (by decide) rfl).trans (congrArg nI ((congrArg Prod.fst (show X3.1 25 = (U.1 25) from ((zX3.t 25 rfl).trans ((zX2.t 25 rfl).trans (zX1.t 25 rfl))))).trans hnw)))]
    refine mw_go mu_g394 (k := 1) (f1 := (159, [(4, .inl (nI (wa q + wn q))), (3, .inl (0 : Int32)), (2, .inl (nI (wi q))), (1, .inl (nI (wa q))), (0, .inr (.inr (some 129)))], [.inl ((nI nf) + (nI nw))], Q15)) (C := []) rfl trivial ?_
    rw [(show ((nI nf) + (nI nw)) = (nI (nf + nw)) from (nI_add nf nw))]
    refine mw_go mu_g394 (k := 1) (f1 := (162, [(4, .inl (nI (wa q + wn q))), (3, .inl (0 : Int32)), (2, .inl (nI (wi q))), (1, .inl (nI (wa q))), (0, .inr (.inr (some 129)))], [.inl (2048 : Int32), .inl (nI (nf + nw))], Q15)) (C := []) rfl trivial ?_
    refine mw_if (P := (nI (nf + nw)) < (2048 : Int32)) (a := 165) (b := 169) (fun _ => rfl) trivial (fun h24 => ?_) (fun h24 => ?_)
    · -- 165: (nI (nf + nw)) < (2048 : Int32)
      have nh24 : (nf + nw) < 2048 := (nI_ltI (by omega) (by omega)).mp (show nI (nf + nw) < nI 2048 from h24)
      refine mw_go mu_g394 (k := 3) (f1 := (172, [(5, .inl (1 : Int32)), (4, .inl (nI (wa q + wn q))), (3, .inl (0 : Int32)), (2, .inl (nI (wi q))), (1, .inl (nI (wa q))), (0, .inr (.inr (some 129)))], [], Q15)) (C := []) rfl trivial ?_
      refine mw_go mu_g394 (k := 1) (f1 := (174, [(5, .inl (1 : Int32)), (4, .inl (nI (wa q + wn q))), (3, .inl (0 : Int32)), (2, .inl (nI (wi q))), (1, .inl (nI (wa q))), (0, .inr (.inr (some 129)))], [.inl (1 : Int32)], Q15)) (C := []) rfl trivial ?_
      refine mw_if (P := (1 : Int32) = 0) (a := 194) (b := 177) (fun _ => rfl) trivial (fun h25 => absurd h25 (by decide)) (fun h25 => ?_)
      refine mw_go mu_g394 (k := 2) (f1 := (181, [(5, .inl (1 : Int32)), (4, .inl (nI (wa q + wn q))), (3, .inl (0 : Int32)), (2, .inl (nI (wi q))), (1, .inl (nI (wa q))), (0, .inr (.inr (some 129)))], [.inr (.inr (mu_r Q15 129 0))], Q15)) (C := [mu_is Q15 (some 129) 9]) rfl (show mu_is Q15 (some 129) 9 from (u15.1.1.is rfl)) ?_
      rw [(u15.1.1.r (p := 129) (j := 0) (q := 99) rfl)]
      obtain ⟨j, hj1, hj2, hj3, hj4, hj5, hwa1, hwa2, hxx⟩ := or_split2 (U := U) (f := f) (P := P) (od := od) (a := wa q) (n := nn) (i := wi q) hK.1 w3 (by rw [← hnn]; exact hwq) (by rw [← hwo6, show wa q + wn q - 1 = wa q + nn by omega])
      have hwq1 : WTC Y es (wa q) (nn + 1) (wi q) := by rw [← hnn]; exact hwq
      refine mw_go mu_g394 (k := 1) (f1 := (184, [(5, .inl (1 : Int32)), (4, .inl (nI (wa q + wn q))), (3, .inl (0 : Int32)), (2, .inl (nI (wi q))), (1, .inl (nI (wa q))), (0, .inr (.inr (some 129)))], [.inr (.inr (mu_r Q15 99 0))], Q15)) (C := [mu_is Q15 (some 99) 13]) rfl (show mu_is Q15 (some 99) 13 from (u15.1.1.is rfl)) ?_
      rw [(show mu_r Q15 99 0 = (some m) from (ud_q (U := X3) (m := m) (P := 99) (j := 0) d15 rfl).trans ((zX3.r 99 0 rfl).trans ((zX2.r 99 0 rfl).trans ((zX1.r 99 0 rfl).trans hmo))))]
      refine mw_go mu_g394 (k := 3) (f1 := (188, [(5, .inl (1 : Int32)), (4, .inl (nI (wa q + wn q))), (3, .inl (0 : Int32)), (2, .inl (nI (wi q))), (1, .inl (nI (wa q))), (0, .inr (.inr (some 129)))], [.inl ((nI (wa q + wn q)) - (2 : Int32)), .inr (.inr (some m))], Q15)) (C := []) rfl trivial ?_
      rw [(show ((nI (wa q + wn q)) - (2 : Int32)) = (nI ((wa q + wn q) - 2)) from (nI_sub (a := wa q + wn q) (b := 2) (by omega)))]
      refine mw_cIe (fun _ => rfl) (show mu_is Q15 (some m) 6 from (show mu_is Q15 (some m) 6 from gi_im u15.1.1 u15.2)) (by have y := um_start (d := (d + 3)) (a := wa q) (n := nn) (j := j) u15 d15 (show X3.1 0 = Y 0 from (((zX3.t 0 rfl).trans ((zX2.t 0 rfl).trans (zX1.t 0 rfl)))).trans hj0U) hCc (fun q hq => rg_pl hwq1.1 q (by omega)) (by omega) (by omega) (by omega) hj2 hj4 hj5; rw [show wa q + nn - 1 = (wa q + wn q) - 2 by omega] at y; exact y) ?_
      refine mw_go mu_g394 (k := 3) (f1 := (199, [(6, .inl (nI (wa q + j))), (5, .inl (1 : Int32)), (4, .inl (nI (wa q + wn q))), (3, .inl (0 : Int32)), (2, .inl (nI (wi q))), (1, .inl (nI (wa q))), (0, .inr (.inr (some 129)))], [.inl (1 : Int32)], Q15)) (C := []) rfl trivial ?_
      refine mw_if (P := (1 : Int32) = 0) (a := 209) (b := 202) (fun _ => rfl) trivial (fun h27 => absurd h27 (by decide)) (fun h27 => ?_)
      refine mw_go mu_g394 (k := 3) (f1 := (206, [(6, .inl (nI (wa q + j))), (5, .inl (1 : Int32)), (4, .inl (nI (wa q + wn q))), (3, .inl (0 : Int32)), (2, .inl (nI (wi q))), (1, .inl (nI (wa q))), (0, .inr (.inr (some 129)))], [.inl ((nI (wa q + wn q)) - (1 : Int32))], Q15)) (C := []) rfl trivial ?_
      rw [(show ((nI (wa q + wn q)) - (1 : Int32)) = (nI ((wa q + wn q) - 1)) from (nI_sub (a := wa q + wn q) (b := 1) (by omega)))]
      refine mw_go mu_g394 (k := 4) (f1 := (217, [(7, .inl (nI ((wa q + wn q) - 1))), (6, .inl (nI (wa q + j))), (5, .inl (1 : Int32)), (4, .inl (nI (wa q + wn q))), (3, .inl (0 : Int32)), (2, .inl (nI (wi q))), (1, .inl (nI (wa q))), (0, .inr (.inr (some 129)))], [.inr (.inr (mu_r Q15 129 3))], Q15)) (C := [mu_is Q15 (some 129) 9]) rfl (show mu_is Q15 (some 129) 9 from (u15.1.1.is rfl)) ?_
      rw [(u15.1.1.r (p := 129) (j := 3) (q := 132) rfl)]
      refine mw_go mu_g394 (k := 2) (f1 := (221, [(7, .inl (nI ((wa q + wn q) - 1))), (6, .inl (nI (wa q + j))), (5, .inl (1 : Int32)), (4, .inl (nI (wa q + wn q))), (3, .inl (0 : Int32)), (2, .inl (nI (wi q))), (1, .inl (nI (wa q))), (0, .inr (.inr (some 129)))], [.inl (mu_i Q15 129 22), .inr (.inr (some 132))], Q15)) (C := [mu_is Q15 (some 129) 9]) rfl (show mu_is Q15 (some 129) 9 from (u15.1.1.is rfl)) ?_
      rw [(show mu_i Q15 129 22 = (nI q) from (ud_i (U := X3) (m := m) (P := 129) (j := 22) d15 rfl).trans ((zX3.i 129 22 rfl).trans ((zX2.i 129 22 rfl).trans (by rw [hX1]; rfl))))]
      refine mw_go mu_g394 (k := 2) (f1 := (224, [(7, .inl (nI ((wa q + wn q) - 1))), (6, .inl (nI (wa q + j))), (5, .inl (1 : Int32)), (4, .inl (nI (wa q + wn q))), (3, .inl (0 : Int32)), (2, .inl (nI (wi q))), (1, .inl (nI (wa q))), (0, .inr (.inr (some 129)))], [.inl (nI (wa q + j)), .inl (1 : Int32), .inl (nI q), .inr (.inr (some 132))], Q15)) (C := []) rfl trivial ?_
      refine mw_cV (fun _ => rfl) (show mu_is Q15 (some 132) 10 from (u15.1.1.is rfl)) (u15.setr (C := C) (d := (d + 4)) d15 (j := 25) (Or.inr ⟨by decide, by decide⟩) rfl (nI q) (nI (wa q + j)) (c := 1) (by decide)) (fun Q28 q28 => ?_)
      obtain ⟨u28, r28, d28⟩ := q28
      have ht28 : ur m C H Q28 := ht15.trans r28
      have qf28 : uq F394 U (upT X3 (ax 25 X3.1 (nI q) 1 (nI (wa q + j)))) := qf15.ax rfl
      obtain ⟨X4, hX4⟩ : ∃ X, X = (upT X3 (ax 25 X3.1 (nI q) 1 (nI (wa q + j)))) := ⟨_, rfl⟩
      rw [← hX4] at d28 qf28
      have zX4 : uq F394w X3 X4 := by rw [hX4]; exact ((uq.refl F394w X3).T (fun q hq => by first | exact ax_ne (in1_ne rfl hq) | exact ap_ne (in1_ne rfl hq) | exact fu_ne _ _ (in1_ne rfl hq)))
      have hn27b : (X2.1 27).1 = 1 := by have y : (tset 5 (X1.1 27) 0 3 (nI (wa q + wn q))).1 = (X1.1 27).1 := tsx_1; have y2 : (X1.1 27).1 = 1 := (by rw [zX1.t 27 rfl]; exact hnbs); rw [hX2]; exact y.trans y2
      have hn27 : (X4.1 27).1 = 1 := by rw [zX4.t 27 rfl, zX3.t 27 rfl]; exact hn27b
      have hn25 : (X4.1 25).1 = nw := by rw [hX4]; exact tsx_1.trans (by rw [(show X3.1 25 = U.1 25 from (zX3.t 25 rfl).trans ((zX2.t 25 rfl).trans (zX1.t 25 rfl)))]; exact hnw)
      refine mw_go mu_g394 (k := 4) (f1 := (233, [(7, .inl (nI ((wa q + wn q) - 1))), (6, .inl (nI (wa q + j))), (5, .inl (1 : Int32)), (4, .inl (nI (wa q + wn q))), (3, .inl (0 : Int32)), (2, .inl (nI (wi q))), (1, .inl (nI (wa q))), (0, .inr (.inr (some 129)))], [.inl (nI (wi q)), .inl (nI ((wa q + wn q) - 1)), .inl (nI (wa q + j)), .inr (.inr (some 129))], Q28)) (C := []) rfl trivial ?_
      have hspb : sp Y (im Y (wi q) + 1) 6 ≤ 67108864 := by
        obtain ⟨-, -, -, hkM, -⟩ := hD.1.inst w3
        obtain ⟨lr1, lr2, lr3⟩ := hD.1.le hkM (c := 6) (j := 9) (by decide) (by decide) rfl
        omega
      refine mw_cIe (fun _ => rfl) (show mu_is Q28 (some 129) 9 from (u28.1.1.is rfl)) (by have y := rl_branch (d := (d + 1)) (Y := Y) (a := (wa q + j)) (n := (nn - j)) (i := wi q) (nb := 1) (pa := fun _ => 0) (pn := fun _ => 0) u28 d28 (show (X4.2.2.2.1 99 0) = some m from ((zX4.r 99 0 rfl).trans ((zX3.r 99 0 rfl).trans ((zX2.r 99 0 rfl).trans ((zX1.r 99 0 rfl).trans hmo))))) (hK.q (F := F394) (show uq F394 U X4 from (((((uq.refl F394 U).tr zX1 rfl).tr zX2 rfl).tr zX3 rfl).tr zX4 rfl)) rfl rfl).1.2.2.1 (show X4.1 0 = Y 0 from (((zX4.t 0 rfl).trans ((zX3.t 0 rfl).trans ((zX2.t 0 rfl).trans (zX1.t 0 rfl))))).trans hj0U) (show X4.1 9 = Y 9 from (((zX4.t 9 rfl).trans ((zX3.t 9 rfl).trans ((zX2.t 9 rfl).trans (zX1.t 9 rfl))))).trans hj9U) hD.1 hCc w3 hY11 (rgs_of hwa2.1) (by omega) hspb (fun r r1 r2 => by omega) hn27 ⟨by omega, by omega⟩; rw [show (wa q + j) + (nn - j) = (wa q + wn q) - 1 by omega] at y; exact y.imp (fun r H1 q => ⟨q.1.elim (fun y => by obtain ⟨-, k, k1, k2, -⟩ := y; omega) id, q.2⟩)) ?_
      refine mw_if (P := (0 : Int32) = 0) (a := 239) (b := 304) (fun _ => rfl) trivial (fun h30 => ?_) (fun h30 => absurd (by decide) h30)
      refine mw_go mu_g394 (k := 2) (f1 := (243, [(7, .inl (nI ((wa q + wn q) - 1))), (6, .inl (nI (wa q + j))), (5, .inl (1 : Int32)), (4, .inl (nI (wa q + wn q))), (3, .inl (0 : Int32)), (2, .inl (nI (wi q))), (1, .inl (nI (wa q))), (0, .inr (.inr (some 129)))], [.inr (.inr (mu_r Q28 129 23))], Q28)) (C := [mu_is Q28 (some 129) 9]) rfl (show mu_is Q28 (some 129) 9 from (u28.1.1.is rfl)) ?_
      rw [(u28.1.1.r (p := 129) (j := 23) (q := 167) rfl)]
      refine mw_go mu_g394 (k := 2) (f1 := (247, [(7, .inl (nI ((wa q + wn q) - 1))), (6, .inl (nI (wa q + j))), (5, .inl (1 : Int32)), (4, .inl (nI (wa q + wn q))), (3, .inl (0 : Int32)), (2, .inl (nI (wi q))), (1, .inl (nI (wa q))), (0, .inr (.inr (some 129)))], [.inr (.inr (mu_r Q28 129 1)), .inr (.inr (some 167))], Q28)) (C := [mu_is Q28 (some 129) 9]) rfl (show mu_is Q28 (some 129) 9 from (u28.1.1.is rfl)) ?_
      rw [(u28.1.1.r (p := 129) (j := 1) (q := 130) rfl)]
      refine mw_go mu_g394 (k := 1) (f1 := (250, [(7, .inl (nI ((wa q + wn q) - 1))), (6, .inl (nI (wa q + j))), (5, .inl (1 : Int32)), (4, .inl (nI (wa q + wn q))), (3, .inl (0 : Int32)), (2, .inl (nI (wi q))), (1, .inl (nI (wa q))), (0, .inr (.inr (some 129)))], [.inl (mu_i Q28 130 2), .inr (.inr (some 167))], Q28)) (C := [mu_is Q28 (some 130) 10]) rfl (show mu_is Q28 (some 130) 10 from (u28.1.1.is rfl)) ?_
      rw [(show mu_i Q28 130 2 = (nI nf) from (u28.size d28 (j := 24) (by decide) rfl).trans (congrArg nI ((congrArg Prod.fst (show X4.1 24 = (U.1 24) from ((zX4.t 24 rfl).trans ((zX3.t 24 rfl).trans ((zX2.t 24 rfl).trans (zX1.t 24 rfl)))))).trans hnf)))]
      refine mw_go mu_g394 (k := 2) (f1 := (254, [(7, .inl (nI ((wa q + wn q) - 1))), (6, .inl (nI (wa q + j))), (5, .inl (1 : Int32)), (4, .inl (nI (wa q + wn q))), (3, .inl (0 : Int32)), (2, .inl (nI (wi q))), (1, .inl (nI (wa q))), (0, .inr (.inr (some 129)))], [.inr (.inr (mu_r Q28 129 3)), .inl (nI nf), .inr (.inr (some 167))], Q28)) (C := [mu_is Q28 (some 129) 9]) rfl (show mu_is Q28 (some 129) 9 from (u28.1.1.is rfl)) ?_
      rw [(u28.1.1.r (p := 129) (j := 3) (q := 132) rfl)]
      refine mw_go mu_g394 (k := 1) (f1 := (257, [(7, .inl (nI ((wa q + wn q) - 1))), (6, .inl (nI (wa q + j))), (5, .inl (1 : Int32)), (4, .inl (nI (wa q + wn q))), (3, .inl (0 : Int32)), (2, .inl (nI (wi q))), (1, .inl (nI (wa q))), (0, .inr (.inr (some 129)))], [.inl (mu_i Q28 132 2), .inl (nI nf), .inr (.inr (some 167))], Q28)) (C := [mu_is Q28 (some 132) 10]) rfl (show mu_is Q28 (some 132) 10 from (u28.1.1.is rfl)) ?_
      rw [(show mu_i Q28 132 2 = (nI nw) from (u28.size d28 (j := 25) (by decide) rfl).trans (congrArg nI ((congrArg Prod.fst (show X4.1 25 = (X4.1 25) from rfl)).trans hn25)))]
      refine mw_go mu_g394 (k := 2) (f1 := (261, [(7, .inl (nI ((wa q + wn q) - 1))), (6, .inl (nI (wa q + j))), (5, .inl (1 : Int32)), (4, .inl (nI (wa q + wn q))), (3, .inl (0 : Int32)), (2, .inl (nI (wi q))), (1, .inl (nI (wa q))), (0, .inr (.inr (some 129)))], [.inl (nI ((wa q + wn q) - 1)), .inl (nI (wa q + j)), .inl (nI nw), .inl (nI nf), .inr (.inr (some 167))], Q28)) (C := []) rfl trivial ?_
      refine mw_cI (fun _ => rfl) (show mu_is Q28 (some 167) 10 from (u28.1.1.is rfl)) (u28.putr (C := C) (d := (d + 2)) d28 (j := 27) (Or.inr ⟨by decide, by decide⟩) rfl (nI nf) (nI nw) (nI (wa q + j)) (nI ((wa q + wn q) - 1)) (by show 2 * (((X4.1 27).1 + 1) * 5) + 5 ≤ C 27; rw [hn27]; omega) (by omega)) (fun x31 Q31 q31 => ?_)
      obtain ⟨rfl, u31, r31, d31⟩ := q31
      have ht31 : ur m C H Q31 := ht28.trans r31
      have qf31 : uq F394 U (upT X4 (ap 27 X4.1 (nI nf) (nI nw) (nI (wa q + j)) (nI ((wa q + wn q) - 1)))) := qf28.ap rfl
      refine mw_go mu_g394 (k := 1) (f1 := (265, [(7, .inl (nI ((wa q + wn q) - 1))), (6, .inl (nI (wa q + j))), (5, .inl (1 : Int32)), (4, .inl (nI (wa q + wn q))), (3, .inl (0 : Int32)), (2, .inl (nI (wi q))), (1, .inl (nI (wa q))), (0, .inr (.inr (some 129)))], [], Q31)) (C := []) rfl trivial ?_
      obtain ⟨X5, hX5⟩ : ∃ X, X = (upT X4 (ap 27 X4.1 (nI nf) (nI nw) (nI (wa q + j)) (nI ((wa q + wn q) - 1)))) := ⟨_, rfl⟩
      rw [← hX5] at d31 qf31
      have zX5 : uq F394b X4 X5 := by rw [hX5]; exact ((uq.refl F394b X4).T (fun q hq => by first | exact ax_ne (in1_ne rfl hq) | exact ap_ne (in1_ne rfl hq) | exact fu_ne _ _ (in1_ne rfl hq)))
      refine mw_go mu_g394 (k := 2) (f1 := (269, [(7, .inl (nI ((wa q + wn q) - 1))), (6, .inl (nI (wa q + j))), (5, .inl (1 : Int32)), (4, .inl (nI (wa q + wn q))), (3, .inl (0 : Int32)), (2, .inl (nI (wi q))), (1, .inl (nI (wa q))), (0, .inr (.inr (some 129)))], [.inr (.inr (mu_r Q31 129 14))], Q31)) (C := [mu_is Q31 (some 129) 9]) rfl (show mu_is Q31 (some 129) 9 from (u31.1.1.is rfl)) ?_
      rw [(u31.1.1.r (p := 129) (j := 14) (q := 142) rfl)]
      refine mw_go mu_g394 (k := 3) (f1 := (275, [(7, .inl (nI ((wa q + wn q) - 1))), (6, .inl (nI (wa q + j))), (5, .inl (1 : Int32)), (4, .inl (nI (wa q + wn q))), (3, .inl (0 : Int32)), (2, .inl (nI (wi q))), (1, .inl (nI (wa q))), (0, .inr (.inr (some 129)))], [.inr (.inr (mu_r Q31 129 14)), .inl (14 : Int32), .inr (.inr (some 142))], Q31)) (C := [mu_is Q31 (some 129) 9]) rfl (show mu_is Q31 (some 129) 9 from (u31.1.1.is rfl)) ?_
      rw [(u31.1.1.r (p := 129) (j := 14) (q := 142) rfl)]
      refine mw_go mu_g394 (k := 2) (f1 := (278, [(7, .inl (nI ((wa q + wn q) - 1))), (6, .inl (nI (wa q + j))), (5, .inl (1 : Int32)), (4, .inl (nI (wa q + wn q))), (3, .inl (0 : Int32)), (2, .inl (nI (wi q))), (1, .inl (nI (wa q))), (0, .inr (.inr (some 129)))], [.inl (14 : Int32), .inl (0 : Int32), .inr (.inr (some 142)), .inl (14 : Int32), .inr (.inr (some 142))], Q31)) (C := []) rfl trivial ?_
      refine mw_copyI (t := 0) rfl (show mu_is Q31 (some 142) 100 from (u31.iA d31 rfl rfl ((ud_q (m := m) (P := 129) (j := 14) d31 rfl).symm.trans (u31.1.1.r (p := 129) (j := 14) (q := 142) rfl)))) (show mu_is Q31 (some 142) 100 from (u31.iA d31 rfl rfl ((ud_q (m := m) (P := 129) (j := 14) d31 rfl).symm.trans (u31.1.1.r (p := 129) (j := 14) (q := 142) rfl)))) (by decide) (by decide) (by decide) (by decide) (by rw [show mu_n Q31 (mu_p (some 142)) = 28 from (u31.1.1.a (p := 142) (x := (100, 28)) rfl).2, (show (14 : Int32).toNatClampNeg = 14 from by decide)]; omega) (by rw [show mu_n Q31 (mu_p (some 142)) = 28 from (u31.1.1.a (p := 142) (x := (100, 28)) rfl).2, (show (0 : Int32).toNatClampNeg = 0 from by decide), (show (14 : Int32).toNatClampNeg = 14 from by decide)]; omega) (fun z => by cases z) (by decide) ?_
      rw [(show (14 : Int32).toNatClampNeg = 14 from by decide), (show (0 : Int32).toNatClampNeg = 0 from by decide)]
      show mu_W _ _ (281, [(7, .inl (nI ((wa q + wn q) - 1))), (6, .inl (nI (wa q + j))), (5, .inl (1 : Int32)), (4, .inl (nI (wa q + wn q))), (3, .inl (0 : Int32)), (2, .inl (nI (wi q))), (1, .inl (nI (wa q))), (0, .inr (.inr (some 129)))], [], (mu_cpi Q31 142 14 142 0 14)) _
      obtain ⟨u32, r32, d32⟩ : um m (mu_cpi Q31 142 14 142 0 14) ∧ ur m C Q31 (mu_cpi Q31 142 14 142 0 14) ∧ ud m (mu_cpi Q31 142 14 142 0 14) = (upF X5 129 14 0 (fun i => (X5.2.2.1 129 14).2 (14 + i)) 14) := u31.cA (C := C) d31 rfl rfl ((ud_q (m := m) (P := 129) (j := 14) d31 rfl).symm.trans (u31.1.1.r (p := 129) (j := 14) (q := 142) rfl)) rfl rfl ((ud_q (m := m) (P := 129) (j := 14) d31 rfl).symm.trans (u31.1.1.r (p := 129) (j := 14) (q := 142) rfl))
      generalize (mu_cpi Q31 142 14 142 0 14) = Q32 at u32 r32 d32 ⊢
      have qf32 : uq F394 U (upF X5 129 14 0 (fun i => (X5.2.2.1 129 14).2 (14 + i)) 14) := qf31.F rfl
      have ht32 : ur m C H Q32 := ht31.trans r32
      obtain ⟨X6, hX6⟩ : ∃ X, X = (upF X5 129 14 0 (fun i => (X5.2.2.1 129 14).2 (14 + i)) 14) := ⟨_, rfl⟩
      rw [← hX6] at d32 qf32
      have zX6 : uq F394c X5 X6 := by rw [hX6]; exact ((uq.refl F394c X5).F rfl)
      refine mw_go mu_g394 (k := 2) (f1 := (285, [(7, .inl (nI ((wa q + wn q) - 1))), (6, .inl (nI (wa q + j))), (5, .inl (1 : Int32)), (4, .inl (nI (wa q + wn q))), (3, .inl (0 : Int32)), (2, .inl (nI (wi q))), (1, .inl (nI (wa q))), (0, .inr (.inr (some 129)))], [.inr (.inr (mu_r Q32 129 2))], Q32)) (C := [mu_is Q32 (some 129) 9]) rfl (show mu_is Q32 (some 129) 9 from (u32.1.1.is rfl)) ?_
      rw [(u32.1.1.r (p := 129) (j := 2) (q := 118) rfl)]
      refine mw_cV (fun _ => rfl) (show mu_is Q32 (some 118) 10 from (u32.1.1.is rfl)) (u32.clearr (C := C) (d := (d + 4)) d32 (j := 23) (Or.inr ⟨by decide, by decide⟩) rfl) (fun Q33 q33 => ?_)
      obtain ⟨u33, r33, d33⟩ := q33
      have ht33 : ur m C H Q33 := ht32.trans r33
      have qf33 : uq F394 U (upT X6 (ac 23 X6.1 0)) := qf32.ac rfl
      obtain ⟨X7, hX7⟩ : ∃ X, X = (upT X6 (ac 23 X6.1 0)) := ⟨_, rfl⟩
      rw [← hX7] at d33 qf33
      have zX7 : uq F394p X6 X7 := by rw [hX7]; exact ((uq.refl F394p X6).T (fun q hq => by first | exact ax_ne (in1_ne rfl hq) | exact ap_ne (in1_ne rfl hq) | exact fu_ne _ _ (in1_ne rfl hq)))
      refine mw_go mu_g394 (k := 2) (f1 := (292, [(7, .inl (nI ((wa q + wn q) - 1))), (6, .inl (nI (wa q + j))), (5, .inl (1 : Int32)), (4, .inl (nI (wa q + wn q))), (3, .inl (0 : Int32)), (2, .inl (nI (wi q))), (1, .inl (nI (wa q))), (0, .inr (.inr (some 129)))], [.inr (.inr (mu_r Q33 129 2))], Q33)) (C := [mu_is Q33 (some 129) 9]) rfl (show mu_is Q33 (some 129) 9 from (u33.1.1.is rfl)) ?_
      rw [(u33.1.1.r (p := 129) (j := 2) (q := 118) rfl)]
      refine mw_go mu_g394 (k := 4) (f1 := (298, [(7, .inl (nI ((wa q + wn q) - 1))), (6, .inl (nI (wa q + j))), (5, .inl (1 : Int32)), (4, .inl (nI (wa q + wn q))), (3, .inl (0 : Int32)), (2, .inl (nI (wi q))), (1, .inl (nI (wa q))), (0, .inr (.inr (some 129)))], [.inl (-1 : Int32), .inl (nI (wi q)), .inl (nI ((wa q + wn q) - 1)), .inl (nI (wa q + j)), .inr (.inr (some 118))], Q33)) (C := []) rfl trivial ?_
      refine mw_cI (fun _ => rfl) (show mu_is Q33 (some 118) 10 from (u33.1.1.is rfl)) (u33.putr (C := C) (d := (d + 2)) d33 (j := 23) (Or.inr ⟨by decide, by decide⟩) rfl (nI (wa q + j)) (nI ((wa q + wn q) - 1)) (nI (wi q)) (-1 : Int32) (by show 2 * (((X7.1 23).1 + 1) * 5) + 5 ≤ C 23; rw [show (X7.1 23).1 = 0 from by rw [hX7]; rfl]; omega) (by omega)) (fun x34 Q34 q34 => ?_)
      obtain ⟨rfl, u34, r34, d34⟩ := q34
      have ht34 : ur m C H Q34 := ht33.trans r34
      have qf34 : uq F394 U (upT X7 (ap 23 X7.1 (nI (wa q + j)) (nI ((wa q + wn q) - 1)) (nI (wi q)) (-1 : Int32))) := qf33.ap rfl
      refine mw_go mu_g394 (k := 1) (f1 := (302, [(7, .inl (nI ((wa q + wn q) - 1))), (6, .inl (nI (wa q + j))), (5, .inl (1 : Int32)), (4, .inl (nI (wa q + wn q))), (3, .inl (0 : Int32)), (2, .inl (nI (wi q))), (1, .inl (nI (wa q))), (0, .inr (.inr (some 129)))], [], Q34)) (C := []) rfl trivial ?_
      obtain ⟨X8, hX8⟩ : ∃ X, X = (upT X7 (ap 23 X7.1 (nI (wa q + j)) (nI ((wa q + wn q) - 1)) (nI (wi q)) (-1 : Int32))) := ⟨_, rfl⟩
      rw [← hX8] at d34 qf34
      have zX8 : uq F394p X7 X8 := by rw [hX8]; exact ((uq.refl F394p X7).T (fun q hq => by first | exact ax_ne (in1_ne rfl hq) | exact ap_ne (in1_ne rfl hq) | exact fu_ne _ _ (in1_ne rfl hq)))
      refine mw_go mu_g394 (k := 1) (f1 := (303, [(7, .inl (nI ((wa q + wn q) - 1))), (6, .inl (nI (wa q + j))), (5, .inl (1 : Int32)), (4, .inl (nI (wa q + wn q))), (3, .inl (0 : Int32)), (2, .inl (nI (wi q))), (1, .inl (nI (wa q))), (0, .inr (.inr (some 129)))], [.inl (1 : Int32)], Q34)) (C := []) rfl trivial ?_
      have h25w : X4.1 25 = tset 5 (X3.1 25) (nI q) 1 (nI (wa q + j)) := by rw [hX4]; rfl
      have h27w : X5.1 27 = tput 5 (X4.1 27) (nI (X3.1 24).1) (nI (X3.1 25).1) (nI (wa q + j)) (nI ((wa q + j) + (nn - j))) := by
        rw [hX5, show (X3.1 24).1 = nf by rw [show X3.1 24 = U.1 24 from (zX3.t 24 rfl).trans ((zX2.t 24 rfl).trans (zX1.t 24 rfl))]; exact hnf, show (X3.1 25).1 = nw by rw [show X3.1 25 = U.1 25 from (zX3.t 25 rfl).trans ((zX2.t 25 rfl).trans (zX1.t 25 rfl))]; exact hnw, show (wa q + j) + (nn - j) = (wa q + wn q) - 1 by omega]
        rfl
      obtain ⟨-, bo', G', hRn, hG1, hGF⟩ := RLO.first (V := X5) (V1 := X4) (q := q) (j := j) hRc hK.1.P14 hq hwo3X hwo1 (by omega) (Or.inr hwa1) h25w (zX4.t 15 rfl) (zX4.t 24 rfl) (zX4.t 27 rfl) (by rw [hX4]; rfl) h27w (zX5.t 15 rfl) (zX5.t 24 rfl) (zX5.t 25 rfl) (by rw [hX5]; rfl)
      have hRn2 := ((hRn.q zX6 rfl rfl).q zX7 rfl rfl).q zX8 rfl rfl
      have e23 : X8.1 23 = tput 5 (X7.1 23) (nI (wa q + j)) (nI ((wa q + j) + (nn - j))) (nI (wi q)) (-1) := by rw [hX8, show (wa q + j) + (nn - j) = (wa q + wn q) - 1 by omega]; rfl
      have e23s : (X7.1 23).1 = 0 := by rw [hX7]; rfl
      obtain ⟨hPC1, hPN1⟩ := one_piece (U := U) (f := f) (P := P) (od := od) (T := X8.1 23) (a := (wa q + j)) (n := (nn - j)) (i := wi q) hwa2 w3 (by omega) hY11 (by rw [e23]; exact congrArg (fun y => y + 1) e23s) (by rw [e23]; exact tpo_new e23s.symm (by decide)) (by rw [e23]; exact tpo_new e23s.symm (by decide)) (by rw [e23]; exact tpo_new e23s.symm (by decide))
      have e27 : X8.1 27 = X5.1 27 := (zX8.t 27 rfl).trans ((zX7.t 27 rfl).trans (zX6.t 27 rfl))
      have e03 : (X4.1 27).2 0 3 = nI (wa q + wn q) := by rw [zX4.t 27 rfl, zX3.t 27 rfl, hX2]; exact ts0_at (by rw [zX1.t 27 rfl]; omega)
      have hBX := brx_first (U := U) (f := f) (P := P) (od := od) (V := X8) (es := es) (q := q) (ba := wa q) (bi := wi q) (j := j) (n0 := wn q) (pa1 := (wa q + j)) (pn1 := (nn - j)) (G' := G') (GF := G 0) (PN := PND Y U f P od (X8.1 23)) ((zX8.i 129 22 rfl).trans ((zX7.i 129 22 rfl).trans ((zX6.i 129 22 rfl).trans ((zX5.i 129 22 rfl).trans ((zX4.i 129 22 rfl).trans ((zX3.i 129 22 rfl).trans ((zX2.i 129 22 rfl).trans (by rw [hX1]; rfl)))))))) (by rw [e27, h27w, tpo_old (by omega)]; exact e03) (by rw [e27, h27w]; exact congrArg (fun y => y + 1) hn27) (by rw [e27, h27w]; exact tpo_new hn27.symm (by decide)) (by rw [e27, h27w]; exact tpo_new hn27.symm (by decide)) hwa2 hwq w3 (by omega) (by omega) (fun s u => by rw [hnn, hxx s u]; exact ⟨fun y => y.elim (fun y => Or.inr ⟨by omega, y⟩) Or.inl, fun y => y.elim Or.inr (fun y => Or.inl y.2)⟩) hG1 (fun s u hs hu => by rw [hGF s u hs hu, trs_same (U := U) ((zX3.t 15 rfl).trans ((zX2.t 15 rfl).trans (zX1.t 15 rfl))) ((zX3.a 99 8 rfl).trans ((zX2.a 99 8 rfl).trans (zX1.a 99 8 rfl)))]) hPN1
      refine mw_of (fun _ => mu_ret rfl (Or.inr rfl) ⟨(1 : Int32), Q34, rfl, u34, ht34, (by rw [d34]; exact qf34), ?_⟩)
      rw [d34]
      exact ⟨hK.q (F := F394) (show uq F394 U X8 from (((((((((uq.refl F394 U).tr zX1 rfl).tr zX2 rfl).tr zX3 rfl).tr zX4 rfl).tr zX5 rfl).tr zX6 rfl).tr zX7 rfl).tr zX8 rfl)) rfl rfl, Or.inr ⟨rfl, bo', q, wa q, j, wi q, wn q, _, _, G', 2047, Or.inl rfl, hRn2.cn (by rw [show (X8.1 24).1 = nf by rw [show X8.1 24 = U.1 24 from ((zX8.t 24 rfl).trans ((zX7.t 24 rfl).trans ((zX6.t 24 rfl).trans ((zX5.t 24 rfl).trans ((zX4.t 24 rfl).trans ((zX3.t 24 rfl).trans ((zX2.t 24 rfl).trans (zX1.t 24 rfl))))))))]; exact hnf, show (X8.1 25).1 = nw by rw [show X8.1 25 = X4.1 25 from (zX8.t 25 rfl).trans ((zX7.t 25 rfl).trans ((zX6.t 25 rfl).trans (zX5.t 25 rfl)))]; exact hn25]; omega), (by rw [e23]; exact congrArg (fun y => y + 1) e23s), hPC1, hBX⟩⟩
    · -- 169: not (nI (nf + nw)) < (2048 : Int32)
      have nh24 : ¬ (nf + nw) < 2048 := fun z => h24 (show nI (nf + nw) < nI 2048 from (nI_ltI (by omega) (by omega)).mpr z)
      refine mw_go mu_g394 (k := 2) (f1 := (172, [(5, .inl (0 : Int32)), (4, .inl (nI (wa q + wn q))), (3, .inl (0 : Int32)), (2, .inl (nI (wi q))), (1, .inl (nI (wa q))), (0, .inr (.inr (some 129)))], [], Q15)) (C := []) rfl trivial ?_
      refine mw_go mu_g394 (k := 1) (f1 := (174, [(5, .inl (0 : Int32)), (4, .inl (nI (wa q + wn q))), (3, .inl (0 : Int32)), (2, .inl (nI (wi q))), (1, .inl (nI (wa q))), (0, .inr (.inr (some 129)))], [.inl (0 : Int32)], Q15)) (C := []) rfl trivial ?_
      refine mw_if (P := (0 : Int32) = 0) (a := 194) (b := 177) (fun _ => rfl) trivial (fun h35 => ?_) (fun h35 => absurd (by decide) h35)
      refine mw_go mu_g394 (k := 3) (f1 := (199, [(6, .inl (nI (wa q))), (5, .inl (0 : Int32)), (4, .inl (nI (wa q + wn q))), (3, .inl (0 : Int32)), (2, .inl (nI (wi q))), (1, .inl (nI (wa q))), (0, .inr (.inr (some 129)))], [.inl (0 : Int32)], Q15)) (C := []) rfl trivial ?_
      refine mw_if (P := (0 : Int32) = 0) (a := 209) (b := 202) (fun _ => rfl) trivial (fun h36 => ?_) (fun h36 => absurd (by decide) h36)
      refine mw_go mu_g394 (k := 4) (f1 := (217, [(7, .inl (nI (wa q + wn q))), (6, .inl (nI (wa q))), (5, .inl (0 : Int32)), (4, .inl (nI (wa q + wn q))), (3, .inl (0 : Int32)), (2, .inl (nI (wi q))), (1, .inl (nI (wa q))), (0, .inr (.inr (some 129)))], [.inr (.inr (mu_r Q15 129 3))], Q15)) (C := [mu_is Q15 (some 129) 9]) rfl (show mu_is Q15 (some 129) 9 from (u15.1.1.is rfl)) ?_
      rw [(u15.1.1.r (p := 129) (j := 3) (q := 132) rfl)]
      refine mw_go mu_g394 (k := 2) (f1 := (221, [(7, .inl (nI (wa q + wn q))), (6, .inl (nI (wa q))), (5, .inl (0 : Int32)), (4, .inl (nI (wa q + wn q))), (3, .inl (0 : Int32)), (2, .inl (nI (wi q))), (1, .inl (nI (wa q))), (0, .inr (.inr (some 129)))], [.inl (mu_i Q15 129 22), .inr (.inr (some 132))], Q15)) (C := [mu_is Q15 (some 129) 9]) rfl (show mu_is Q15 (some 129) 9 from (u15.1.1.is rfl)) ?_
      rw [(show mu_i Q15 129 22 = (nI q) from (ud_i (U := X3) (m := m) (P := 129) (j := 22) d15 rfl).trans ((zX3.i 129 22 rfl).trans ((zX2.i 129 22 rfl).trans (by rw [hX1]; rfl))))]
      refine mw_go mu_g394 (k := 2) (f1 := (224, [(7, .inl (nI (wa q + wn q))), (6, .inl (nI (wa q))), (5, .inl (0 : Int32)), (4, .inl (nI (wa q + wn q))), (3, .inl (0 : Int32)), (2, .inl (nI (wi q))), (1, .inl (nI (wa q))), (0, .inr (.inr (some 129)))], [.inl (nI (wa q)), .inl (1 : Int32), .inl (nI q), .inr (.inr (some 132))], Q15)) (C := []) rfl trivial ?_
      refine mw_cV (fun _ => rfl) (show mu_is Q15 (some 132) 10 from (u15.1.1.is rfl)) (u15.setr (C := C) (d := (d + 4)) d15 (j := 25) (Or.inr ⟨by decide, by decide⟩) rfl (nI q) (nI (wa q)) (c := 1) (by decide)) (fun Q37 q37 => ?_)
      obtain ⟨u37, r37, d37⟩ := q37
      have ht37 : ur m C H Q37 := ht15.trans r37
      have qf37 : uq F394 U (upT X3 (ax 25 X3.1 (nI q) 1 (nI (wa q)))) := qf15.ax rfl
      obtain ⟨X4, hX4⟩ : ∃ X, X = (upT X3 (ax 25 X3.1 (nI q) 1 (nI (wa q)))) := ⟨_, rfl⟩
      rw [← hX4] at d37 qf37
      have zX4 : uq F394w X3 X4 := by rw [hX4]; exact ((uq.refl F394w X3).T (fun q hq => by first | exact ax_ne (in1_ne rfl hq) | exact ap_ne (in1_ne rfl hq) | exact fu_ne _ _ (in1_ne rfl hq)))
      have hn27b : (X2.1 27).1 = 1 := by have y : (tset 5 (X1.1 27) 0 3 (nI (wa q + wn q))).1 = (X1.1 27).1 := tsx_1; have y2 : (X1.1 27).1 = 1 := (by rw [zX1.t 27 rfl]; exact hnbs); rw [hX2]; exact y.trans y2
      have hn27 : (X4.1 27).1 = 1 := by rw [zX4.t 27 rfl, zX3.t 27 rfl]; exact hn27b
      have hn25 : (X4.1 25).1 = nw := by rw [hX4]; exact tsx_1.trans (by rw [(show X3.1 25 = U.1 25 from (zX3.t 25 rfl).trans ((zX2.t 25 rfl).trans (zX1.t 25 rfl)))]; exact hnw)
      refine mw_go mu_g394 (k := 4) (f1 := (233, [(7, .inl (nI (wa q + wn q))), (6, .inl (nI (wa q))), (5, .inl (0 : Int32)), (4, .inl (nI (wa q + wn q))), (3, .inl (0 : Int32)), (2, .inl (nI (wi q))), (1, .inl (nI (wa q))), (0, .inr (.inr (some 129)))], [.inl (nI (wi q)), .inl (nI (wa q + wn q)), .inl (nI (wa q)), .inr (.inr (some 129))], Q37)) (C := []) rfl trivial ?_
      have hspb : sp Y (im Y (wi q) + 1) 6 ≤ 67108864 := by
        obtain ⟨-, -, -, hkM, -⟩ := hD.1.inst w3
        obtain ⟨lr1, lr2, lr3⟩ := hD.1.le hkM (c := 6) (j := 9) (by decide) (by decide) rfl
        omega
      refine mw_cIe (fun _ => rfl) (show mu_is Q37 (some 129) 9 from (u37.1.1.is rfl)) (by have y := rl_branch (d := (d + 1)) (Y := Y) (a := (wa q)) (n := (wn q)) (i := wi q) (nb := 1) (pa := fun _ => 0) (pn := fun _ => 0) u37 d37 (show (X4.2.2.2.1 99 0) = some m from ((zX4.r 99 0 rfl).trans ((zX3.r 99 0 rfl).trans ((zX2.r 99 0 rfl).trans ((zX1.r 99 0 rfl).trans hmo))))) (hK.q (F := F394) (show uq F394 U X4 from (((((uq.refl F394 U).tr zX1 rfl).tr zX2 rfl).tr zX3 rfl).tr zX4 rfl)) rfl rfl).1.2.2.1 (show X4.1 0 = Y 0 from (((zX4.t 0 rfl).trans ((zX3.t 0 rfl).trans ((zX2.t 0 rfl).trans (zX1.t 0 rfl))))).trans hj0U) (show X4.1 9 = Y 9 from (((zX4.t 9 rfl).trans ((zX3.t 9 rfl).trans ((zX2.t 9 rfl).trans (zX1.t 9 rfl))))).trans hj9U) hD.1 hCc w3 hY11 (rgs_of hwq.1) (by omega) hspb (fun r r1 r2 => by omega) hn27 ⟨by omega, by omega⟩; rw [show (wa q) + (wn q) = wa q + wn q by omega] at y; exact y.imp (fun r H1 q => ⟨q.1.elim (fun y => by obtain ⟨-, k, k1, k2, -⟩ := y; omega) id, q.2⟩)) ?_
      refine mw_if (P := (0 : Int32) = 0) (a := 239) (b := 304) (fun _ => rfl) trivial (fun h39 => ?_) (fun h39 => absurd (by decide) h39)
      refine mw_go mu_g394 (k := 2) (f1 := (243, [(7, .inl (nI (wa q + wn q))), (6, .inl (nI (wa q))), (5, .inl (0 : Int32)), (4, .inl (nI (wa q + wn q))), (3, .inl (0 : Int32)), (2, .inl (nI (wi q))), (1, .inl (nI (wa q))), (0, .inr (.inr (some 129)))], [.inr (.inr (mu_r Q37 129 23))], Q37)) (C := [mu_is Q37 (some 129) 9]) rfl (show mu_is Q37 (some 129) 9 from (u37.1.1.is rfl)) ?_
      rw [(u37.1.1.r (p := 129) (j := 23) (q := 167) rfl)]
      refine mw_go mu_g394 (k := 2) (f1 := (247, [(7, .inl (nI (wa q + wn q))), (6, .inl (nI (wa q))), (5, .inl (0 : Int32)), (4, .inl (nI (wa q + wn q))), (3, .inl (0 : Int32)), (2, .inl (nI (wi q))), (1, .inl (nI (wa q))), (0, .inr (.inr (some 129)))], [.inr (.inr (mu_r Q37 129 1)), .inr (.inr (some 167))], Q37)) (C := [mu_is Q37 (some 129) 9]) rfl (show mu_is Q37 (some 129) 9 from (u37.1.1.is rfl)) ?_
      rw [(u37.1.1.r (p := 129) (j := 1) (q := 130) rfl)]
      refine mw_go mu_g394 (k := 1) (f1 := (250, [(7, .inl (nI (wa q + wn q))), (6, .inl (nI (wa q))), (5, .inl (0 : Int32)), (4, .inl (nI (wa q + wn q))), (3, .inl (0 : Int32)), (2, .inl (nI (wi q))), (1, .inl (nI (wa q))), (0, .inr (.inr (some 129)))], [.inl (mu_i Q37 130 2), .inr (.inr (some 167))], Q37)) (C := [mu_is Q37 (some 130) 10]) rfl (show mu_is Q37 (some 130) 10 from (u37.1.1.is rfl)) ?_
      rw [(show mu_i Q37 130 2 = (nI nf) from (u37.size d37 (j := 24) (by decide) rfl).trans (congrArg nI ((congrArg Prod.fst (show X4.1 24 = (U.1 24) from ((zX4.t 24 rfl).trans ((zX3.t 24 rfl).trans ((zX2.t 24 rfl).trans (zX1.t 24 rfl)))))).trans hnf)))]
      refine mw_go mu_g394 (k := 2) (f1 := (254, [(7, .inl (nI (wa q + wn q))), (6, .inl (nI (wa q))), (5, .inl (0 : Int32)), (4, .inl (nI (wa q + wn q))), (3, .inl (0 : Int32)), (2, .inl (nI (wi q))), (1, .inl (nI (wa q))), (0, .inr (.inr (some 129)))], [.inr (.inr (mu_r Q37 129 3)), .inl (nI nf), .inr (.inr (some 167))], Q37)) (C := [mu_is Q37 (some 129) 9]) rfl (show mu_is Q37 (some 129) 9 from (u37.1.1.is rfl)) ?_
      rw [(u37.1.1.r (p := 129) (j := 3) (q := 132) rfl)]
      refine mw_go mu_g394 (k := 1) (f1 := (257, [(7, .inl (nI (wa q + wn q))), (6, .inl (nI (wa q))), (5, .inl (0 : Int32)), (4, .inl (nI (wa q + wn q))), (3, .inl (0 : Int32)), (2, .inl (nI (wi q))), (1, .inl (nI (wa q))), (0, .inr (.inr (some 129)))], [.inl (mu_i Q37 132 2), .inl (nI nf), .inr (.inr (some 167))], Q37)) (C := [mu_is Q37 (some 132) 10]) rfl (show mu_is Q37 (some 132) 10 from (u37.1.1.is rfl)) ?_
      rw [(show mu_i Q37 132 2 = (nI nw) from (u37.size d37 (j := 25) (by decide) rfl).trans (congrArg nI ((congrArg Prod.fst (show X4.1 25 = (X4.1 25) from rfl)).trans hn25)))]
      refine mw_go mu_g394 (k := 2) (f1 := (261, [(7, .inl (nI (wa q + wn q))), (6, .inl (nI (wa q))), (5, .inl (0 : Int32)), (4, .inl (nI (wa q + wn q))), (3, .inl (0 : Int32)), (2, .inl (nI (wi q))), (1, .inl (nI (wa q))), (0, .inr (.inr (some 129)))], [.inl (nI (wa q + wn q)), .inl (nI (wa q)), .inl (nI nw), .inl (nI nf), .inr (.inr (some 167))], Q37)) (C := []) rfl trivial ?_
      refine mw_cI (fun _ => rfl) (show mu_is Q37 (some 167) 10 from (u37.1.1.is rfl)) (u37.putr (C := C) (d := (d + 2)) d37 (j := 27) (Or.inr ⟨by decide, by decide⟩) rfl (nI nf) (nI nw) (nI (wa q)) (nI (wa q + wn q)) (by show 2 * (((X4.1 27).1 + 1) * 5) + 5 ≤ C 27; rw [hn27]; omega) (by omega)) (fun x40 Q40 q40 => ?_)
      obtain ⟨rfl, u40, r40, d40⟩ := q40
      have ht40 : ur m C H Q40 := ht37.trans r40
      have qf40 : uq F394 U (upT X4 (ap 27 X4.1 (nI nf) (nI nw) (nI (wa q)) (nI (wa q + wn q)))) := qf37.ap rfl
      refine mw_go mu_g394 (k := 1) (f1 := (265, [(7, .inl (nI (wa q + wn q))), (6, .inl (nI (wa q))), (5, .inl (0 : Int32)), (4, .inl (nI (wa q + wn q))), (3, .inl (0 : Int32)), (2, .inl (nI (wi q))), (1, .inl (nI (wa q))), (0, .inr (.inr (some 129)))], [], Q40)) (C := []) rfl trivial ?_
      obtain ⟨X5, hX5⟩ : ∃ X, X = (upT X4 (ap 27 X4.1 (nI nf) (nI nw) (nI (wa q)) (nI (wa q + wn q)))) := ⟨_, rfl⟩
      rw [← hX5] at d40 qf40
      have zX5 : uq F394b X4 X5 := by rw [hX5]; exact ((uq.refl F394b X4).T (fun q hq => by first | exact ax_ne (in1_ne rfl hq) | exact ap_ne (in1_ne rfl hq) | exact fu_ne _ _ (in1_ne rfl hq)))
      refine mw_go mu_g394 (k := 2) (f1 := (269, [(7, .inl (nI (wa q + wn q))), (6, .inl (nI (wa q))), (5, .inl (0 : Int32)), (4, .inl (nI (wa q + wn q))), (3, .inl (0 : Int32)), (2, .inl (nI (wi q))), (1, .inl (nI (wa q))), (0, .inr (.inr (some 129)))], [.inr (.inr (mu_r Q40 129 14))], Q40)) (C := [mu_is Q40 (some 129) 9]) rfl (show mu_is Q40 (some 129) 9 from (u40.1.1.is rfl)) ?_
      rw [(u40.1.1.r (p := 129) (j := 14) (q := 142) rfl)]
      refine mw_go mu_g394 (k := 3) (f1 := (275, [(7, .inl (nI (wa q + wn q))), (6, .inl (nI (wa q))), (5, .inl (0 : Int32)), (4, .inl (nI (wa q + wn q))), (3, .inl (0 : Int32)), (2, .inl (nI (wi q))), (1, .inl (nI (wa q))), (0, .inr (.inr (some 129)))], [.inr (.inr (mu_r Q40 129 14)), .inl (14 : Int32), .inr (.inr (some 142))], Q40)) (C := [mu_is Q40 (some 129) 9]) rfl (show mu_is Q40 (some 129) 9 from (u40.1.1.is rfl)) ?_
      rw [(u40.1.1.r (p := 129) (j := 14) (q := 142) rfl)]
      refine mw_go mu_g394 (k := 2) (f1 := (278, [(7, .inl (nI (wa q + wn q))), (6, .inl (nI (wa q))), (5, .inl (0 : Int32)), (4, .inl (nI (wa q + wn q))), (3, .inl (0 : Int32)), (2, .inl (nI (wi q))), (1, .inl (nI (wa q))), (0, .inr (.inr (some 129)))], [.inl (14 : Int32), .inl (0 : Int32), .inr (.inr (some 142)), .inl (14 : Int32), .inr (.inr (some 142))], Q40)) (C := []) rfl trivial ?_
      refine mw_copyI (t := 0) rfl (show mu_is Q40 (some 142) 100 from (u40.iA d40 rfl rfl ((ud_q (m := m) (P := 129) (j := 14) d40 rfl).symm.trans (u40.1.1.r (p := 129) (j := 14) (q := 142) rfl)))) (show mu_is Q40 (some 142) 100 from (u40.iA d40 rfl rfl ((ud_q (m := m) (P := 129) (j := 14) d40 rfl).symm.trans (u40.1.1.r (p := 129) (j := 14) (q := 142) rfl)))) (by decide) (by decide) (by decide) (by decide) (by rw [show mu_n Q40 (mu_p (some 142)) = 28 from (u40.1.1.a (p := 142) (x := (100, 28)) rfl).2, (show (14 : Int32).toNatClampNeg = 14 from by decide)]; omega) (by rw [show mu_n Q40 (mu_p (some 142)) = 28 from (u40.1.1.a (p := 142) (x := (100, 28)) rfl).2, (show (0 : Int32).toNatClampNeg = 0 from by decide), (show (14 : Int32).toNatClampNeg = 14 from by decide)]; omega) (fun z => by cases z) (by decide) ?_
      rw [(show (14 : Int32).toNatClampNeg = 14 from by decide), (show (0 : Int32).toNatClampNeg = 0 from by decide)]
      show mu_W _ _ (281, [(7, .inl (nI (wa q + wn q))), (6, .inl (nI (wa q))), (5, .inl (0 : Int32)), (4, .inl (nI (wa q + wn q))), (3, .inl (0 : Int32)), (2, .inl (nI (wi q))), (1, .inl (nI (wa q))), (0, .inr (.inr (some 129)))], [], (mu_cpi Q40 142 14 142 0 14)) _
      obtain ⟨u41, r41, d41⟩ : um m (mu_cpi Q40 142 14 142 0 14) ∧ ur m C Q40 (mu_cpi Q40 142 14 142 0 14) ∧ ud m (mu_cpi Q40 142 14 142 0 14) = (upF X5 129 14 0 (fun i => (X5.2.2.1 129 14).2 (14 + i)) 14) := u40.cA (C := C) d40 rfl rfl ((ud_q (m := m) (P := 129) (j := 14) d40 rfl).symm.trans (u40.1.1.r (p := 129) (j := 14) (q := 142) rfl)) rfl rfl ((ud_q (m := m) (P := 129) (j := 14) d40 rfl).symm.trans (u40.1.1.r (p := 129) (j := 14) (q := 142) rfl))
      generalize (mu_cpi Q40 142 14 142 0 14) = Q41 at u41 r41 d41 ⊢
      have qf41 : uq F394 U (upF X5 129 14 0 (fun i => (X5.2.2.1 129 14).2 (14 + i)) 14) := qf40.F rfl
      have ht41 : ur m C H Q41 := ht40.trans r41
      obtain ⟨X6, hX6⟩ : ∃ X, X = (upF X5 129 14 0 (fun i => (X5.2.2.1 129 14).2 (14 + i)) 14) := ⟨_, rfl⟩
      rw [← hX6] at d41 qf41
      have zX6 : uq F394c X5 X6 := by rw [hX6]; exact ((uq.refl F394c X5).F rfl)
      refine mw_go mu_g394 (k := 2) (f1 := (285, [(7, .inl (nI (wa q + wn q))), (6, .inl (nI (wa q))), (5, .inl (0 : Int32)), (4, .inl (nI (wa q + wn q))), (3, .inl (0 : Int32)), (2, .inl (nI (wi q))), (1, .inl (nI (wa q))), (0, .inr (.inr (some 129)))], [.inr (.inr (mu_r Q41 129 2))], Q41)) (C := [mu_is Q41 (some 129) 9]) rfl (show mu_is Q41 (some 129) 9 from (u41.1.1.is rfl)) ?_
      rw [(u41.1.1.r (p := 129) (j := 2) (q := 118) rfl)]
      refine mw_cV (fun _ => rfl) (show mu_is Q41 (some 118) 10 from (u41.1.1.is rfl)) (u41.clearr (C := C) (d := (d + 4)) d41 (j := 23) (Or.inr ⟨by decide, by decide⟩) rfl) (fun Q42 q42 => ?_)
      obtain ⟨u42, r42, d42⟩ := q42
      have ht42 : ur m C H Q42 := ht41.trans r42
      have qf42 : uq F394 U (upT X6 (ac 23 X6.1 0)) := qf41.ac rfl
      obtain ⟨X7, hX7⟩ : ∃ X, X = (upT X6 (ac 23 X6.1 0)) := ⟨_, rfl⟩
      rw [← hX7] at d42 qf42
      have zX7 : uq F394p X6 X7 := by rw [hX7]; exact ((uq.refl F394p X6).T (fun q hq => by first | exact ax_ne (in1_ne rfl hq) | exact ap_ne (in1_ne rfl hq) | exact fu_ne _ _ (in1_ne rfl hq)))
      refine mw_go mu_g394 (k := 2) (f1 := (292, [(7, .inl (nI (wa q + wn q))), (6, .inl (nI (wa q))), (5, .inl (0 : Int32)), (4, .inl (nI (wa q + wn q))), (3, .inl (0 : Int32)), (2, .inl (nI (wi q))), (1, .inl (nI (wa q))), (0, .inr (.inr (some 129)))], [.inr (.inr (mu_r Q42 129 2))], Q42)) (C := [mu_is Q42 (some 129) 9]) rfl (show mu_is Q42 (some 129) 9 from (u42.1.1.is rfl)) ?_
      rw [(u42.1.1.r (p := 129) (j := 2) (q := 118) rfl)]
      refine mw_go mu_g394 (k := 4) (f1 := (298, [(7, .inl (nI (wa q + wn q))), (6, .inl (nI (wa q))), (5, .inl (0 : Int32)), (4, .inl (nI (wa q + wn q))), (3, .inl (0 : Int32)), (2, .inl (nI (wi q))), (1, .inl (nI (wa q))), (0, .inr (.inr (some 129)))], [.inl (-1 : Int32), .inl (nI (wi q)), .inl (nI (wa q + wn q)), .inl (nI (wa q)), .inr (.inr (some 118))], Q42)) (C := []) rfl trivial ?_
      refine mw_cI (fun _ => rfl) (show mu_is Q42 (some 118) 10 from (u42.1.1.is rfl)) (u42.putr (C := C) (d := (d + 2)) d42 (j := 23) (Or.inr ⟨by decide, by decide⟩) rfl (nI (wa q)) (nI (wa q + wn q)) (nI (wi q)) (-1 : Int32) (by show 2 * (((X7.1 23).1 + 1) * 5) + 5 ≤ C 23; rw [show (X7.1 23).1 = 0 from by rw [hX7]; rfl]; omega) (by omega)) (fun x43 Q43 q43 => ?_)
      obtain ⟨rfl, u43, r43, d43⟩ := q43
      have ht43 : ur m C H Q43 := ht42.trans r43
      have qf43 : uq F394 U (upT X7 (ap 23 X7.1 (nI (wa q)) (nI (wa q + wn q)) (nI (wi q)) (-1 : Int32))) := qf42.ap rfl
      refine mw_go mu_g394 (k := 1) (f1 := (302, [(7, .inl (nI (wa q + wn q))), (6, .inl (nI (wa q))), (5, .inl (0 : Int32)), (4, .inl (nI (wa q + wn q))), (3, .inl (0 : Int32)), (2, .inl (nI (wi q))), (1, .inl (nI (wa q))), (0, .inr (.inr (some 129)))], [], Q43)) (C := []) rfl trivial ?_
      obtain ⟨X8, hX8⟩ : ∃ X, X = (upT X7 (ap 23 X7.1 (nI (wa q)) (nI (wa q + wn q)) (nI (wi q)) (-1 : Int32))) := ⟨_, rfl⟩
      rw [← hX8] at d43 qf43
      have zX8 : uq F394p X7 X8 := by rw [hX8]; exact ((uq.refl F394p X7).T (fun q hq => by first | exact ax_ne (in1_ne rfl hq) | exact ap_ne (in1_ne rfl hq) | exact fu_ne _ _ (in1_ne rfl hq)))
      refine mw_go mu_g394 (k := 1) (f1 := (303, [(7, .inl (nI (wa q + wn q))), (6, .inl (nI (wa q))), (5, .inl (0 : Int32)), (4, .inl (nI (wa q + wn q))), (3, .inl (0 : Int32)), (2, .inl (nI (wi q))), (1, .inl (nI (wa q))), (0, .inr (.inr (some 129)))], [.inl (1 : Int32)], Q43)) (C := []) rfl trivial ?_
      have h25w : X4.1 25 = tset 5 (X3.1 25) (nI q) 1 (nI (wa q + 0)) := by rw [hX4]; rfl
      have h27w : X5.1 27 = tput 5 (X4.1 27) (nI (X3.1 24).1) (nI (X3.1 25).1) (nI (wa q)) (nI ((wa q) + (wn q))) := by
        rw [hX5, show (X3.1 24).1 = nf by rw [show X3.1 24 = U.1 24 from (zX3.t 24 rfl).trans ((zX2.t 24 rfl).trans (zX1.t 24 rfl))]; exact hnf, show (X3.1 25).1 = nw by rw [show X3.1 25 = U.1 25 from (zX3.t 25 rfl).trans ((zX2.t 25 rfl).trans (zX1.t 25 rfl))]; exact hnw, show (wa q) + (wn q) = wa q + wn q by omega]
        rfl
      obtain ⟨-, bo', G', hRn, hG1, hGF⟩ := RLO.first (V := X5) (V1 := X4) (q := q) (j := 0) hRc hK.1.P14 hq hwo3X hwo1 (by omega) (Or.inl rfl) h25w (zX4.t 15 rfl) (zX4.t 24 rfl) (zX4.t 27 rfl) (by rw [hX4]; rfl) h27w (zX5.t 15 rfl) (zX5.t 24 rfl) (zX5.t 25 rfl) (by rw [hX5]; rfl)
      have hRn2 := ((hRn.q zX6 rfl rfl).q zX7 rfl rfl).q zX8 rfl rfl
      have e23 : X8.1 23 = tput 5 (X7.1 23) (nI (wa q)) (nI ((wa q) + (wn q))) (nI (wi q)) (-1) := by rw [hX8, show (wa q) + (wn q) = wa q + wn q by omega]; rfl
      have e23s : (X7.1 23).1 = 0 := by rw [hX7]; rfl
      obtain ⟨hPC1, hPN1⟩ := one_piece (U := U) (f := f) (P := P) (od := od) (T := X8.1 23) (a := (wa q)) (n := (wn q)) (i := wi q) hwq w3 (by omega) hY11 (by rw [e23]; exact congrArg (fun y => y + 1) e23s) (by rw [e23]; exact tpo_new e23s.symm (by decide)) (by rw [e23]; exact tpo_new e23s.symm (by decide)) (by rw [e23]; exact tpo_new e23s.symm (by decide))
      have e27 : X8.1 27 = X5.1 27 := (zX8.t 27 rfl).trans ((zX7.t 27 rfl).trans (zX6.t 27 rfl))
      have e03 : (X4.1 27).2 0 3 = nI (wa q + wn q) := by rw [zX4.t 27 rfl, zX3.t 27 rfl, hX2]; exact ts0_at (by rw [zX1.t 27 rfl]; omega)
      have hBX := brx_first (U := U) (f := f) (P := P) (od := od) (V := X8) (es := es) (q := q) (ba := wa q) (bi := wi q) (j := 0) (n0 := wn q) (pa1 := (wa q)) (pn1 := (wn q)) (G' := G') (GF := G 0) (PN := PND Y U f P od (X8.1 23)) ((zX8.i 129 22 rfl).trans ((zX7.i 129 22 rfl).trans ((zX6.i 129 22 rfl).trans ((zX5.i 129 22 rfl).trans ((zX4.i 129 22 rfl).trans ((zX3.i 129 22 rfl).trans ((zX2.i 129 22 rfl).trans (by rw [hX1]; rfl)))))))) (by rw [e27, h27w, tpo_old (by omega)]; exact e03) (by rw [e27, h27w]; exact congrArg (fun y => y + 1) hn27) (by rw [e27, h27w]; exact tpo_new hn27.symm (by decide)) (by rw [e27, h27w]; exact tpo_new hn27.symm (by decide)) hwq hwq w3 (by omega) (by omega) (fun s u => ⟨Or.inl, fun y => y.elim id (fun y => absurd rfl y.1)⟩) hG1 (fun s u hs hu => by rw [hGF s u hs hu, trs_same (U := U) ((zX3.t 15 rfl).trans ((zX2.t 15 rfl).trans (zX1.t 15 rfl))) ((zX3.a 99 8 rfl).trans ((zX2.a 99 8 rfl).trans (zX1.a 99 8 rfl)))]) hPN1
      refine mw_of (fun _ => mu_ret rfl (Or.inr rfl) ⟨(1 : Int32), Q43, rfl, u43, ht43, (by rw [d43]; exact qf43), ?_⟩)
      rw [d43]
      exact ⟨hK.q (F := F394) (show uq F394 U X8 from (((((((((uq.refl F394 U).tr zX1 rfl).tr zX2 rfl).tr zX3 rfl).tr zX4 rfl).tr zX5 rfl).tr zX6 rfl).tr zX7 rfl).tr zX8 rfl)) rfl rfl, Or.inr ⟨rfl, bo', q, wa q, 0, wi q, wn q, _, _, G', cnt, Or.inr ⟨rfl, rfl⟩, hRn2, (by rw [e23]; exact congrArg (fun y => y + 1) e23s), hPC1, hBX⟩⟩
end OpenFirst
