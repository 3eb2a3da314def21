/-! RELATION: takeLines -/
section TakeLines
variable {O0 : Nat → (Nat → Bool) × Bool} {H : mu_H} {U V : Ud} {m d P N0 sf nb ba bn bi N us nf nw ou a n i k r s u v0 pl mo : Nat} {C : Nat → Nat} {Y : Ts} {f od bs lv wa wn wi z : Nat → Nat} {wk : Nat → Bool} {es : Nat → Int32} {nm tm : Nat → Int32} {mk : Int32} {bo oid : Nat → Nat → Nat} {S : Nat → Nat → Bool} {p : Nat → Bool} {br : Option Nat} {G0 : Nat → Nat → Nat → Prop} {t : Tb} {x : Prop}
theorem lnx_succ {g g0 X : Prop} {R c : Nat → Prop} (h : g ↔ g0 ∧ ∀ r, r < k → c r → R r) (hx : X ↔ R k) (hc : c k) : (g ∧ X) ↔ g0 ∧ ∀ r, r < k + 1 → c r → R r := by
  rw [h, hx]
  constructor
  · rintro ⟨⟨h1, h2⟩, h3⟩
    refine ⟨h1, fun r hr hcr => ?_⟩
    by_cases e : r = k
    · rw [e]
      exact h3
    · exact h2 r (by omega) hcr
  · rintro ⟨h1, h2⟩
    exact ⟨⟨h1, fun r hr hcr => h2 r (by omega) hcr⟩, h2 k (by omega) hc⟩
theorem lnx_skip {g g0 : Prop} {R c : Nat → Prop} (h : g ↔ g0 ∧ ∀ r, r < k → c r → R r) (hc : ¬ c k) : g ↔ g0 ∧ ∀ r, r < k + 1 → c r → R r := by
  rw [h]
  refine and_congr Iff.rfl ⟨fun y r hr hcr => ?_, fun y r hr hcr => y r (by omega) hcr⟩
  by_cases e : r = k
  · rw [e] at hcr
    exact absurd hcr hc
  · exact y r (by omega) hcr
theorem lnx_pl (h15 : V.1 15 = U.1 15) (h98 : V.2.2.1 99 8 = U.2.2.1 99 8) (h3 : t.2 r 3 = nI v0) (hv : v0 < 2147483648) (hpc : (U.1 15).2 v0 2 = nI pl) (hp : pl < 14) : CHSw Y V f P od true (rwa t r) (rwn t r) (rwi t r) s ((V.2.2.1 99 8).2 (sm f 0 pl + dgzU f P u pl)) ↔ LNX Y U f P od t r s u := by
  unfold LNX
  rw [h3, nI_clamp hv, vst_pl hpc hp, h98]
  exact CHSw_same h15 h98
theorem lnx_no (h15 : V.1 15 = U.1 15) (h98 : V.2.2.1 99 8 = U.2.2.1 99 8) (h3 : t.2 r 3 = nI v0) (hv : v0 < 2147483648) (hpc : (U.1 15).2 v0 2 = -1) : cho Y V f P od (rwi t r) (rwa t r) (rwn t r) v0 s ↔ LNX Y U f P od t r s u := by
  rw [cho_eq h15 h98]
  unfold LNX CHSw CHW cho
  rw [h3, nI_clamp hv, vst_m1 hpc, vst_m1 hpc]
  exact ⟨fun y => Or.inl ⟨rfl, y⟩, fun y => y.elim (fun y => y.2) (fun y => absurd y.1 (by decide))⟩
theorem one_imp {X : Prop} : (0 + 1 = 1 → X) ↔ X := ⟨fun y => y rfl, fun y _ => y⟩
theorem rl_roomP (h : um m H) (e : ud m H = U) (hS : spx m U P f) (hf1 : ∀ k, 1 ≤ f k) (hk : k < P) (hR : RST U Y es P f N0 O0 sf nb bo br ba bn bi N us S z p nf nm tm bs lv oid nw wa wn wi wk ou) (hmk : U.2.1 100 4 = mk) (hmo : mo ≤ 16777216) : mu_TI (mu_D (d + 4)) 306 [.inr (.inr (some 129)), .inl (nI k), .inl (nI mo)] H (fun x H1 => (x = 0 ∧ um m H1 ∧ ur m C H H1 ∧ uq F306 U (ud m H1)) ∨ (x = 1 ∧ um m H1 ∧ ur m C H H1 ∧ uq F306 U (ud m H1) ∧ (((∀ q, ¬ KNF nf nm tm (bo (nb - 1) 0) mk ((1 : Int32) <<< (nI k &&& 31)) q) ∧ ou + pm mk f P ≤ 32768) ∨ ∃ q, KNF nf nm tm (bo (nb - 1) 0) mk ((1 : Int32) <<< (nI k &&& 31)) q) ∧ us - sf + pm mk f P * (min ((mo + 3) / 4) ((f k + 63) / 64) + 1) ≤ 65536)) := by
  have hfms := hR.fms
  obtain ⟨⟨hF, hSO, hW⟩, ⟨hB, hB0, hB1, h00⟩, ⟨hb1, hb2⟩, hun, ⟨o1, o2, o3, o4⟩, ⟨n1, n2, n3, n4⟩, hbr⟩ := hR
  refine (rl_room (C := C) (d := d) h e hS hf1 hk hfms hmk o1 (by omega) n1 hSO.1.1 n2 hSO.1.2.1 hmo).imp (fun x H1 q => ?_)
  obtain ⟨q1, q2, q3, q4 | ⟨q4, q5, q6⟩⟩ := q
  · exact Or.inl ⟨q4, q1, q2, q3⟩
  · exact Or.inr ⟨q4, q1, q2, q3, q5, q6⟩
theorem RSK.jv (h : RSK m U Y P f od es) : jv Y U.1 := h.1.2.2.1
def F289 : Uf := ⟨[21, 22, 24, 25, 23], [(100, 4), (100, 5), (100, 6), (100, 7), (100, 17), (100, 14), (100, 16), (100, 21), (100, 18), (100, 19), (100, 20), (113, 1), (113, 2), (129, 11), (129, 19), (129, 20), (129, 5)], [(100, 3), (100, 8), (100, 12), (100, 13), (100, 15), (100, 9), (100, 10), (100, 11), (99, 18), (129, 14), (113, 3), (113, 4), (129, 10), (129, 4)], [(100, 3), (100, 8), (100, 12), (100, 13), (100, 15), (113, 3), (129, 4)], [127, 126, 145, 117, 146], true⟩
def F289x : Uf := ⟨[21, 22], [(100, 4), (100, 5), (100, 6), (100, 7), (100, 17), (100, 14), (100, 16), (100, 21), (100, 18), (100, 19), (100, 20)], [(100, 3), (100, 8), (100, 12), (100, 13), (100, 15), (100, 9), (100, 10), (100, 11), (99, 18)], [(100, 3), (100, 8), (100, 12), (100, 13), (100, 15)], [127, 126], false⟩
def F289y : Uf := ⟨[23], [], [], [], [145], false⟩
def F289a : Uf := ⟨[21, 22, 24, 25, 23], [(100, 4), (100, 5), (100, 6), (100, 7), (100, 17), (100, 14), (100, 16), (100, 21), (100, 18), (100, 19), (100, 20), (113, 1), (113, 2), (129, 11), (129, 19), (129, 20), (129, 5)], [(100, 3), (100, 8), (100, 12), (100, 13), (100, 15), (100, 9), (100, 10), (100, 11), (99, 18), (129, 14), (113, 3), (113, 4), (129, 10), (129, 4)], [(100, 3), (100, 8), (100, 12), (100, 13), (100, 15), (113, 3), (129, 4)], [127, 126, 145, 117, 146], true⟩
/-- PathProver$Relation.takeLines()V -/
abbrev mu_m289 : ev_M := (6, none, [], ev_b289)
theorem mu_g289 : mu_good mu_m289 := mu_goodk ev_k289
theorem rl_takeLines (h : um m H) (e : ud m H = U) (hK : RSK m U Y P f od es) (hR : RLG U Y es P f od N0 O0 sf 1 bo none 0 0 0 0 G0) (hN00 : N0 ≤ 100000) (hsf : sf ≤ 1300000) (hC21 : 2 * (((Y 13).1 + 2) * 4) + 4 ≤ C 21) (hC21b : C 21 ≤ 8388608) (hC23 : 50000 ≤ C 23) (hC23b : C 23 ≤ 8388608) (hC24 : 80000 ≤ C 24) (hC24b : C 24 ≤ 8388608) (hC25 : 70000 ≤ C 25) (hC25b : C 25 ≤ 8388608) : mu_TV (mu_D (d + 9)) 289 [.inr (.inr (some 129))] H (fun H1 => um m H1 ∧ ur m C H H1 ∧ uq F289 U (ud m H1) ∧ RSK m (ud m H1) Y P f od es ∧ ∃ G, RLG (ud m H1) Y es P f od N0 O0 sf 1 bo none 0 0 0 4001 G ∧ ((ud m H1).1 23).1 ≤ 4001 ∧ (∀ r, r < ((ud m H1).1 23).1 → PCT Y es ((ud m H1).1 23) r) ∧ ∀ s u, s < pd f 0 P → u < pd f 0 P → ((G 0 s u ∧ PND Y U f P od ((ud m H1).1 23) s u) ↔ (G0 0 s u ∧ GOR Y U f P od s u))) := by
  have hD : MDL Y es := hK.1.2.2.2.1
  have hCc : Cc Y := hD.1.2.2.2.2.2.1.2
  obtain ⟨hb13, hb0', hb15', hb16, hb17⟩ := hD.2.2.2.1
  have hb0 : (Y 0).1 ≤ 67108864 := by omega
  have hb15 : (Y 15).1 ≤ 67108864 := by omega
  have hsm : sm (ncl Y) 0 (Y 11).1 ≤ 4001 := hD.2.2.2.2.2.2
  have hmo : U.2.2.2.1 99 0 = some m := hK.1.1.2.2.2.2.2
  have hsp : U.2.2.2.1 100 0 = some 99 := hK.1.1.2.2.2.2.1
  refine mu_meth (M := mu_m289) rfl rfl ?_
  refine mw_ht (mu_fn_of (show [0].Nodup by decide)) ?_
  refine mw_go mu_g289 (k := 2) (f1 := (4, [(0, .inr (.inr (some 129)))], [.inr (.inr (mu_r H 129 0))], H)) (C := [mu_is H (some 129) 9]) rfl (show mu_is H (some 129) 9 from (h.1.1.is rfl)) ?_
  rw [(h.1.1.r (p := 129) (j := 0) (q := 99) rfl)]
  refine mw_go mu_g289 (k := 1) (f1 := (7, [(0, .inr (.inr (some 129)))], [.inr (.inr (mu_r H 99 0))], H)) (C := [mu_is H (some 99) 13]) rfl (show mu_is H (some 99) 13 from (h.1.1.is rfl)) ?_
  rw [(show mu_r H 99 0 = (some m) from (ud_q (U := U) (m := m) (P := 99) (j := 0) e rfl).trans hmo)]
  refine mw_go mu_g289 (k := 3) (f1 := (12, [(1, .inr (.inr (some m))), (0, .inr (.inr (some 129)))], [.inr (.inr (mu_r H 129 2))], H)) (C := [mu_is H (some 129) 9]) rfl (show mu_is H (some 129) 9 from (h.1.1.is rfl)) ?_
  rw [(h.1.1.r (p := 129) (j := 2) (q := 118) rfl)]
  refine mw_cV (fun _ => rfl) (show mu_is H (some 118) 10 from (h.1.1.is rfl)) (h.clearr (C := C) (d := (d + 7)) e (j := 23) (Or.inr ⟨by decide, by decide⟩) rfl) (fun Q1 q1 => ?_)
  obtain ⟨u1, r1, d1⟩ := q1
  have ht1 : ur m C H Q1 := (ur.refl m C H).trans r1
  have qf1 : uq F289 U (upT U (ac 23 U.1 0)) := (uq.refl F289 U).ac rfl
  refine mw_go mu_g289 (k := 6) (f1 := (24, [(1, .inr (.inr (some m))), (0, .inr (.inr (some 129)))], [.inr (.inr (mu_r Q1 129 2)), .inl (0 : Int32), .inl (4 : Int32), .inl (6 : Int32), .inr (.inr (some m))], Q1)) (C := [mu_is Q1 (some 129) 9]) rfl (show mu_is Q1 (some 129) 9 from (u1.1.1.is rfl)) ?_
  rw [(u1.1.1.r (p := 129) (j := 2) (q := 118) rfl)]
  refine mw_cV (fun _ => rfl) (show mu_is Q1 (some m) 6 from (show mu_is Q1 (some m) 6 from gi_im u1.1.1 u1.2)) (md_collect (d := (d + 4)) (C := C) (kd := 6) (fm := 4) (stg := 0) (n0 := 0) u1 d1 (hK.q (show uq F129 U (upT U (ac 23 U.1 0)) from ((uq.refl F129 U).T (fun q hq => by first | exact ax_ne (in1_ne rfl hq) | exact ap_ne (in1_ne rfl hq) | exact fu_ne _ _ (in1_ne rfl hq)))) rfl rfl).1.2.2.1 hD.1 hD.2.2.2.2.2.1 rfl (by omega) (by omega)) (fun Q2 q2 => ?_)
  obtain ⟨u2, r2, z2, hTK⟩ := q2
  have ht2 : ur m C H Q2 := ht1.trans r2
  obtain ⟨V2, d2⟩ : ∃ V, ud m Q2 = V := ⟨_, rfl⟩
  rw [d2] at z2 hTK
  have qf2 : uq F289 U V2 := qf1.tr z2 rfl
  obtain ⟨t0, hteq⟩ : ∃ t, V2.1 23 = t := ⟨_, rfl⟩
  rw [hteq] at hTK
  obtain ⟨hRT, hGO⟩ := GOR_of hD hK.1.2.2.2.2.1 hTK
  have htb : t0.1 ≤ 4001 := by have y := hTK.1.2; omega
  refine mw_go mu_g289 (k := 2) (f1 := (29, [(2, .inl (0 : Int32)), (1, .inr (.inr (some m))), (0, .inr (.inr (some 129)))], [], Q2)) (C := []) rfl trivial ?_
  show mu_W _ _ (29, [(2, .inl (nI 0)), (1, .inr (.inr (some m))), (0, .inr (.inr (some 129)))], [], Q2) _
  refine mw_sub (L' := [(2, .inl (nI 0)), (0, .inr (.inr (some 129))), (1, .inr (.inr (some m)))]) (by simp) ?_
  refine mw_down (α := Nat × mu_H) (fun zs => (29, [(2, .inl (nI zs.1)), (0, .inr (.inr (some 129))), (1, .inr (.inr (some m)))], [], zs.2)) (fun zs => t0.1 - zs.1) (fun zs => um m zs.2 ∧ ur m C H zs.2 ∧ (uq F289a V2 (ud m zs.2)) ∧ (zs.1 ≤ t0.1) ∧ (RSK m (ud m zs.2) Y P f od es) ∧ (TLN t0 ((ud m zs.2).1 23) zs.1) ∧ (∃ G, RLG (ud m zs.2) Y es P f od N0 O0 sf 1 bo none 0 0 0 zs.1 G ∧ ∀ s u, s < pd f 0 P → u < pd f 0 P → (G 0 s u ↔ G0 0 s u ∧ ∀ r, r < zs.1 → ¬ t0.2 r 3 = -1 → LNX Y U f P od t0 r s u))) (fun zs hza iha => ?_) (0, Q2) ⟨u2, ht2, (show uq F289a V2 (ud m Q2) from by rw [d2]; exact uq.refl _ _), (show 0 ≤ t0.1 from (by omega)), (show RSK m (ud m Q2) Y P f od es from by rw [d2]; exact (hK.q (show uq F129 U V2 from (((uq.refl F129 U).T (fun q hq => by first | exact ax_ne (in1_ne rfl hq) | exact ap_ne (in1_ne rfl hq) | exact fu_ne _ _ (in1_ne rfl hq))).tr z2 rfl)) rfl rfl)), (show TLN t0 ((ud m Q2).1 23) 0 from by rw [d2]; exact (by rw [hteq]; exact TLN.init)), (show ∃ G, RLG (ud m Q2) Y es P f od N0 O0 sf 1 bo none 0 0 0 0 G ∧ ∀ s u, s < pd f 0 P → u < pd f 0 P → (G 0 s u ↔ G0 0 s u ∧ ∀ r, r < 0 → ¬ t0.2 r 3 = -1 → LNX Y U f P od t0 r s u) from by rw [d2]; exact ⟨G0, hR.q (show uq F129 U V2 from (((uq.refl F129 U).T (fun q hq => by first | exact ax_ne (in1_ne rfl hq) | exact ap_ne (in1_ne rfl hq) | exact fu_ne _ _ (in1_ne rfl hq))).tr z2 rfl)) rfl rfl, fun s u _ _ => ⟨fun y => ⟨y, fun r hr => absurd hr (Nat.not_lt_zero r)⟩, fun y => y.1⟩⟩)⟩
  obtain ⟨k, Hsa⟩ := zs
  obtain ⟨ua, hta, da, hk, hKN, hTL, hRG⟩ := hza
  have ua : um m Hsa := ua
  have hta : ur m C H Hsa := hta
  have zza : uq F289a V2 (ud m Hsa) := da
  have hk : k ≤ t0.1 := hk
  have hKN : RSK m (ud m Hsa) Y P f od es := hKN
  have hTL : TLN t0 ((ud m Hsa).1 23) k := hTL
  have hRG : ∃ G, RLG (ud m Hsa) Y es P f od N0 O0 sf 1 bo none 0 0 0 k G ∧ ∀ s u, s < pd f 0 P → u < pd f 0 P → (G 0 s u ↔ G0 0 s u ∧ ∀ r, r < k → ¬ t0.2 r 3 = -1 → LNX Y U f P od t0 r s u) := hRG
  obtain ⟨Va, da⟩ : ∃ V, ud m Hsa = V := ⟨_, rfl⟩
  rw [da] at zza hKN hTL hRG
  have qfa : uq F289 U Va := qf2.tr zza rfl
  show mu_W _ _ (29, [(2, .inl (nI k)), (0, .inr (.inr (some 129))), (1, .inr (.inr (some m)))], [], Hsa) _
  have hsz0 : (Va.1 23).1 = t0.1 := hTL.1
  refine mw_go mu_g289 (k := 3) (f1 := (34, [(2, .inl (nI k)), (0, .inr (.inr (some 129))), (1, .inr (.inr (some m)))], [.inr (.inr (mu_r Hsa 129 2)), .inl (nI k)], Hsa)) (C := [mu_is Hsa (some 129) 9]) rfl (show mu_is Hsa (some 129) 9 from (ua.1.1.is rfl)) ?_
  rw [(ua.1.1.r (p := 129) (j := 2) (q := 118) rfl)]
  refine mw_go mu_g289 (k := 1) (f1 := (37, [(2, .inl (nI k)), (0, .inr (.inr (some 129))), (1, .inr (.inr (some m)))], [.inl (mu_i Hsa 118 2), .inl (nI k)], Hsa)) (C := [mu_is Hsa (some 118) 10]) rfl (show mu_is Hsa (some 118) 10 from (ua.1.1.is rfl)) ?_
  rw [(show mu_i Hsa 118 2 = (nI (Va.1 23).1) from (ua.size da (j := 23) (by decide) rfl).trans (congrArg (fun z => nI z.1) (show Va.1 23 = (Va.1 23) from rfl)))]
  refine mw_if (P := (nI k) < (nI (Va.1 23).1)) (a := 40) (b := 202) (fun _ => rfl) trivial (fun h3 => ?_) (fun h3 => ?_)
  · -- 40: (nI k) < (nI (Va.1 23).1)
    have nh3 : k < ((Va.1 23).1) := (nI_ltI (by omega) (by omega)).mp (show nI k < nI ((Va.1 23).1) from h3)
    have hkn : k < t0.1 := by have y := hTL.1; omega
    obtain ⟨G, hRGa, hGm⟩ := hRG
    have hv0 : (Va.1 23).2 k 0 = t0.2 k 0 := hTL.2.1 k 0 (by omega)
    have hv1 : (Va.1 23).2 k 1 = t0.2 k 1 := hTL.2.1 k 1 (by omega)
    have hv2 : (Va.1 23).2 k 2 = t0.2 k 2 := hTL.2.1 k 2 (by omega)
    have hv3 : (Va.1 23).2 k 3 = t0.2 k 3 := hTL.2.1 k 3 (by omega)
    obtain ⟨⟨yy0, yy1, yy2⟩, yi, hcs⟩ := hRT k hkn
    have yi11 : (Y 11).1 ≤ 67108864 := hD.1.2.2.2.2.2.2 11 (by decide)
    rcases hcs with ⟨yy3, yw⟩ | ⟨v0, v1, v2, hrg, rs, hsr⟩
    · -- a TRANS
      refine mw_go mu_g289 (k := 2) (f1 := (44, [(2, .inl (nI k)), (0, .inr (.inr (some 129))), (1, .inr (.inr (some m)))], [.inr (.inr (mu_r Hsa 129 2))], Hsa)) (C := [mu_is Hsa (some 129) 9]) rfl (show mu_is Hsa (some 129) 9 from (ua.1.1.is rfl)) ?_
      rw [(ua.1.1.r (p := 129) (j := 2) (q := 118) rfl)]
      refine mw_go mu_g289 (k := 2) (f1 := (46, [(2, .inl (nI k)), (0, .inr (.inr (some 129))), (1, .inr (.inr (some m)))], [.inl (3 : Int32), .inl (nI k), .inr (.inr (some 118))], Hsa)) (C := []) rfl trivial ?_
      refine mw_cIe (fun _ => rfl) (show mu_is Hsa (some 118) 10 from (ua.1.1.is rfl)) (ua.getr (d := (d + 7)) da (j := 23) (by decide) rfl (nI k) (c := 3) (by decide)) ?_
      rw [show (tget (Va.1 23) (nI k) 3) = (-1 : Int32) from ((congrArg (fun z => tget z (nI k) 3) (show Va.1 23 = (Va.1 23) from rfl)).trans (tget_nI (by first | omega | decide))).trans (hv3.trans yy3)]
      refine mw_go mu_g289 (k := 2) (f1 := (51, [(3, .inl (-1 : Int32)), (2, .inl (nI k)), (0, .inr (.inr (some 129))), (1, .inr (.inr (some m)))], [.inl (-1 : Int32)], Hsa)) (C := []) rfl trivial ?_
      refine mw_if (P := (-1 : Int32) < 0) (a := 54) (b := 57) (fun _ => rfl) trivial (fun h5 => ?_) (fun h5 => absurd (by decide) h5)
      refine mw_go mu_g289 (k := 2) (f1 := (199, [(2, .inl ((nI k) + 1)), (3, .inl (-1 : Int32)), (0, .inr (.inr (some 129))), (1, .inr (.inr (some m)))], [], Hsa)) (C := []) rfl trivial ?_
      rw [(show ((nI k) + 1) = (nI (k + 1)) from (nI_add k 1))]
      refine mw_go mu_g289 (k := 1) (f1 := (29, [(2, .inl (nI (k + 1))), (3, .inl (-1 : Int32)), (0, .inr (.inr (some 129))), (1, .inr (.inr (some m)))], [], Hsa)) (C := []) rfl trivial ?_
      exact mw_sub (by simp) (iha (k + 1, Hsa) ⟨ua, hta, (show uq F289a V2 (ud m Hsa) from by rw [da]; exact zza), (show (k + 1) ≤ t0.1 from (by omega)), (show RSK m (ud m Hsa) Y P f od es from by rw [da]; exact hKN), (show TLN t0 ((ud m Hsa).1 23) (k + 1) from by rw [da]; exact (hTL.skip yy3)), (show ∃ G, RLG (ud m Hsa) Y es P f od N0 O0 sf 1 bo none 0 0 0 (k + 1) G ∧ ∀ s u, s < pd f 0 P → u < pd f 0 P → (G 0 s u ↔ G0 0 s u ∧ ∀ r, r < (k + 1) → ¬ t0.2 r 3 = -1 → LNX Y U f P od t0 r s u) from by rw [da]; exact ⟨G, hRGa.mono (by omega) (fun _ _ _ _ _ _ => Iff.rfl), fun s u hs hu => lnx_skip (hGm s u hs hu) (fun y => y yy3)⟩)⟩ (by show t0.1 - (k + 1) < t0.1 - k; omega))
    · -- a next
      have hrb := hrg.2.1
      have hpU : (U.1 15).2 v0 2 = (Va.1 15).2 v0 2 := by rw [(show (Va.1 15) = (U.1 15) from ((zza.t 15 rfl).trans (z2.t 15 rfl)))]
      have hn3 : ¬ t0.2 k 3 = -1 := by rw [v2]; exact nI_neg1 (by omega)
      rcases hKN.1.2.2.2.2.2.2 v0 v1 with hpc | ⟨pl, hpl, hpc⟩
      · -- one VALUE
        refine mw_go mu_g289 (k := 2) (f1 := (44, [(2, .inl (nI k)), (0, .inr (.inr (some 129))), (1, .inr (.inr (some m)))], [.inr (.inr (mu_r Hsa 129 2))], Hsa)) (C := [mu_is Hsa (some 129) 9]) rfl (show mu_is Hsa (some 129) 9 from (ua.1.1.is rfl)) ?_
        rw [(ua.1.1.r (p := 129) (j := 2) (q := 118) rfl)]
        refine mw_go mu_g289 (k := 2) (f1 := (46, [(2, .inl (nI k)), (0, .inr (.inr (some 129))), (1, .inr (.inr (some m)))], [.inl (3 : Int32), .inl (nI k), .inr (.inr (some 118))], Hsa)) (C := []) rfl trivial ?_
        refine mw_cIe (fun _ => rfl) (show mu_is Hsa (some 118) 10 from (ua.1.1.is rfl)) (ua.getr (d := (d + 7)) da (j := 23) (by decide) rfl (nI k) (c := 3) (by decide)) ?_
        rw [show (tget (Va.1 23) (nI k) 3) = (nI v0) from ((congrArg (fun z => tget z (nI k) 3) (show Va.1 23 = (Va.1 23) from rfl)).trans (tget_nI (by first | omega | decide))).trans (hv3.trans v2)]
        refine mw_go mu_g289 (k := 2) (f1 := (51, [(3, .inl (nI v0)), (2, .inl (nI k)), (0, .inr (.inr (some 129))), (1, .inr (.inr (some m)))], [.inl (nI v0)], Hsa)) (C := []) rfl trivial ?_
        refine mw_if (P := (nI v0) < 0) (a := 54) (b := 57) (fun _ => rfl) trivial (fun h7 => absurd h7 (nI_pos (by omega))) (fun h7 => ?_)
        refine mw_go mu_g289 (k := 2) (f1 := (61, [(3, .inl (nI v0)), (2, .inl (nI k)), (0, .inr (.inr (some 129))), (1, .inr (.inr (some m)))], [.inr (.inr (mu_r Hsa 129 2))], Hsa)) (C := [mu_is Hsa (some 129) 9]) rfl (show mu_is Hsa (some 129) 9 from (ua.1.1.is rfl)) ?_
        rw [(ua.1.1.r (p := 129) (j := 2) (q := 118) rfl)]
        refine mw_go mu_g289 (k := 2) (f1 := (63, [(3, .inl (nI v0)), (2, .inl (nI k)), (0, .inr (.inr (some 129))), (1, .inr (.inr (some m)))], [.inl (0 : Int32), .inl (nI k), .inr (.inr (some 118))], Hsa)) (C := []) rfl trivial ?_
        refine mw_cIe (fun _ => rfl) (show mu_is Hsa (some 118) 10 from (ua.1.1.is rfl)) (ua.getr (d := (d + 7)) da (j := 23) (by decide) rfl (nI k) (c := 0) (by decide)) ?_
        rw [show (tget (Va.1 23) (nI k) 0) = (nI (rwa t0 k)) from ((congrArg (fun z => tget z (nI k) 0) (show Va.1 23 = (Va.1 23) from rfl)).trans (tget_nI (by first | omega | decide))).trans (hv0.trans yy0)]
        refine mw_go mu_g289 (k := 3) (f1 := (72, [(4, .inl (nI (rwa t0 k))), (3, .inl (nI v0)), (2, .inl (nI k)), (0, .inr (.inr (some 129))), (1, .inr (.inr (some m)))], [.inr (.inr (mu_r Hsa m 15))], Hsa)) (C := [mu_is Hsa (some m) 6]) rfl (show mu_is Hsa (some m) 6 from (show mu_is Hsa (some m) 6 from gi_im ua.1.1 ua.2)) ?_
        rw [(show mu_r Hsa m 15 = some (m + 31) from (gi_mr ua.1.1 ua.2 (j := 15) (by decide)).trans (congrArg some (by omega)))]
        refine mw_go mu_g289 (k := 2) (f1 := (74, [(4, .inl (nI (rwa t0 k))), (3, .inl (nI v0)), (2, .inl (nI k)), (0, .inr (.inr (some 129))), (1, .inr (.inr (some m)))], [.inl (2 : Int32), .inl (nI v0), .inr (.inr (some (m + 31)))], Hsa)) (C := []) rfl trivial ?_
        refine mw_cIe (fun _ => rfl) (show mu_is Hsa (some (m + 31)) 10 from ((ua.1.1.w (md_w15 ua.2)).1)) (ua.getr (d := (d + 7)) da (j := 15) (by decide) rfl (nI v0) (c := 2) (by decide)) ?_
        rw [show (tget (Va.1 15) (nI v0) 2) = (-1 : Int32) from ((congrArg (fun z => tget z (nI v0) 2) (show Va.1 15 = (U.1 15) from ((zza.t 15 rfl).trans (z2.t 15 rfl)))).trans (tget_nI (by first | omega | decide))).trans (hpU.trans hpc)]
        refine mw_go mu_g289 (k := 3) (f1 := (83, [(5, .inl (-1 : Int32)), (4, .inl (nI (rwa t0 k))), (3, .inl (nI v0)), (2, .inl (nI k)), (0, .inr (.inr (some 129))), (1, .inr (.inr (some m)))], [.inr (.inr (mu_r Hsa 129 0))], Hsa)) (C := [mu_is Hsa (some 129) 9]) rfl (show mu_is Hsa (some 129) 9 from (ua.1.1.is rfl)) ?_
        rw [(ua.1.1.r (p := 129) (j := 0) (q := 99) rfl)]
        refine mw_go mu_g289 (k := 1) (f1 := (86, [(5, .inl (-1 : Int32)), (4, .inl (nI (rwa t0 k))), (3, .inl (nI v0)), (2, .inl (nI k)), (0, .inr (.inr (some 129))), (1, .inr (.inr (some m)))], [.inr (.inr (mu_r Hsa 99 1))], Hsa)) (C := [mu_is Hsa (some 99) 13]) rfl (show mu_is Hsa (some 99) 13 from (ua.1.1.is rfl)) ?_
        rw [(ua.1.1.r (p := 99) (j := 1) (q := 100) rfl)]
        refine mw_go mu_g289 (k := 3) (f1 := (92, [(5, .inl (-1 : Int32)), (4, .inl (nI (rwa t0 k))), (3, .inl (nI v0)), (2, .inl (nI k)), (0, .inr (.inr (some 129))), (1, .inr (.inr (some m)))], [.inr (.inr (mu_r Hsa 129 2)), .inl (nI (rwa t0 k)), .inr (.inr (some 100))], Hsa)) (C := [mu_is Hsa (some 129) 9]) rfl (show mu_is Hsa (some 129) 9 from (ua.1.1.is rfl)) ?_
        rw [(ua.1.1.r (p := 129) (j := 2) (q := 118) rfl)]
        refine mw_go mu_g289 (k := 2) (f1 := (94, [(5, .inl (-1 : Int32)), (4, .inl (nI (rwa t0 k))), (3, .inl (nI v0)), (2, .inl (nI k)), (0, .inr (.inr (some 129))), (1, .inr (.inr (some m)))], [.inl (1 : Int32), .inl (nI k), .inr (.inr (some 118)), .inl (nI (rwa t0 k)), .inr (.inr (some 100))], Hsa)) (C := []) rfl trivial ?_
        refine mw_cIe (fun _ => rfl) (show mu_is Hsa (some 118) 10 from (ua.1.1.is rfl)) (ua.getr (d := (d + 7)) da (j := 23) (by decide) rfl (nI k) (c := 1) (by decide)) ?_
        rw [show (tget (Va.1 23) (nI k) 1) = (nI (rwa t0 k + rwn t0 k)) from ((congrArg (fun z => tget z (nI k) 1) (show Va.1 23 = (Va.1 23) from rfl)).trans (tget_nI (by first | omega | decide))).trans (hv1.trans yy1)]
        refine mw_go mu_g289 (k := 2) (f1 := (101, [(5, .inl (-1 : Int32)), (4, .inl (nI (rwa t0 k))), (3, .inl (nI v0)), (2, .inl (nI k)), (0, .inr (.inr (some 129))), (1, .inr (.inr (some m)))], [.inr (.inr (mu_r Hsa 129 2)), .inl (nI (rwa t0 k + rwn t0 k)), .inl (nI (rwa t0 k)), .inr (.inr (some 100))], Hsa)) (C := [mu_is Hsa (some 129) 9]) rfl (show mu_is Hsa (some 129) 9 from (ua.1.1.is rfl)) ?_
        rw [(ua.1.1.r (p := 129) (j := 2) (q := 118) rfl)]
        refine mw_go mu_g289 (k := 2) (f1 := (103, [(5, .inl (-1 : Int32)), (4, .inl (nI (rwa t0 k))), (3, .inl (nI v0)), (2, .inl (nI k)), (0, .inr (.inr (some 129))), (1, .inr (.inr (some m)))], [.inl (2 : Int32), .inl (nI k), .inr (.inr (some 118)), .inl (nI (rwa t0 k + rwn t0 k)), .inl (nI (rwa t0 k)), .inr (.inr (some 100))], Hsa)) (C := []) rfl trivial ?_
        refine mw_cIe (fun _ => rfl) (show mu_is Hsa (some 118) 10 from (ua.1.1.is rfl)) (ua.getr (d := (d + 7)) da (j := 23) (by decide) rfl (nI k) (c := 2) (by decide)) ?_
        rw [show (tget (Va.1 23) (nI k) 2) = (nI (rwi t0 k)) from ((congrArg (fun z => tget z (nI k) 2) (show Va.1 23 = (Va.1 23) from rfl)).trans (tget_nI (by first | omega | decide))).trans (hv2.trans yy2)]
        refine mw_cV (fun _ => rfl) (show mu_is Hsa (some 100) 5 from (ua.1.1.is rfl)) (rl_loadP (d := (d + 3)) (C := C) (a := rwa t0 k) (n := rwn t0 k) (i := rwi t0 k) ua da hKN yi (rgs_of hrg) hC21 hC21b) (fun Q12 q12 => ?_)
        obtain ⟨u12, r12, z12, hKL⟩ := q12
        have ht12 : ur m C H Q12 := hta.trans r12
        obtain ⟨V12, d12⟩ : ∃ V, ud m Q12 = V := ⟨_, rfl⟩
        rw [d12] at z12 hKL
        have qf12 : uq F289 U V12 := qfa.tr z12 rfl
        obtain ⟨mk, hmk⟩ : ∃ mk, V12.2.1 100 4 = mk := ⟨_, rfl⟩
        obtain ⟨wd, hwd, hwd2, hWD⟩ := hKL.2.2.2.1.1
        refine mw_go mu_g289 (k := 1) (f1 := (111, [(5, .inl (-1 : Int32)), (4, .inl (nI (rwa t0 k))), (3, .inl (nI v0)), (2, .inl (nI k)), (0, .inr (.inr (some 129))), (1, .inr (.inr (some m)))], [.inl (-1 : Int32)], Q12)) (C := []) rfl trivial ?_
        refine mw_if (P := (-1 : Int32) < 0) (a := 114) (b := 150) (fun _ => rfl) trivial (fun h13 => ?_) (fun h13 => absurd (by decide) h13)
        refine mw_go mu_g289 (k := 2) (f1 := (118, [(5, .inl (-1 : Int32)), (4, .inl (nI (rwa t0 k))), (3, .inl (nI v0)), (2, .inl (nI k)), (0, .inr (.inr (some 129))), (1, .inr (.inr (some m)))], [.inr (.inr (mu_r Q12 129 0))], Q12)) (C := [mu_is Q12 (some 129) 9]) rfl (show mu_is Q12 (some 129) 9 from (u12.1.1.is rfl)) ?_
        rw [(u12.1.1.r (p := 129) (j := 0) (q := 99) rfl)]
        refine mw_go mu_g289 (k := 3) (f1 := (123, [(5, .inl (-1 : Int32)), (4, .inl (nI (rwa t0 k))), (3, .inl (nI v0)), (2, .inl (nI k)), (0, .inr (.inr (some 129))), (1, .inr (.inr (some m)))], [.inr (.inr (mu_r Q12 129 0)), .inl (nI v0), .inr (.inr (some 99))], Q12)) (C := [mu_is Q12 (some 129) 9]) rfl (show mu_is Q12 (some 129) 9 from (u12.1.1.is rfl)) ?_
        rw [(u12.1.1.r (p := 129) (j := 0) (q := 99) rfl)]
        refine mw_go mu_g289 (k := 1) (f1 := (126, [(5, .inl (-1 : Int32)), (4, .inl (nI (rwa t0 k))), (3, .inl (nI v0)), (2, .inl (nI k)), (0, .inr (.inr (some 129))), (1, .inr (.inr (some m)))], [.inr (.inr (mu_r Q12 99 16)), .inl (nI v0), .inr (.inr (some 99))], Q12)) (C := [mu_is Q12 (some 99) 13]) rfl (show mu_is Q12 (some 99) 13 from (u12.1.1.is rfl)) ?_
        rw [(u12.1.1.r (p := 99) (j := 16) (q := 126) rfl)]
        refine mw_cV (fun _ => rfl) (show mu_is Q12 (some 99) 13 from (u12.1.1.is rfl)) (sp_taskC3 (d := (d + 1)) (C := C) (a := rwa t0 k) (n := rwn t0 k) (i := rwi t0 k) (rs := rs) (v0 := v0) u12 d12 hKL yi hrg hsr v1) (fun Q14 q14 => ?_)
        obtain ⟨u14, r14, z14, hKL2, hbi⟩ := q14
        have ht14 : ur m C H Q14 := ht12.trans r14
        obtain ⟨V14, d14⟩ : ∃ V, ud m Q14 = V := ⟨_, rfl⟩
        rw [d14] at z14 hKL2 hbi
        have qf14 : uq F289 U V14 := qf12.tr z14 rfl
        have hRGe := hRGa.q (F := F289x) (V := V14) ((((uq.refl F289x Va).tr z12 rfl)).tr z14 rfl) rfl rfl
        have hRGn := RLG.alive hRGe hbi
        refine mw_go mu_g289 (k := 2) (f1 := (133, [(5, .inl (-1 : Int32)), (4, .inl (nI (rwa t0 k))), (3, .inl (nI v0)), (2, .inl (nI k)), (0, .inr (.inr (some 129))), (1, .inr (.inr (some m)))], [.inr (.inr (mu_r Q14 129 0))], Q14)) (C := [mu_is Q14 (some 129) 9]) rfl (show mu_is Q14 (some 129) 9 from (u14.1.1.is rfl)) ?_
        rw [(u14.1.1.r (p := 129) (j := 0) (q := 99) rfl)]
        refine mw_go mu_g289 (k := 2) (f1 := (137, [(5, .inl (-1 : Int32)), (4, .inl (nI (rwa t0 k))), (3, .inl (nI v0)), (2, .inl (nI k)), (0, .inr (.inr (some 129))), (1, .inr (.inr (some m)))], [.inr (.inr (mu_r Q14 129 17)), .inr (.inr (some 99))], Q14)) (C := [mu_is Q14 (some 129) 9]) rfl (show mu_is Q14 (some 129) 9 from (u14.1.1.is rfl)) ?_
        rw [(u14.1.1.r (p := 129) (j := 17) (q := 145) rfl)]
        refine mw_go mu_g289 (k := 2) (f1 := (141, [(5, .inl (-1 : Int32)), (4, .inl (nI (rwa t0 k))), (3, .inl (nI v0)), (2, .inl (nI k)), (0, .inr (.inr (some 129))), (1, .inr (.inr (some m)))], [.inr (.inr (mu_r Q14 129 0)), .inr (.inr (some 145)), .inr (.inr (some 99))], Q14)) (C := [mu_is Q14 (some 129) 9]) rfl (show mu_is Q14 (some 129) 9 from (u14.1.1.is rfl)) ?_
        rw [(u14.1.1.r (p := 129) (j := 0) (q := 99) rfl)]
        refine mw_go mu_g289 (k := 1) (f1 := (144, [(5, .inl (-1 : Int32)), (4, .inl (nI (rwa t0 k))), (3, .inl (nI v0)), (2, .inl (nI k)), (0, .inr (.inr (some 129))), (1, .inr (.inr (some m)))], [.inr (.inr (mu_r Q14 99 16)), .inr (.inr (some 145)), .inr (.inr (some 99))], Q14)) (C := [mu_is Q14 (some 99) 13]) rfl (show mu_is Q14 (some 99) 13 from (u14.1.1.is rfl)) ?_
        rw [(u14.1.1.r (p := 99) (j := 16) (q := 126) rfl)]
        refine mw_cV (fun _ => rfl) (show mu_is Q14 (some 99) 13 from (u14.1.1.is rfl)) (sp_common_145_126 (d := (d + 7)) (C := C) u14 d14 hKL2.1.1) (fun Q15 q15 => ?_)
        obtain ⟨u15, r15, d15⟩ := q15
        have ht15 : ur m C H Q15 := ht14.trans r15
        have qf15 : uq F289 U (upM V14 145 0 (fun i => (V14.2.2.2.2.1 145 i &&& V14.2.2.2.2.1 126 i)) ((pd f 0 P + 63) / 64)) := qf14.M rfl
        refine mw_go mu_g289 (k := 1) (f1 := (185, [(5, .inl (-1 : Int32)), (4, .inl (nI (rwa t0 k))), (3, .inl (nI v0)), (2, .inl (nI k)), (0, .inr (.inr (some 129))), (1, .inr (.inr (some m)))], [], Q15)) (C := []) rfl trivial ?_
        refine mw_go mu_g289 (k := 2) (f1 := (189, [(5, .inl (-1 : Int32)), (4, .inl (nI (rwa t0 k))), (3, .inl (nI v0)), (2, .inl (nI k)), (0, .inr (.inr (some 129))), (1, .inr (.inr (some m)))], [.inr (.inr (mu_r Q15 129 2))], Q15)) (C := [mu_is Q15 (some 129) 9]) rfl (show mu_is Q15 (some 129) 9 from (u15.1.1.is rfl)) ?_
        rw [(u15.1.1.r (p := 129) (j := 2) (q := 118) rfl)]
        refine mw_go mu_g289 (k := 3) (f1 := (193, [(5, .inl (-1 : Int32)), (4, .inl (nI (rwa t0 k))), (3, .inl (nI v0)), (2, .inl (nI k)), (0, .inr (.inr (some 129))), (1, .inr (.inr (some m)))], [.inl (nI (rwa t0 k)), .inl (1 : Int32), .inl (nI k), .inr (.inr (some 118))], Q15)) (C := []) rfl trivial ?_
        refine mw_cV (fun _ => rfl) (show mu_is Q15 (some 118) 10 from (u15.1.1.is rfl)) (u15.setr (C := C) (d := (d + 7)) d15 (j := 23) (Or.inr ⟨by decide, by decide⟩) rfl (nI k) (nI (rwa t0 k)) (c := 1) (by decide)) (fun Q16 q16 => ?_)
        obtain ⟨u16, r16, d16⟩ := q16
        have ht16 : ur m C H Q16 := ht15.trans r16
        have qf16 : uq F289 U (upT (upM V14 145 0 (fun i => (V14.2.2.2.2.1 145 i &&& V14.2.2.2.2.1 126 i)) ((pd f 0 P + 63) / 64)) (ax 23 (upM V14 145 0 (fun i => (V14.2.2.2.2.1 145 i &&& V14.2.2.2.2.1 126 i)) ((pd f 0 P + 63) / 64)).1 (nI k) 1 (nI (rwa t0 k)))) := qf15.ax rfl
        refine mw_go mu_g289 (k := 1) (f1 := (199, [(2, .inl ((nI k) + 1)), (5, .inl (-1 : Int32)), (4, .inl (nI (rwa t0 k))), (3, .inl (nI v0)), (0, .inr (.inr (some 129))), (1, .inr (.inr (some m)))], [], Q16)) (C := []) rfl trivial ?_
        rw [(show ((nI k) + 1) = (nI (k + 1)) from (nI_add k 1))]
        refine mw_go mu_g289 (k := 1) (f1 := (29, [(2, .inl (nI (k + 1))), (5, .inl (-1 : Int32)), (4, .inl (nI (rwa t0 k))), (3, .inl (nI v0)), (0, .inr (.inr (some 129))), (1, .inr (.inr (some m)))], [], Q16)) (C := []) rfl trivial ?_
        exact mw_sub (by simp) (iha (k + 1, Q16) ⟨u16, ht16, (show uq F289a V2 (ud m Q16) from by rw [d16]; exact ((((zza.tr z12 rfl).tr z14 rfl).M rfl).T (fun q hq => by first | exact ax_ne (in1_ne rfl hq) | exact ap_ne (in1_ne rfl hq) | exact fu_ne _ _ (in1_ne rfl hq)))), (show (k + 1) ≤ t0.1 from (by omega)), (show RSK m (ud m Q16) Y P f od es from by rw [d16]; exact ((RSKL.kk hKL2 (by omega) yi).q (show uq F289y V14 (upT (upM V14 145 0 (fun i => (V14.2.2.2.2.1 145 i &&& V14.2.2.2.2.1 126 i)) ((pd f 0 P + 63) / 64)) (ax 23 (upM V14 145 0 (fun i => (V14.2.2.2.2.1 145 i &&& V14.2.2.2.2.1 126 i)) ((pd f 0 P + 63) / 64)).1 (nI k) 1 (nI (rwa t0 k)))) from (((uq.refl F289y V14).M rfl).T (fun q hq => by first | exact ax_ne (in1_ne rfl hq) | exact ap_ne (in1_ne rfl hq) | exact fu_ne _ _ (in1_ne rfl hq)))) rfl rfl)), (show TLN t0 ((ud m Q16).1 23) (k + 1) from by rw [d16]; exact (by rw [show (upT (upM V14 145 0 (fun i => (V14.2.2.2.2.1 145 i &&& V14.2.2.2.2.1 126 i)) ((pd f 0 P + 63) / 64)) (ax 23 (upM V14 145 0 (fun i => (V14.2.2.2.2.1 145 i &&& V14.2.2.2.2.1 126 i)) ((pd f 0 P + 63) / 64)).1 (nI k) 1 (nI (rwa t0 k)))).1 23 = tset 5 (Va.1 23) (nI k) 1 (t0.2 k 0) from by rw [yy0, ← (show (upM V14 145 0 (fun i => (V14.2.2.2.2.1 145 i &&& V14.2.2.2.2.1 126 i)) ((pd f 0 P + 63) / 64)).1 23 = Va.1 23 from ((z14.t 23 rfl).trans (z12.t 23 rfl)))]; rfl]; exact hTL.set hn3 hkn (by omega))), (show ∃ G, RLG (ud m Q16) Y es P f od N0 O0 sf 1 bo none 0 0 0 (k + 1) G ∧ ∀ s u, s < pd f 0 P → u < pd f 0 P → (G 0 s u ↔ G0 0 s u ∧ ∀ r, r < (k + 1) → ¬ t0.2 r 3 = -1 → LNX Y U f P od t0 r s u) from by rw [d16]; exact ⟨fun b s t => G b s t ∧ cho Y V12 f P od (rwi t0 k) (rwa t0 k) (rwn t0 k) v0 s, (hRGn.q (show uq F129 (upM V14 145 0 (fun i => (V14.2.2.2.2.1 145 i &&& V14.2.2.2.2.1 126 i)) ((pd f 0 P + 63) / 64)) (upT (upM V14 145 0 (fun i => (V14.2.2.2.2.1 145 i &&& V14.2.2.2.2.1 126 i)) ((pd f 0 P + 63) / 64)) (ax 23 (upM V14 145 0 (fun i => (V14.2.2.2.2.1 145 i &&& V14.2.2.2.2.1 126 i)) ((pd f 0 P + 63) / 64)).1 (nI k) 1 (nI (rwa t0 k)))) from ((uq.refl F129 (upM V14 145 0 (fun i => (V14.2.2.2.2.1 145 i &&& V14.2.2.2.2.1 126 i)) ((pd f 0 P + 63) / 64))).T (fun q hq => ax_ne (in1_ne rfl hq)))) rfl rfl).mono (by omega) (fun _ _ _ _ _ _ => Iff.rfl), fun s u hs hu => lnx_succ (hGm s u hs hu) (lnx_no (show (V12.1 15) = (U.1 15) from ((z12.t 15 rfl).trans ((zza.t 15 rfl).trans (z2.t 15 rfl)))) (show (V12.2.2.1 99 8) = (U.2.2.1 99 8) from ((z12.a 99 8 rfl).trans ((zza.a 99 8 rfl).trans (z2.a 99 8 rfl)))) v2 (by omega) (hpU.trans hpc)) hn3⟩)⟩ (by show t0.1 - (k + 1) < t0.1 - k; omega))
      · -- a place
        have hP14 := hK.1.P14
        refine mw_go mu_g289 (k := 2) (f1 := (44, [(2, .inl (nI k)), (0, .inr (.inr (some 129))), (1, .inr (.inr (some m)))], [.inr (.inr (mu_r Hsa 129 2))], Hsa)) (C := [mu_is Hsa (some 129) 9]) rfl (show mu_is Hsa (some 129) 9 from (ua.1.1.is rfl)) ?_
        rw [(ua.1.1.r (p := 129) (j := 2) (q := 118) rfl)]
        refine mw_go mu_g289 (k := 2) (f1 := (46, [(2, .inl (nI k)), (0, .inr (.inr (some 129))), (1, .inr (.inr (some m)))], [.inl (3 : Int32), .inl (nI k), .inr (.inr (some 118))], Hsa)) (C := []) rfl trivial ?_
        refine mw_cIe (fun _ => rfl) (show mu_is Hsa (some 118) 10 from (ua.1.1.is rfl)) (ua.getr (d := (d + 7)) da (j := 23) (by decide) rfl (nI k) (c := 3) (by decide)) ?_
        rw [show (tget (Va.1 23) (nI k) 3) = (nI v0) from ((congrArg (fun z => tget z (nI k) 3) (show Va.1 23 = (Va.1 23) from rfl)).trans (tget_nI (by first | omega | decide))).trans (hv3.trans v2)]
        refine mw_go mu_g289 (k := 2) (f1 := (51, [(3, .inl (nI v0)), (2, .inl (nI k)), (0, .inr (.inr (some 129))), (1, .inr (.inr (some m)))], [.inl (nI v0)], Hsa)) (C := []) rfl trivial ?_
        refine mw_if (P := (nI v0) < 0) (a := 54) (b := 57) (fun _ => rfl) trivial (fun h18 => absurd h18 (nI_pos (by omega))) (fun h18 => ?_)
        refine mw_go mu_g289 (k := 2) (f1 := (61, [(3, .inl (nI v0)), (2, .inl (nI k)), (0, .inr (.inr (some 129))), (1, .inr (.inr (some m)))], [.inr (.inr (mu_r Hsa 129 2))], Hsa)) (C := [mu_is Hsa (some 129) 9]) rfl (show mu_is Hsa (some 129) 9 from (ua.1.1.is rfl)) ?_
        rw [(ua.1.1.r (p := 129) (j := 2) (q := 118) rfl)]
        refine mw_go mu_g289 (k := 2) (f1 := (63, [(3, .inl (nI v0)), (2, .inl (nI k)), (0, .inr (.inr (some 129))), (1, .inr (.inr (some m)))], [.inl (0 : Int32), .inl (nI k), .inr (.inr (some 118))], Hsa)) (C := []) rfl trivial ?_
        refine mw_cIe (fun _ => rfl) (show mu_is Hsa (some 118) 10 from (ua.1.1.is rfl)) (ua.getr (d := (d + 7)) da (j := 23) (by decide) rfl (nI k) (c := 0) (by decide)) ?_
        rw [show (tget (Va.1 23) (nI k) 0) = (nI (rwa t0 k)) from ((congrArg (fun z => tget z (nI k) 0) (show Va.1 23 = (Va.1 23) from rfl)).trans (tget_nI (by first | omega | decide))).trans (hv0.trans yy0)]
        refine mw_go mu_g289 (k := 3) (f1 := (72, [(4, .inl (nI (rwa t0 k))), (3, .inl (nI v0)), (2, .inl (nI k)), (0, .inr (.inr (some 129))), (1, .inr (.inr (some m)))], [.inr (.inr (mu_r Hsa m 15))], Hsa)) (C := [mu_is Hsa (some m) 6]) rfl (show mu_is Hsa (some m) 6 from (show mu_is Hsa (some m) 6 from gi_im ua.1.1 ua.2)) ?_
        rw [(show mu_r Hsa m 15 = some (m + 31) from (gi_mr ua.1.1 ua.2 (j := 15) (by decide)).trans (congrArg some (by omega)))]
        refine mw_go mu_g289 (k := 2) (f1 := (74, [(4, .inl (nI (rwa t0 k))), (3, .inl (nI v0)), (2, .inl (nI k)), (0, .inr (.inr (some 129))), (1, .inr (.inr (some m)))], [.inl (2 : Int32), .inl (nI v0), .inr (.inr (some (m + 31)))], Hsa)) (C := []) rfl trivial ?_
        refine mw_cIe (fun _ => rfl) (show mu_is Hsa (some (m + 31)) 10 from ((ua.1.1.w (md_w15 ua.2)).1)) (ua.getr (d := (d + 7)) da (j := 15) (by decide) rfl (nI v0) (c := 2) (by decide)) ?_
        rw [show (tget (Va.1 15) (nI v0) 2) = (nI pl) from ((congrArg (fun z => tget z (nI v0) 2) (show Va.1 15 = (U.1 15) from ((zza.t 15 rfl).trans (z2.t 15 rfl)))).trans (tget_nI (by first | omega | decide))).trans (hpU.trans hpc)]
        refine mw_go mu_g289 (k := 3) (f1 := (83, [(5, .inl (nI pl)), (4, .inl (nI (rwa t0 k))), (3, .inl (nI v0)), (2, .inl (nI k)), (0, .inr (.inr (some 129))), (1, .inr (.inr (some m)))], [.inr (.inr (mu_r Hsa 129 0))], Hsa)) (C := [mu_is Hsa (some 129) 9]) rfl (show mu_is Hsa (some 129) 9 from (ua.1.1.is rfl)) ?_
        rw [(ua.1.1.r (p := 129) (j := 0) (q := 99) rfl)]
        refine mw_go mu_g289 (k := 1) (f1 := (86, [(5, .inl (nI pl)), (4, .inl (nI (rwa t0 k))), (3, .inl (nI v0)), (2, .inl (nI k)), (0, .inr (.inr (some 129))), (1, .inr (.inr (some m)))], [.inr (.inr (mu_r Hsa 99 1))], Hsa)) (C := [mu_is Hsa (some 99) 13]) rfl (show mu_is Hsa (some 99) 13 from (ua.1.1.is rfl)) ?_
        rw [(ua.1.1.r (p := 99) (j := 1) (q := 100) rfl)]
        refine mw_go mu_g289 (k := 3) (f1 := (92, [(5, .inl (nI pl)), (4, .inl (nI (rwa t0 k))), (3, .inl (nI v0)), (2, .inl (nI k)), (0, .inr (.inr (some 129))), (1, .inr (.inr (some m)))], [.inr (.inr (mu_r Hsa 129 2)), .inl (nI (rwa t0 k)), .inr (.inr (some 100))], Hsa)) (C := [mu_is Hsa (some 129) 9]) rfl (show mu_is Hsa (some 129) 9 from (ua.1.1.is rfl)) ?_
        rw [(ua.1.1.r (p := 129) (j := 2) (q := 118) rfl)]
        refine mw_go mu_g289 (k := 2) (f1 := (94, [(5, .inl (nI pl)), (4, .inl (nI (rwa t0 k))), (3, .inl (nI v0)), (2, .inl (nI k)), (0, .inr (.inr (some 129))), (1, .inr (.inr (some m)))], [.inl (1 : Int32), .inl (nI k), .inr (.inr (some 118)), .inl (nI (rwa t0 k)), .inr (.inr (some 100))], Hsa)) (C := []) rfl trivial ?_
        refine mw_cIe (fun _ => rfl) (show mu_is Hsa (some 118) 10 from (ua.1.1.is rfl)) (ua.getr (d := (d + 7)) da (j := 23) (by decide) rfl (nI k) (c := 1) (by decide)) ?_
        rw [show (tget (Va.1 23) (nI k) 1) = (nI (rwa t0 k + rwn t0 k)) from ((congrArg (fun z => tget z (nI k) 1) (show Va.1 23 = (Va.1 23) from rfl)).trans (tget_nI (by first | omega | decide))).trans (hv1.trans yy1)]
        refine mw_go mu_g289 (k := 2) (f1 := (101, [(5, .inl (nI pl)), (4, .inl (nI (rwa t0 k))), (3, .inl (nI v0)), (2, .inl (nI k)), (0, .inr (.inr (some 129))), (1, .inr (.inr (some m)))], [.inr (.inr (mu_r Hsa 129 2)), .inl (nI (rwa t0 k + rwn t0 k)), .inl (nI (rwa t0 k)), .inr (.inr (some 100))], Hsa)) (C := [mu_is Hsa (some 129) 9]) rfl (show mu_is Hsa (some 129) 9 from (ua.1.1.is rfl)) ?_
        rw [(ua.1.1.r (p := 129) (j := 2) (q := 118) rfl)]
        refine mw_go mu_g289 (k := 2) (f1 := (103, [(5, .inl (nI pl)), (4, .inl (nI (rwa t0 k))), (3, .inl (nI v0)), (2, .inl (nI k)), (0, .inr (.inr (some 129))), (1, .inr (.inr (some m)))], [.inl (2 : Int32), .inl (nI k), .inr (.inr (some 118)), .inl (nI (rwa t0 k + rwn t0 k)), .inl (nI (rwa t0 k)), .inr (.inr (some 100))], Hsa)) (C := []) rfl trivial ?_
        refine mw_cIe (fun _ => rfl) (show mu_is Hsa (some 118) 10 from (ua.1.1.is rfl)) (ua.getr (d := (d + 7)) da (j := 23) (by decide) rfl (nI k) (c := 2) (by decide)) ?_
        rw [show (tget (Va.1 23) (nI k) 2) = (nI (rwi t0 k)) from ((congrArg (fun z => tget z (nI k) 2) (show Va.1 23 = (Va.1 23) from rfl)).trans (tget_nI (by first | omega | decide))).trans (hv2.trans yy2)]
        refine mw_cV (fun _ => rfl) (show mu_is Hsa (some 100) 5 from (ua.1.1.is rfl)) (rl_loadP (d := (d + 3)) (C := C) (a := rwa t0 k) (n := rwn t0 k) (i := rwi t0 k) ua da hKN yi (rgs_of hrg) hC21 hC21b) (fun Q23 q23 => ?_)
        obtain ⟨u23, r23, z23, hKL⟩ := q23
        have ht23 : ur m C H Q23 := hta.trans r23
        obtain ⟨V23, d23⟩ : ∃ V, ud m Q23 = V := ⟨_, rfl⟩
        rw [d23] at z23 hKL
        have qf23 : uq F289 U V23 := qfa.tr z23 rfl
        obtain ⟨mk, hmk⟩ : ∃ mk, V23.2.1 100 4 = mk := ⟨_, rfl⟩
        obtain ⟨wd, hwd, hwd2, hWD⟩ := hKL.2.2.2.1.1
        refine mw_go mu_g289 (k := 1) (f1 := (111, [(5, .inl (nI pl)), (4, .inl (nI (rwa t0 k))), (3, .inl (nI v0)), (2, .inl (nI k)), (0, .inr (.inr (some 129))), (1, .inr (.inr (some m)))], [.inl (nI pl)], Q23)) (C := []) rfl trivial ?_
        refine mw_if (P := (nI pl) < 0) (a := 114) (b := 150) (fun _ => rfl) trivial (fun h24 => absurd h24 (nI_pos (by omega))) (fun h24 => ?_)
        refine mw_go mu_g289 (k := 4) (f1 := (157, [(5, .inl (nI pl)), (4, .inl (nI (rwa t0 k))), (3, .inl (nI v0)), (2, .inl (nI k)), (0, .inr (.inr (some 129))), (1, .inr (.inr (some m)))], [.inr (.inr (mu_r Q23 129 0)), .inl (nI pl), .inr (.inr (some 129))], Q23)) (C := [mu_is Q23 (some 129) 9]) rfl (show mu_is Q23 (some 129) 9 from (u23.1.1.is rfl)) ?_
        rw [(u23.1.1.r (p := 129) (j := 0) (q := 99) rfl)]
        refine mw_go mu_g289 (k := 1) (f1 := (160, [(5, .inl (nI pl)), (4, .inl (nI (rwa t0 k))), (3, .inl (nI v0)), (2, .inl (nI k)), (0, .inr (.inr (some 129))), (1, .inr (.inr (some m)))], [.inr (.inr (mu_r Q23 99 1)), .inl (nI pl), .inr (.inr (some 129))], Q23)) (C := [mu_is Q23 (some 99) 13]) rfl (show mu_is Q23 (some 99) 13 from (u23.1.1.is rfl)) ?_
        rw [(u23.1.1.r (p := 99) (j := 1) (q := 100) rfl)]
        refine mw_go mu_g289 (k := 1) (f1 := (163, [(5, .inl (nI pl)), (4, .inl (nI (rwa t0 k))), (3, .inl (nI v0)), (2, .inl (nI k)), (0, .inr (.inr (some 129))), (1, .inr (.inr (some m)))], [.inl (mu_i Q23 100 6), .inl (nI pl), .inr (.inr (some 129))], Q23)) (C := [mu_is Q23 (some 100) 5]) rfl (show mu_is Q23 (some 100) 5 from (u23.1.1.is rfl)) ?_
        rw [(show mu_i Q23 100 6 = (nI wd) from (ud_i (U := V23) (m := m) (P := 100) (j := 6) d23 rfl).trans hwd)]
        obtain ⟨A, N, us, S, z, p, nf, nm, tm, bs, lv, oid, nw, wa, wn, wi, wk, ou, hRO⟩ := hRGa
        have hRO1 := hRO.q (V := V23) (show uq F203 Va V23 from ((uq.refl F203 Va).tr z23 rfl)) rfl rfl
        have hcn1 := hRO1.2.1
        refine mw_cI (fun _ => rfl) (show mu_is Q23 (some 129) 9 from (u23.1.1.is rfl)) (rl_roomP (d := (d + 4)) (C := C) (k := pl) (mo := wd) u23 d23 hKL.1.1 hKL.1.2.1 hpl hRO1.1 hmk (by omega)) (fun x25 Q25 q25 => ?_)
        rcases q25 with ⟨rfl, u25, r25, z25⟩ | ⟨rfl, u25, r25, z25, hrm, hco⟩
        · -- (0 : Int32)
          have ht25 : ur m C H Q25 := ht23.trans r25
          obtain ⟨V25, d25⟩ : ∃ V, ud m Q25 = V := ⟨_, rfl⟩
          rw [d25] at z25
          have qf25 : uq F289 U V25 := qf23.tr z25 rfl
          have hRO2 := hRO1.q z25 rfl rfl
          have hKL2 := hKL.q z25 rfl rfl
          have hmk2 := (z25.i 100 4 rfl).trans hmk
          refine mw_if (P := (0 : Int32) = 0) (a := 178) (b := 169) (fun _ => rfl) trivial (fun h26 => ?_) (fun h26 => absurd (by decide) h26)
          refine mw_go mu_g289 (k := 3) (f1 := (182, [(5, .inl (nI pl)), (4, .inl (nI (rwa t0 k))), (3, .inl (nI v0)), (2, .inl (nI k)), (0, .inr (.inr (some 129))), (1, .inr (.inr (some m)))], [.inl (0 : Int32), .inl (nI pl), .inr (.inr (some 129))], Q25)) (C := []) rfl trivial ?_
          refine mw_cV (fun _ => rfl) (show mu_is Q25 (some 129) 9 from (u25.1.1.is rfl)) (rl_asideC (d := (d + 4)) (C := C) (a := rwa t0 k) (n := rwn t0 k) (i := rwi t0 k) (k := pl) (bb := true) u25 d25 hKL2 yi (rgs_of hrg) (by decide) ⟨fun _ => rfl, fun y => absurd y (by decide)⟩ hsr (by decide) (SRT_nxw hsr (by decide)) hpl hRO2.1 (by omega) (by omega) hC25b) (fun Q27 q27 => ?_)
          obtain ⟨u27, r27, z27, hKL3, hres⟩ := q27
          have ht27 : ur m C H Q27 := ht25.trans r27
          obtain ⟨V27, d27⟩ : ∃ V, ud m Q27 = V := ⟨_, rfl⟩
          rw [d27] at z27 hKL3 hres
          have qf27 : uq F289 U V27 := qf25.tr z27 rfl
          have hRGn := hRO2.step (z27.l 145 rfl) hres
          refine mw_go mu_g289 (k := 2) (f1 := (189, [(5, .inl (nI pl)), (4, .inl (nI (rwa t0 k))), (3, .inl (nI v0)), (2, .inl (nI k)), (0, .inr (.inr (some 129))), (1, .inr (.inr (some m)))], [.inr (.inr (mu_r Q27 129 2))], Q27)) (C := [mu_is Q27 (some 129) 9]) rfl (show mu_is Q27 (some 129) 9 from (u27.1.1.is rfl)) ?_
          rw [(u27.1.1.r (p := 129) (j := 2) (q := 118) rfl)]
          refine mw_go mu_g289 (k := 3) (f1 := (193, [(5, .inl (nI pl)), (4, .inl (nI (rwa t0 k))), (3, .inl (nI v0)), (2, .inl (nI k)), (0, .inr (.inr (some 129))), (1, .inr (.inr (some m)))], [.inl (nI (rwa t0 k)), .inl (1 : Int32), .inl (nI k), .inr (.inr (some 118))], Q27)) (C := []) rfl trivial ?_
          refine mw_cV (fun _ => rfl) (show mu_is Q27 (some 118) 10 from (u27.1.1.is rfl)) (u27.setr (C := C) (d := (d + 7)) d27 (j := 23) (Or.inr ⟨by decide, by decide⟩) rfl (nI k) (nI (rwa t0 k)) (c := 1) (by decide)) (fun Q28 q28 => ?_)
          obtain ⟨u28, r28, d28⟩ := q28
          have ht28 : ur m C H Q28 := ht27.trans r28
          have qf28 : uq F289 U (upT V27 (ax 23 V27.1 (nI k) 1 (nI (rwa t0 k)))) := qf27.ax rfl
          refine mw_go mu_g289 (k := 1) (f1 := (199, [(2, .inl ((nI k) + 1)), (5, .inl (nI pl)), (4, .inl (nI (rwa t0 k))), (3, .inl (nI v0)), (0, .inr (.inr (some 129))), (1, .inr (.inr (some m)))], [], Q28)) (C := []) rfl trivial ?_
          rw [(show ((nI k) + 1) = (nI (k + 1)) from (nI_add k 1))]
          refine mw_go mu_g289 (k := 1) (f1 := (29, [(2, .inl (nI (k + 1))), (5, .inl (nI pl)), (4, .inl (nI (rwa t0 k))), (3, .inl (nI v0)), (0, .inr (.inr (some 129))), (1, .inr (.inr (some m)))], [], Q28)) (C := []) rfl trivial ?_
          exact mw_sub (by simp) (iha (k + 1, Q28) ⟨u28, ht28, (show uq F289a V2 (ud m Q28) from by rw [d28]; exact ((((zza.tr z23 rfl).tr z25 rfl).tr z27 rfl).T (fun q hq => by first | exact ax_ne (in1_ne rfl hq) | exact ap_ne (in1_ne rfl hq) | exact fu_ne _ _ (in1_ne rfl hq)))), (show (k + 1) ≤ t0.1 from (by omega)), (show RSK m (ud m Q28) Y P f od es from by rw [d28]; exact ((RSKL.kk hKL3 (by omega) yi).q (show uq F289y V27 (upT V27 (ax 23 V27.1 (nI k) 1 (nI (rwa t0 k)))) from ((uq.refl F289y V27).T (fun q hq => by first | exact ax_ne (in1_ne rfl hq) | exact ap_ne (in1_ne rfl hq) | exact fu_ne _ _ (in1_ne rfl hq)))) rfl rfl)), (show TLN t0 ((ud m Q28).1 23) (k + 1) from by rw [d28]; exact (by rw [show (upT V27 (ax 23 V27.1 (nI k) 1 (nI (rwa t0 k)))).1 23 = tset 5 (Va.1 23) (nI k) 1 (t0.2 k 0) from by rw [yy0, ← (show V27.1 23 = Va.1 23 from ((z27.t 23 rfl).trans ((z25.t 23 rfl).trans (z23.t 23 rfl))))]; rfl]; exact hTL.set hn3 hkn (by omega))), (show ∃ G, RLG (ud m Q28) Y es P f od N0 O0 sf 1 bo none 0 0 0 (k + 1) G ∧ ∀ s u, s < pd f 0 P → u < pd f 0 P → (G 0 s u ↔ G0 0 s u ∧ ∀ r, r < (k + 1) → ¬ t0.2 r 3 = -1 → LNX Y U f P od t0 r s u) from by rw [d28]; exact ⟨_, hRGn.q (show uq F129 V27 (upT V27 (ax 23 V27.1 (nI k) 1 (nI (rwa t0 k)))) from ((uq.refl F129 V27).T (fun q hq => ax_ne (in1_ne rfl hq)))) rfl rfl, fun s u hs hu => lnx_succ (hGm s u hs hu) (one_imp.trans (lnx_pl (show (V25.1 15) = (U.1 15) from ((z25.t 15 rfl).trans ((z23.t 15 rfl).trans ((zza.t 15 rfl).trans (z2.t 15 rfl))))) (show (V25.2.2.1 99 8) = (U.2.2.1 99 8) from ((z25.a 99 8 rfl).trans ((z23.a 99 8 rfl).trans ((zza.a 99 8 rfl).trans (z2.a 99 8 rfl))))) v2 (by omega) (hpU.trans hpc) (by omega))) hn3⟩)⟩ (by show t0.1 - (k + 1) < t0.1 - k; omega))
        · -- (1 : Int32)
          have ht25 : ur m C H Q25 := ht23.trans r25
          obtain ⟨V25, d25⟩ : ∃ V, ud m Q25 = V := ⟨_, rfl⟩
          rw [d25] at z25
          have qf25 : uq F289 U V25 := qf23.tr z25 rfl
          have hRO2 := hRO1.q z25 rfl rfl
          have hKL2 := hKL.q z25 rfl rfl
          have hmk2 := (z25.i 100 4 rfl).trans hmk
          refine mw_if (P := (1 : Int32) = 0) (a := 178) (b := 169) (fun _ => rfl) trivial (fun h29 => absurd h29 (by decide)) (fun h29 => ?_)
          refine mw_go mu_g289 (k := 2) (f1 := (172, [(5, .inl (nI pl)), (4, .inl (nI (rwa t0 k))), (3, .inl (nI v0)), (2, .inl (nI k)), (0, .inr (.inr (some 129))), (1, .inr (.inr (some m)))], [.inl (nI pl), .inr (.inr (some 129))], Q25)) (C := []) rfl trivial ?_
          have hwd1 : 1 ≤ wd := by
            have hks := hrg.2.2.1
            rw [Nat.add_sub_cancel_left] at hks
            obtain ⟨x, x1, x2, x3⟩ := cho_some (Y := Y) (a := rwa t0 k) (N := rwn t0 k) hCc hrg.2.1 (rwn t0 k) (Nat.le_refl _) [true] hks List.mem_cons_self
            have y := hWD x x1 x2
            omega
          refine mw_cV (fun _ => rfl) (show mu_is Q25 (some 129) 9 from (u25.1.1.is rfl)) (rl_tabP (d := d) (C := C) (a := rwa t0 k) (n := rwn t0 k) (i := rwi t0 k) (k := pl) (mo := wd) (bb := true) u25 d25 hKL2 yi (rgs_of hrg) (by decide) ⟨fun _ => rfl, fun y => absurd y (by decide)⟩ hsr (by decide) (SRT_nxw hsr (by decide)) hpl hmk2 ⟨fun _ => hWD, fun y => absurd y (by decide)⟩ hwd1 hRO2.1 (by omega) hN00 hsf hrm hco (by omega) hC24b) (fun Q30 q30 => ?_)
          obtain ⟨u30, r30, z30, hKL3, hres⟩ := q30
          have ht30 : ur m C H Q30 := ht25.trans r30
          obtain ⟨V30, d30⟩ : ∃ V, ud m Q30 = V := ⟨_, rfl⟩
          rw [d30] at z30 hKL3 hres
          have qf30 : uq F289 U V30 := qf25.tr z30 rfl
          have hRGn := hRO2.step (z30.l 145 rfl) hres
          refine mw_go mu_g289 (k := 1) (f1 := (185, [(5, .inl (nI pl)), (4, .inl (nI (rwa t0 k))), (3, .inl (nI v0)), (2, .inl (nI k)), (0, .inr (.inr (some 129))), (1, .inr (.inr (some m)))], [], Q30)) (C := []) rfl trivial ?_
          refine mw_go mu_g289 (k := 2) (f1 := (189, [(5, .inl (nI pl)), (4, .inl (nI (rwa t0 k))), (3, .inl (nI v0)), (2, .inl (nI k)), (0, .inr (.inr (some 129))), (1, .inr (.inr (some m)))], [.inr (.inr (mu_r Q30 129 2))], Q30)) (C := [mu_is Q30 (some 129) 9]) rfl (show mu_is Q30 (some 129) 9 from (u30.1.1.is rfl)) ?_
          rw [(u30.1.1.r (p := 129) (j := 2) (q := 118) rfl)]
          refine mw_go mu_g289 (k := 3) (f1 := (193, [(5, .inl (nI pl)), (4, .inl (nI (rwa t0 k))), (3, .inl (nI v0)), (2, .inl (nI k)), (0, .inr (.inr (some 129))), (1, .inr (.inr (some m)))], [.inl (nI (rwa t0 k)), .inl (1 : Int32), .inl (nI k), .inr (.inr (some 118))], Q30)) (C := []) rfl trivial ?_
          refine mw_cV (fun _ => rfl) (show mu_is Q30 (some 118) 10 from (u30.1.1.is rfl)) (u30.setr (C := C) (d := (d + 7)) d30 (j := 23) (Or.inr ⟨by decide, by decide⟩) rfl (nI k) (nI (rwa t0 k)) (c := 1) (by decide)) (fun Q31 q31 => ?_)
          obtain ⟨u31, r31, d31⟩ := q31
          have ht31 : ur m C H Q31 := ht30.trans r31
          have qf31 : uq F289 U (upT V30 (ax 23 V30.1 (nI k) 1 (nI (rwa t0 k)))) := qf30.ax rfl
          refine mw_go mu_g289 (k := 1) (f1 := (199, [(2, .inl ((nI k) + 1)), (5, .inl (nI pl)), (4, .inl (nI (rwa t0 k))), (3, .inl (nI v0)), (0, .inr (.inr (some 129))), (1, .inr (.inr (some m)))], [], Q31)) (C := []) rfl trivial ?_
          rw [(show ((nI k) + 1) = (nI (k + 1)) from (nI_add k 1))]
          refine mw_go mu_g289 (k := 1) (f1 := (29, [(2, .inl (nI (k + 1))), (5, .inl (nI pl)), (4, .inl (nI (rwa t0 k))), (3, .inl (nI v0)), (0, .inr (.inr (some 129))), (1, .inr (.inr (some m)))], [], Q31)) (C := []) rfl trivial ?_
          exact mw_sub (by simp) (iha (k + 1, Q31) ⟨u31, ht31, (show uq F289a V2 (ud m Q31) from by rw [d31]; exact ((((zza.tr z23 rfl).tr z25 rfl).tr z30 rfl).T (fun q hq => by first | exact ax_ne (in1_ne rfl hq) | exact ap_ne (in1_ne rfl hq) | exact fu_ne _ _ (in1_ne rfl hq)))), (show (k + 1) ≤ t0.1 from (by omega)), (show RSK m (ud m Q31) Y P f od es from by rw [d31]; exact ((RSKL.kk hKL3 (by omega) yi).q (show uq F289y V30 (upT V30 (ax 23 V30.1 (nI k) 1 (nI (rwa t0 k)))) from ((uq.refl F289y V30).T (fun q hq => by first | exact ax_ne (in1_ne rfl hq) | exact ap_ne (in1_ne rfl hq) | exact fu_ne _ _ (in1_ne rfl hq)))) rfl rfl)), (show TLN t0 ((ud m Q31).1 23) (k + 1) from by rw [d31]; exact (by rw [show (upT V30 (ax 23 V30.1 (nI k) 1 (nI (rwa t0 k)))).1 23 = tset 5 (Va.1 23) (nI k) 1 (t0.2 k 0) from by rw [yy0, ← (show V30.1 23 = Va.1 23 from ((z30.t 23 rfl).trans ((z25.t 23 rfl).trans (z23.t 23 rfl))))]; rfl]; exact hTL.set hn3 hkn (by omega))), (show ∃ G, RLG (ud m Q31) Y es P f od N0 O0 sf 1 bo none 0 0 0 (k + 1) G ∧ ∀ s u, s < pd f 0 P → u < pd f 0 P → (G 0 s u ↔ G0 0 s u ∧ ∀ r, r < (k + 1) → ¬ t0.2 r 3 = -1 → LNX Y U f P od t0 r s u) from by rw [d31]; exact ⟨_, hRGn.q (show uq F129 V30 (upT V30 (ax 23 V30.1 (nI k) 1 (nI (rwa t0 k)))) from ((uq.refl F129 V30).T (fun q hq => ax_ne (in1_ne rfl hq)))) rfl rfl, fun s u hs hu => lnx_succ (hGm s u hs hu) (one_imp.trans (lnx_pl (show (V25.1 15) = (U.1 15) from ((z25.t 15 rfl).trans ((z23.t 15 rfl).trans ((zza.t 15 rfl).trans (z2.t 15 rfl))))) (show (V25.2.2.1 99 8) = (U.2.2.1 99 8) from ((z25.a 99 8 rfl).trans ((z23.a 99 8 rfl).trans ((zza.a 99 8 rfl).trans (z2.a 99 8 rfl))))) v2 (by omega) (hpU.trans hpc) (by omega))) hn3⟩)⟩ (by show t0.1 - (k + 1) < t0.1 - k; omega))
  · -- 202: not (nI k) < (nI (Va.1 23).1)
    have nh3 : ¬ k < ((Va.1 23).1) := fun z => h3 (show nI k < nI ((Va.1 23).1) from (nI_ltI (by omega) (by omega)).mpr z)
    have hke : k = t0.1 := by have y := hTL.1; omega
    rw [hke] at hTL
    obtain ⟨hPC, hPN⟩ := TLN.fin (U := U) (f := f) (P := P) (od := od) hRT hb15 hb0 hTL
    obtain ⟨G, hRGa, hGm⟩ := hRG
    refine mw_of (fun _ => mu_ret rfl trivial ⟨Hsa, rfl, ua, hta, (by rw [da]; exact qfa), ?_⟩)
    rw [da]
    refine ⟨hKN, G, hRGa.mono (by omega) (fun _ _ _ _ _ _ => Iff.rfl), by rw [hTL.1]; exact htb, hPC, fun s u hs hu => ?_⟩
    rw [hPN s u, hGm s u hs hu, ← hGO U f P s u, hke]
    exact ⟨fun ⟨⟨yy1, yy2⟩, yy3⟩ => ⟨yy1, yy3, yy2⟩, fun ⟨yy1, yy3, yy2⟩ => ⟨⟨yy1, yy2⟩, yy3⟩⟩
end TakeLines
