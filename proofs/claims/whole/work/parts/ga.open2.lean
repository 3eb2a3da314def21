/-! RELATION: openBranch, later -/
section OpenMore
variable {O0 : Nat → (Nat → Bool) × Bool} {H : mu_H} {U V W : Ud} {m d P N0 sf nb ba bn bi n0 cnt cnt' q a1 n1 j rb r s u : Nat} {C : Nat → Nat} {Y : Ts} {f od pa pn : Nat → Nat} {es : Nat → Int32} {bo : Nat → Nat → Nat} {br : Option Nat} {G : Nat → Nat → Nat → Prop} {GF PN : Nat → Nat → Prop}
/-- a branch more: what is left of the outer | -/
theorem brx_more (h : BRX U Y es W P f od nb q ba bn bi n0 pa pn G GF (fun _ _ => True)) (h22 : V.2.1 129 22 = nI q) (h03 : (V.1 27).2 0 3 = (U.1 27).2 0 3) (hs2 : (V.1 27).1 = nb + 1) (hold : ∀ b, b < nb → (V.1 27).2 b 2 = (U.1 27).2 b 2 ∧ (V.1 27).2 b 3 = (U.1 27).2 b 3) (h12 : (V.1 27).2 nb 2 = nI a1) (h13 : (V.1 27).2 nb 3 = nI (a1 + n1)) (hw1 : WTC Y es a1 n1 bi) (hnb : 1 < nb) (hj : nb + 1 + j ≤ 14001) (hjn : j ≤ n0) (hx : ∀ s u, trs Y W f P od bi ba n0 s u = 1 ↔ (∃ b, 1 ≤ b ∧ b < nb ∧ trs Y W f P od bi (pa b) (pn b) s u = 1) ∨ trs Y W f P od bi a1 n1 s u = 1 ∨ (¬ j = 0 ∧ trs Y W f P od bi ba j s u = 1)) (hPN : ∀ s u, PN s u ↔ trs Y W f P od bi a1 n1 s u = 1) : BRX V Y es W P f od (nb + 1) q ba j bi n0 (upv pa nb a1) (upv pn nb n1) (fun b s t => G (if b = nb then 0 else b) s t) GF PN := by
  obtain ⟨⟨g1, g2, g3⟩, g4, ⟨g5, g6, g7, g8⟩, g9, g10, g11⟩ := h
  refine ⟨⟨h22, h03.trans g2, hs2⟩, fun b b1 b2 => ?_, ⟨g5, g6, hj, hjn⟩, fun s u => ?_, fun s u hs hu => ?_, fun b s u b1 b2 hs hu => ?_⟩
  · by_cases e : b = nb
    · rw [e, upv_eq, upv_eq]
      exact ⟨h12, h13, hw1⟩
    · rw [upv_no e, upv_no e, (hold b (by omega)).1, (hold b (by omega)).2]
      exact g4 b b1 (by omega)
  · rw [hx s u]
    constructor
    · rintro (⟨b, b1, b2, y⟩ | y | y)
      · exact Or.inl ⟨b, b1, by omega, by rw [upv_ne b2, upv_ne b2]; exact y⟩
      · exact Or.inl ⟨nb, by omega, by omega, by rw [upv_eq, upv_eq]; exact y⟩
      · exact Or.inr y
    · rintro (⟨b, b1, b2, y⟩ | y)
      · by_cases e : b = nb
        · rw [e, upv_eq, upv_eq] at y
          exact Or.inr (Or.inl y)
        · rw [upv_no e, upv_no e] at y
          exact Or.inl ⟨b, b1, by omega, y⟩
      · exact Or.inr (Or.inr y)
  · show GF s u ↔ G (if 0 = nb then 0 else 0) s u ∧ _
    rw [show (if 0 = nb then 0 else 0) = 0 by by_cases z : 0 = nb; (rw [if_pos z]); (rw [if_neg z])]
    exact g10 s u hs hu
  · show (G (if b = nb then 0 else b) s u ∧ (b + 1 = nb + 1 → PN s u)) ↔ G (if 0 = nb then 0 else 0) s u ∧ _
    rw [show (if 0 = nb then 0 else 0) = 0 by by_cases z : 0 = nb; (rw [if_pos z]); (rw [if_neg z])]
    by_cases e : b = nb
    · rw [if_pos e, e, upv_eq, upv_eq, ← hPN s u]
      exact ⟨fun y => ⟨y.1, y.2 rfl⟩, fun y => ⟨y.1, fun _ => y.2⟩⟩
    · rw [if_neg e, upv_no e, upv_no e, ← g11 b s u b1 (by omega) hs hu]
      exact ⟨fun y => ⟨y.1, fun _ => trivial⟩, fun y => ⟨y.1, fun z => absurd z (by omega)⟩⟩
/-- a branch that is there already -/
theorem or_skip {p0 p1 p2 : Prop} {B : Prop} {E : Nat → Prop} {k : Nat} (h : p0 ↔ (∃ b, 1 ≤ b ∧ b < nb ∧ E b) ∨ p1) (h1 : p1 ↔ B ∨ p2) (hk1 : 1 ≤ k) (hk2 : k < nb) (hB : B ↔ E k) : p0 ↔ (∃ b, 1 ≤ b ∧ b < nb ∧ E b) ∨ p2 := by
  rw [h, h1]
  constructor
  · rintro (y | y | y)
    · exact Or.inl y
    · exact Or.inl ⟨k, hk1, hk2, hB.mp y⟩
    · exact Or.inr y
  · rintro (y | y)
    · exact Or.inl y
    · exact Or.inr (Or.inr y)
def F394a : Uf := ⟨[25], [], [], [], [], false⟩
theorem rl_open2 (h : um m H) (e : ud m H = U) (hK : RSK m U Y P f od es) (hR : RLG U Y es P f od N0 O0 sf nb bo (some q) ba bn bi cnt G) (hX : BRX U Y es U P f od nb q ba bn bi n0 pa pn G GF (fun _ _ => True)) (hC23 : 50000 ≤ C 23) (hC23b : C 23 ≤ 8388608) (hC27 : 141000 ≤ C 27) (hC27b : C 27 ≤ 8388608) : mu_TI (mu_D (d + 6)) 394 [.inr (.inr (some 129))] H (fun x H1 => um m H1 ∧ ur m C H H1 ∧ uq F394 U (ud m H1) ∧ RSK m (ud m H1) Y P f od es ∧ ((x = 0 ∧ RLG (ud m H1) Y es P f od N0 O0 sf nb bo (some q) ba 0 bi cnt G ∧ BRX (ud m H1) Y es U P f od nb q ba 0 bi n0 pa pn G GF (fun _ _ => True)) ∨ (x = 1 ∧ 1 ≤ bn ∧ ∃ bo' bn' pa' pn' G' cnt', (cnt' = 2047 ∨ (cnt' = cnt ∧ bn' = 0)) ∧ RLG (ud m H1) Y es P f od N0 O0 sf (nb + 1) bo' (some q) ba bn' bi cnt' G' ∧ ((ud m H1).1 23).1 = 1 ∧ (∀ r, r < ((ud m H1).1 23).1 → PCT Y es ((ud m H1).1 23) r) ∧ BRX (ud m H1) Y es U P f od (nb + 1) q ba bn' bi n0 pa' pn' G' GF (PND Y U f P od ((ud m H1).1 23))))) := by
  obtain ⟨⟨vq25, vb25, vb24⟩, v0, v1, v2, v3, v4, vc, vcn1, vnb1, vnbs⟩ := hR.row hK.1.P14
  have hD : MDL Y es := hK.1.2.2.2.1
  have hCc : Cc Y := hD.1.2.2.2.2.2.1.2
  obtain ⟨hb13, hb0, hb15, hb16, hb17⟩ := hD.2.2.2.1
  have hY11 : (Y 11).1 ≤ 67108864 := hD.1.2.2.2.2.2.2 11 (by decide)
  have hmo : U.2.2.2.1 99 0 = some m := hK.1.1.2.2.2.2.2
  have hj0U : U.1 0 = Y 0 := hK.1.2.2.1.1 0 (by decide)
  have hj9U : U.1 9 = Y 9 := hK.1.2.2.1.1 9 (by decide)
  have h22U : U.2.1 129 22 = nI q := hX.1.1
  have hXb := hX.2.2.1.2.2
  refine mu_meth (M := mu_m394) rfl rfl ?_
  refine mw_ht (mu_fn_of (show [0].Nodup by decide)) ?_
  refine mw_go mu_g394 (k := 2) (f1 := (4, [(0, .inr (.inr (some 129)))], [.inr (.inr (mu_r H 129 23))], H)) (C := [mu_is H (some 129) 9]) rfl (show mu_is H (some 129) 9 from (h.1.1.is rfl)) ?_
  rw [(h.1.1.r (p := 129) (j := 23) (q := 167) rfl)]
  refine mw_go mu_g394 (k := 1) (f1 := (7, [(0, .inr (.inr (some 129)))], [.inl (mu_i H 167 2)], H)) (C := [mu_is H (some 167) 10]) rfl (show mu_is H (some 167) 10 from (h.1.1.is rfl)) ?_
  rw [(show mu_i H 167 2 = (nI nb) from (h.size e (j := 27) (by decide) rfl).trans (congrArg nI ((congrArg Prod.fst (show U.1 27 = (U.1 27) from rfl)).trans vnbs)))]
  refine mw_go mu_g394 (k := 1) (f1 := (8, [(0, .inr (.inr (some 129)))], [.inl (1 : Int32), .inl (nI nb)], H)) (C := []) rfl trivial ?_
  refine mw_if (P := (nI nb) = (1 : Int32)) (a := 11) (b := 56) (fun _ => rfl) trivial (fun h1 => absurd h1 (fun y => by have y2 := (nI_eq (by omega) (by omega)).mp (show nI nb = nI 1 from y); omega)) (fun h1 => ?_)
  refine mw_go mu_g394 (k := 2) (f1 := (60, [(0, .inr (.inr (some 129)))], [.inr (.inr (mu_r H 129 3))], H)) (C := [mu_is H (some 129) 9]) rfl (show mu_is H (some 129) 9 from (h.1.1.is rfl)) ?_
  rw [(h.1.1.r (p := 129) (j := 3) (q := 132) rfl)]
  refine mw_go mu_g394 (k := 2) (f1 := (64, [(0, .inr (.inr (some 129)))], [.inl (mu_i H 129 22), .inr (.inr (some 132))], H)) (C := [mu_is H (some 129) 9]) rfl (show mu_is H (some 129) 9 from (h.1.1.is rfl)) ?_
  rw [(show mu_i H 129 22 = (nI q) from (ud_i (U := U) (m := m) (P := 129) (j := 22) e rfl).trans h22U)]
  refine mw_go mu_g394 (k := 1) (f1 := (65, [(0, .inr (.inr (some 129)))], [.inl (0 : Int32), .inl (nI q), .inr (.inr (some 132))], H)) (C := []) rfl trivial ?_
  refine mw_cIe (fun _ => rfl) (show mu_is H (some 132) 10 from (h.1.1.is rfl)) (h.getr (d := (d + 4)) e (j := 25) (by decide) rfl (nI q) (c := 0) (by decide)) ?_
  rw [show (tget (U.1 25) (nI q) 0) = (nI ba) from ((congrArg (fun z => tget z (nI q) 0) (show U.1 25 = (U.1 25) from rfl)).trans (tget_nI (by first | omega | decide))).trans v0]
  refine mw_go mu_g394 (k := 3) (f1 := (73, [(1, .inl (nI ba)), (0, .inr (.inr (some 129)))], [.inr (.inr (mu_r H 129 3))], H)) (C := [mu_is H (some 129) 9]) rfl (show mu_is H (some 129) 9 from (h.1.1.is rfl)) ?_
  rw [(h.1.1.r (p := 129) (j := 3) (q := 132) rfl)]
  refine mw_go mu_g394 (k := 2) (f1 := (77, [(1, .inl (nI ba)), (0, .inr (.inr (some 129)))], [.inl (mu_i H 129 22), .inr (.inr (some 132))], H)) (C := [mu_is H (some 129) 9]) rfl (show mu_is H (some 129) 9 from (h.1.1.is rfl)) ?_
  rw [(show mu_i H 129 22 = (nI q) from (ud_i (U := U) (m := m) (P := 129) (j := 22) e rfl).trans h22U)]
  refine mw_go mu_g394 (k := 1) (f1 := (78, [(1, .inl (nI ba)), (0, .inr (.inr (some 129)))], [.inl (2 : Int32), .inl (nI q), .inr (.inr (some 132))], H)) (C := []) rfl trivial ?_
  refine mw_cIe (fun _ => rfl) (show mu_is H (some 132) 10 from (h.1.1.is rfl)) (h.getr (d := (d + 4)) e (j := 25) (by decide) rfl (nI q) (c := 2) (by decide)) ?_
  rw [show (tget (U.1 25) (nI q) 2) = (nI bi) from ((congrArg (fun z => tget z (nI q) 2) (show U.1 25 = (U.1 25) from rfl)).trans (tget_nI (by first | omega | decide))).trans v2]
  refine mw_go mu_g394 (k := 3) (f1 := (84, [(3, .inl (0 : Int32)), (2, .inl (nI bi)), (1, .inl (nI ba)), (0, .inr (.inr (some 129)))], [], H)) (C := []) rfl trivial ?_
  show mu_W _ _ (84, [(3, .inl (nI 0)), (2, .inl (nI bi)), (1, .inl (nI ba)), (0, .inr (.inr (some 129)))], [], H) _
  refine mw_sub (L' := [(3, .inl (nI 0)), (0, .inr (.inr (some 129))), (1, .inl (nI ba)), (2, .inl (nI bi))]) (by simp) ?_
  refine mw_down (α := Nat × mu_H) (fun zs => (84, [(3, .inl (nI zs.1)), (0, .inr (.inr (some 129))), (1, .inl (nI ba)), (2, .inl (nI bi))], [], zs.2)) (fun zs => 65536 - zs.1) (fun zs => um m zs.2 ∧ ur m C H zs.2 ∧ (uq F394a U (ud m zs.2)) ∧ (∃ rb, zs.1 + rb ≤ bn ∧ RLG (ud m zs.2) Y es P f od N0 O0 sf nb bo (some q) ba rb bi cnt G ∧ (∀ s u, trs Y U f P od bi ba n0 s u = 1 ↔ (∃ b, 1 ≤ b ∧ b < nb ∧ trs Y U f P od bi (pa b) (pn b) s u = 1) ∨ (¬ rb = 0 ∧ trs Y U f P od bi ba rb s u = 1)))) (fun zs hza iha => ?_) (0, H) ⟨h, (ur.refl m C H), (show uq F394a U (ud m H) from by rw [e]; exact uq.refl _ _), (show ∃ rb, 0 + rb ≤ bn ∧ RLG (ud m H) Y es P f od N0 O0 sf nb bo (some q) ba rb bi cnt G ∧ (∀ s u, trs Y U f P od bi ba n0 s u = 1 ↔ (∃ b, 1 ≤ b ∧ b < nb ∧ trs Y U f P od bi (pa b) (pn b) s u = 1) ∨ (¬ rb = 0 ∧ trs Y U f P od bi ba rb s u = 1)) from by rw [e]; exact ⟨bn, by omega, hR, hX.2.2.2.1⟩)⟩
  obtain ⟨w, Hsa⟩ := zs
  obtain ⟨ua, hta, da, hRG⟩ := hza
  have ua : um m Hsa := ua
  have hta : ur m C H Hsa := hta
  have zza : uq F394a U (ud m Hsa) := da
  have hRG : ∃ rb, w + rb ≤ bn ∧ RLG (ud m Hsa) Y es P f od N0 O0 sf nb bo (some q) ba rb bi cnt G ∧ (∀ s u, trs Y U f P od bi ba n0 s u = 1 ↔ (∃ b, 1 ≤ b ∧ b < nb ∧ trs Y U f P od bi (pa b) (pn b) s u = 1) ∨ (¬ rb = 0 ∧ trs Y U f P od bi ba rb s u = 1)) := hRG
  obtain ⟨Va, da⟩ : ∃ V, ud m Hsa = V := ⟨_, rfl⟩
  rw [da] at zza hRG
  have qfa : uq F394 U Va := (uq.refl F394 U).tr zza rfl
  show mu_W _ _ (84, [(3, .inl (nI w)), (0, .inr (.inr (some 129))), (1, .inl (nI ba)), (2, .inl (nI bi))], [], Hsa) _
  obtain ⟨rb, hwb, hRGa, hxr⟩ := hRG
  obtain ⟨⟨hq25, hb25, hb24⟩, w0, w1, w2, w3, w4, wc, hcn1, hnb1, hnbs⟩ := hRGa.row hK.1.P14
  refine mw_go mu_g394 (k := 2) (f1 := (88, [(3, .inl (nI w)), (0, .inr (.inr (some 129))), (1, .inl (nI ba)), (2, .inl (nI bi))], [.inl (65536 : Int32), .inl (nI w)], Hsa)) (C := []) rfl trivial ?_
  refine mw_if (P := (nI w) < (65536 : Int32)) (a := 91) (b := 310) (fun _ => rfl) trivial (fun h4 => ?_) (fun h4 => absurd (show nI w < nI 65536 from (nI_ltI (by omega) (by omega)).mpr (by omega)) h4)
  refine mw_go mu_g394 (k := 2) (f1 := (95, [(3, .inl (nI w)), (0, .inr (.inr (some 129))), (1, .inl (nI ba)), (2, .inl (nI bi))], [.inr (.inr (mu_r Hsa 129 3))], Hsa)) (C := [mu_is Hsa (some 129) 9]) rfl (show mu_is Hsa (some 129) 9 from (ua.1.1.is rfl)) ?_
  rw [(ua.1.1.r (p := 129) (j := 3) (q := 132) rfl)]
  refine mw_go mu_g394 (k := 2) (f1 := (99, [(3, .inl (nI w)), (0, .inr (.inr (some 129))), (1, .inl (nI ba)), (2, .inl (nI bi))], [.inl (mu_i Hsa 129 22), .inr (.inr (some 132))], Hsa)) (C := [mu_is Hsa (some 129) 9]) rfl (show mu_is Hsa (some 129) 9 from (ua.1.1.is rfl)) ?_
  rw [(show mu_i Hsa 129 22 = (nI q) from (ud_i (U := Va) (m := m) (P := 129) (j := 22) da rfl).trans ((zza.i 129 22 rfl).trans h22U))]
  refine mw_go mu_g394 (k := 1) (f1 := (100, [(3, .inl (nI w)), (0, .inr (.inr (some 129))), (1, .inl (nI ba)), (2, .inl (nI bi))], [.inl (1 : Int32), .inl (nI q), .inr (.inr (some 132))], Hsa)) (C := []) rfl trivial ?_
  refine mw_cIe (fun _ => rfl) (show mu_is Hsa (some 132) 10 from (ua.1.1.is rfl)) (ua.getr (d := (d + 4)) da (j := 25) (by decide) rfl (nI q) (c := 1) (by decide)) ?_
  rw [show (tget (Va.1 25) (nI q) 1) = (nI (ba + rb)) from ((congrArg (fun z => tget z (nI q) 1) (show Va.1 25 = (Va.1 25) from rfl)).trans (tget_nI (by first | omega | decide))).trans w1]
  refine mw_go mu_g394 (k := 1) (f1 := (104, [(3, .inl (nI w)), (0, .inr (.inr (some 129))), (1, .inl (nI ba)), (2, .inl (nI bi))], [.inl (nI ba), .inl (nI (ba + rb))], Hsa)) (C := []) rfl trivial ?_
  refine mw_if (P := (nI ba) < (nI (ba + rb))) (a := 107) (b := 310) (fun _ => rfl) trivial (fun h6 => ?_) (fun h6 => ?_)
  · -- 107: (nI ba) < (nI (ba + rb))
    have nh6 : ba < (ba + rb) := (nI_ltI (by omega) (by omega)).mp (show nI ba < nI (ba + rb) from h6)
    obtain ⟨nn, hnn⟩ : ∃ nn, rb = nn + 1 := ⟨rb - 1, by omega⟩
    have hwq : WTC Y es ba (nn + 1) bi := by
      rcases wc with y | y
      · omega
      · rw [← hnn]; exact y
    have hoc34 : oc Y (ba + nn) ≤ 34 := by
      obtain ⟨q, q1, q2, -⟩ := hCc (ba + nn) (by omega)
      unfold oc; rw [q2, nI_clamp (by omega)]; exact q1
    refine mw_go mu_g394 (k := 2) (f1 := (111, [(3, .inl (nI w)), (0, .inr (.inr (some 129))), (1, .inl (nI ba)), (2, .inl (nI bi))], [.inr (.inr (mu_r Hsa 129 3))], Hsa)) (C := [mu_is Hsa (some 129) 9]) rfl (show mu_is Hsa (some 129) 9 from (ua.1.1.is rfl)) ?_
    rw [(ua.1.1.r (p := 129) (j := 3) (q := 132) rfl)]
    refine mw_go mu_g394 (k := 2) (f1 := (115, [(3, .inl (nI w)), (0, .inr (.inr (some 129))), (1, .inl (nI ba)), (2, .inl (nI bi))], [.inl (mu_i Hsa 129 22), .inr (.inr (some 132))], Hsa)) (C := [mu_is Hsa (some 129) 9]) rfl (show mu_is Hsa (some 129) 9 from (ua.1.1.is rfl)) ?_
    rw [(show mu_i Hsa 129 22 = (nI q) from (ud_i (U := Va) (m := m) (P := 129) (j := 22) da rfl).trans ((zza.i 129 22 rfl).trans h22U))]
    refine mw_go mu_g394 (k := 1) (f1 := (116, [(3, .inl (nI w)), (0, .inr (.inr (some 129))), (1, .inl (nI ba)), (2, .inl (nI bi))], [.inl (1 : Int32), .inl (nI q), .inr (.inr (some 132))], Hsa)) (C := []) rfl trivial ?_
    refine mw_cIe (fun _ => rfl) (show mu_is Hsa (some 132) 10 from (ua.1.1.is rfl)) (ua.getr (d := (d + 4)) da (j := 25) (by decide) rfl (nI q) (c := 1) (by decide)) ?_
    rw [show (tget (Va.1 25) (nI q) 1) = (nI (ba + rb)) from ((congrArg (fun z => tget z (nI q) 1) (show Va.1 25 = (Va.1 25) from rfl)).trans (tget_nI (by first | omega | decide))).trans w1]
    refine mw_go mu_g394 (k := 3) (f1 := (125, [(4, .inl (nI (ba + rb))), (3, .inl (nI w)), (0, .inr (.inr (some 129))), (1, .inl (nI ba)), (2, .inl (nI bi))], [.inr (.inr (mu_r Hsa 129 0))], Hsa)) (C := [mu_is Hsa (some 129) 9]) rfl (show mu_is Hsa (some 129) 9 from (ua.1.1.is rfl)) ?_
    rw [(ua.1.1.r (p := 129) (j := 0) (q := 99) rfl)]
    refine mw_go mu_g394 (k := 1) (f1 := (128, [(4, .inl (nI (ba + rb))), (3, .inl (nI w)), (0, .inr (.inr (some 129))), (1, .inl (nI ba)), (2, .inl (nI bi))], [.inr (.inr (mu_r Hsa 99 0))], Hsa)) (C := [mu_is Hsa (some 99) 13]) rfl (show mu_is Hsa (some 99) 13 from (ua.1.1.is rfl)) ?_
    rw [(show mu_r Hsa 99 0 = (some m) from (ud_q (U := Va) (m := m) (P := 99) (j := 0) da rfl).trans ((zza.r 99 0 rfl).trans hmo))]
    refine mw_go mu_g394 (k := 1) (f1 := (131, [(4, .inl (nI (ba + rb))), (3, .inl (nI w)), (0, .inr (.inr (some 129))), (1, .inl (nI ba)), (2, .inl (nI bi))], [.inr (.inr (mu_r Hsa m 0))], Hsa)) (C := [mu_is Hsa (some m) 6]) rfl (show mu_is Hsa (some m) 6 from (show mu_is Hsa (some m) 6 from gi_im ua.1.1 ua.2)) ?_
    rw [(show mu_r Hsa m 0 = some (m + 1) from (gi_mr ua.1.1 ua.2 (j := 0) (by decide)).trans (congrArg some (by omega)))]
    refine mw_go mu_g394 (k := 3) (f1 := (135, [(4, .inl (nI (ba + rb))), (3, .inl (nI w)), (0, .inr (.inr (some 129))), (1, .inl (nI ba)), (2, .inl (nI bi))], [.inl ((nI (ba + rb)) - (1 : Int32)), .inr (.inr (some (m + 1)))], Hsa)) (C := []) rfl trivial ?_
    rw [(show ((nI (ba + rb)) - (1 : Int32)) = (nI ((ba + rb) - 1)) from (nI_sub (a := ba + rb) (b := 1) (by omega)))]
    refine mw_go mu_g394 (k := 1) (f1 := (136, [(4, .inl (nI (ba + rb))), (3, .inl (nI w)), (0, .inr (.inr (some 129))), (1, .inl (nI ba)), (2, .inl (nI bi))], [.inl (0 : Int32), .inl (nI ((ba + rb) - 1)), .inr (.inr (some (m + 1)))], Hsa)) (C := []) rfl trivial ?_
    refine mw_cIe (fun _ => rfl) (show mu_is Hsa (some (m + 1)) 10 from ((ua.1.1.w (md_w0 ua.2)).1)) (ua.getr (d := (d + 4)) da (j := 0) (by decide) rfl (nI ((ba + rb) - 1)) (c := 0) (by decide)) ?_
    rw [show (tget (Va.1 0) (nI ((ba + rb) - 1)) 0) = (nI (oc Y (ba + nn))) from ((congrArg (fun z => tget z (nI ((ba + rb) - 1)) 0) (show Va.1 0 = (U.1 0) from (zza.t 0 rfl))).trans (tget_nI (by first | omega | decide))).trans (by rw [hj0U, show (ba + rb) - 1 = ba + nn by omega]; exact oc_w hD.1 (by omega))]
    refine mw_go mu_g394 (k := 1) (f1 := (141, [(4, .inl (nI (ba + rb))), (3, .inl (nI w)), (0, .inr (.inr (some 129))), (1, .inl (nI ba)), (2, .inl (nI bi))], [.inl (6 : Int32), .inl (nI (oc Y (ba + nn)))], Hsa)) (C := []) rfl trivial ?_
    refine mw_if (P := (nI (oc Y (ba + nn))) = (6 : Int32)) (a := 144) (b := 169) (fun _ => rfl) trivial (fun h9 => ?_) (fun h9 => ?_)
    · -- 144: (nI (oc Y (ba + nn))) = (6 : Int32)
      have nh9 : (oc Y (ba + nn)) = 6 := (nI_eq (by omega) (by omega)).mp (show nI (oc Y (ba + nn)) = nI 6 from h9)
      refine mw_go mu_g394 (k := 2) (f1 := (148, [(4, .inl (nI (ba + rb))), (3, .inl (nI w)), (0, .inr (.inr (some 129))), (1, .inl (nI ba)), (2, .inl (nI bi))], [.inr (.inr (mu_r Hsa 129 1))], Hsa)) (C := [mu_is Hsa (some 129) 9]) rfl (show mu_is Hsa (some 129) 9 from (ua.1.1.is rfl)) ?_
      rw [(ua.1.1.r (p := 129) (j := 1) (q := 130) rfl)]
      refine mw_go mu_g394 (k := 1) (f1 := (151, [(4, .inl (nI (ba + rb))), (3, .inl (nI w)), (0, .inr (.inr (some 129))), (1, .inl (nI ba)), (2, .inl (nI bi))], [.inl (mu_i Hsa 130 2)], Hsa)) (C := [mu_is Hsa (some 130) 10]) rfl (show mu_is Hsa (some 130) 10 from (ua.1.1.is rfl)) ?_
      rw [(show mu_i Hsa 130 2 = (nI (U.1 24).1) from (ua.size da (j := 24) (by decide) rfl).trans (congrArg (fun z => nI z.1) (show Va.1 24 = (U.1 24) from (zza.t 24 rfl))))]
      refine mw_go mu_g394 (k := 2) (f1 := (155, [(4, .inl (nI (ba + rb))), (3, .inl (nI w)), (0, .inr (.inr (some 129))), (1, .inl (nI ba)), (2, .inl (nI bi))], [.inr (.inr (mu_r Hsa 129 3)), .inl (nI (U.1 24).1)], Hsa)) (C := [mu_is Hsa (some 129) 9]) rfl (show mu_is Hsa (some 129) 9 from (ua.1.1.is rfl)) ?_
      rw [(ua.1.1.r (p := 129) (j := 3) (q := 132) rfl)]
      refine mw_go mu_g394 (k := 1) (f1 := (158, [(4, .inl (nI (ba + rb))), (3, .inl (nI w)), (0, .inr (.inr (some 129))), (1, .inl (nI ba)), (2, .inl (nI bi))], [.inl (mu_i Hsa 132 2), .inl (nI (U.1 24).1)], Hsa)) (C := [mu_is Hsa (some 132) 10]) rfl (show mu_is Hsa (some 132) 10 from (ua.1.1.is rfl)) ?_
      rw [(show mu_i Hsa 132 2 = (nI (Va.1 25).1) from (ua.size da (j := 25) (by decide) rfl).trans (congrArg (fun z => nI z.1) (show Va.1 25 = (Va.1 25) from rfl)))]
      refine mw_go mu_g394 (k := 1) (f1 := (159, [(4, .inl (nI (ba + rb))), (3, .inl (nI w)), (0, .inr (.inr (some 129))), (1, .inl (nI ba)), (2, .inl (nI bi))], [.inl ((nI (U.1 24).1) + (nI (Va.1 25).1))], Hsa)) (C := []) rfl trivial ?_
      rw [(show ((nI (U.1 24).1) + (nI (Va.1 25).1)) = (nI (((U.1 24).1) + ((Va.1 25).1))) from (nI_add ((U.1 24).1) ((Va.1 25).1)))]
      refine mw_go mu_g394 (k := 1) (f1 := (162, [(4, .inl (nI (ba + rb))), (3, .inl (nI w)), (0, .inr (.inr (some 129))), (1, .inl (nI ba)), (2, .inl (nI bi))], [.inl (2048 : Int32), .inl (nI (((U.1 24).1) + ((Va.1 25).1)))], Hsa)) (C := []) rfl trivial ?_
      refine mw_if (P := (nI (((U.1 24).1) + ((Va.1 25).1))) < (2048 : Int32)) (a := 165) (b := 169) (fun _ => rfl) trivial (fun h10 => ?_) (fun h10 => ?_)
      · -- 165: (nI (((U.1 24).1) + ((Va.1 25).1))) < (2048 : Int32)
        have nh10 : (((U.1 24).1) + ((Va.1 25).1)) < 2048 := (nI_ltI (by omega) (by omega)).mp (show nI (((U.1 24).1) + ((Va.1 25).1)) < nI 2048 from h10)
        refine mw_go mu_g394 (k := 3) (f1 := (172, [(5, .inl (1 : Int32)), (4, .inl (nI (ba + rb))), (3, .inl (nI w)), (0, .inr (.inr (some 129))), (1, .inl (nI ba)), (2, .inl (nI bi))], [], Hsa)) (C := []) rfl trivial ?_
        refine mw_go mu_g394 (k := 1) (f1 := (174, [(5, .inl (1 : Int32)), (4, .inl (nI (ba + rb))), (3, .inl (nI w)), (0, .inr (.inr (some 129))), (1, .inl (nI ba)), (2, .inl (nI bi))], [.inl (1 : Int32)], Hsa)) (C := []) rfl trivial ?_
        refine mw_if (P := (1 : Int32) = 0) (a := 194) (b := 177) (fun _ => rfl) trivial (fun h11 => absurd h11 (by decide)) (fun h11 => ?_)
        refine mw_go mu_g394 (k := 2) (f1 := (181, [(5, .inl (1 : Int32)), (4, .inl (nI (ba + rb))), (3, .inl (nI w)), (0, .inr (.inr (some 129))), (1, .inl (nI ba)), (2, .inl (nI bi))], [.inr (.inr (mu_r Hsa 129 0))], Hsa)) (C := [mu_is Hsa (some 129) 9]) rfl (show mu_is Hsa (some 129) 9 from (ua.1.1.is rfl)) ?_
        rw [(ua.1.1.r (p := 129) (j := 0) (q := 99) rfl)]
        obtain ⟨j, hj1, hj2, hj3, hj4, hj5, hwa1, hwa2, hxx⟩ := or_split2 (U := U) (f := f) (P := P) (od := od) (a := ba) (n := nn) (i := bi) hK.1 w3 hwq (by omega)
        refine mw_go mu_g394 (k := 1) (f1 := (184, [(5, .inl (1 : Int32)), (4, .inl (nI (ba + rb))), (3, .inl (nI w)), (0, .inr (.inr (some 129))), (1, .inl (nI ba)), (2, .inl (nI bi))], [.inr (.inr (mu_r Hsa 99 0))], Hsa)) (C := [mu_is Hsa (some 99) 13]) rfl (show mu_is Hsa (some 99) 13 from (ua.1.1.is rfl)) ?_
        rw [(show mu_r Hsa 99 0 = (some m) from (ud_q (U := Va) (m := m) (P := 99) (j := 0) da rfl).trans ((zza.r 99 0 rfl).trans hmo))]
        refine mw_go mu_g394 (k := 3) (f1 := (188, [(5, .inl (1 : Int32)), (4, .inl (nI (ba + rb))), (3, .inl (nI w)), (0, .inr (.inr (some 129))), (1, .inl (nI ba)), (2, .inl (nI bi))], [.inl ((nI (ba + rb)) - (2 : Int32)), .inr (.inr (some m))], Hsa)) (C := []) rfl trivial ?_
        rw [(show ((nI (ba + rb)) - (2 : Int32)) = (nI ((ba + rb) - 2)) from (nI_sub (a := ba + rb) (b := 2) (by omega)))]
        refine mw_cIe (fun _ => rfl) (show mu_is Hsa (some m) 6 from (show mu_is Hsa (some m) 6 from gi_im ua.1.1 ua.2)) (by have y := um_start (d := (d + 3)) (a := ba) (n := nn) (j := j) ua da (show Va.1 0 = Y 0 from ((zza.t 0 rfl)).trans hj0U) hCc (fun q hq => rg_pl hwq.1 q (by omega)) (by omega) (by omega) (by omega) hj2 hj4 hj5; rw [show ba + nn - 1 = (ba + rb) - 2 by omega] at y; exact y) ?_
        refine mw_go mu_g394 (k := 3) (f1 := (199, [(6, .inl (nI (ba + j))), (5, .inl (1 : Int32)), (4, .inl (nI (ba + rb))), (3, .inl (nI w)), (0, .inr (.inr (some 129))), (1, .inl (nI ba)), (2, .inl (nI bi))], [.inl (1 : Int32)], Hsa)) (C := []) rfl trivial ?_
        refine mw_if (P := (1 : Int32) = 0) (a := 209) (b := 202) (fun _ => rfl) trivial (fun h13 => absurd h13 (by decide)) (fun h13 => ?_)
        refine mw_go mu_g394 (k := 3) (f1 := (206, [(6, .inl (nI (ba + j))), (5, .inl (1 : Int32)), (4, .inl (nI (ba + rb))), (3, .inl (nI w)), (0, .inr (.inr (some 129))), (1, .inl (nI ba)), (2, .inl (nI bi))], [.inl ((nI (ba + rb)) - (1 : Int32))], Hsa)) (C := []) rfl trivial ?_
        rw [(show ((nI (ba + rb)) - (1 : Int32)) = (nI ((ba + rb) - 1)) from (nI_sub (a := ba + rb) (b := 1) (by omega)))]
        refine mw_go mu_g394 (k := 4) (f1 := (217, [(7, .inl (nI ((ba + rb) - 1))), (6, .inl (nI (ba + j))), (5, .inl (1 : Int32)), (4, .inl (nI (ba + rb))), (3, .inl (nI w)), (0, .inr (.inr (some 129))), (1, .inl (nI ba)), (2, .inl (nI bi))], [.inr (.inr (mu_r Hsa 129 3))], Hsa)) (C := [mu_is Hsa (some 129) 9]) rfl (show mu_is Hsa (some 129) 9 from (ua.1.1.is rfl)) ?_
        rw [(ua.1.1.r (p := 129) (j := 3) (q := 132) rfl)]
        refine mw_go mu_g394 (k := 2) (f1 := (221, [(7, .inl (nI ((ba + rb) - 1))), (6, .inl (nI (ba + j))), (5, .inl (1 : Int32)), (4, .inl (nI (ba + rb))), (3, .inl (nI w)), (0, .inr (.inr (some 129))), (1, .inl (nI ba)), (2, .inl (nI bi))], [.inl (mu_i Hsa 129 22), .inr (.inr (some 132))], Hsa)) (C := [mu_is Hsa (some 129) 9]) rfl (show mu_is Hsa (some 129) 9 from (ua.1.1.is rfl)) ?_
        rw [(show mu_i Hsa 129 22 = (nI q) from (ud_i (U := Va) (m := m) (P := 129) (j := 22) da rfl).trans ((zza.i 129 22 rfl).trans h22U))]
        refine mw_go mu_g394 (k := 2) (f1 := (224, [(7, .inl (nI ((ba + rb) - 1))), (6, .inl (nI (ba + j))), (5, .inl (1 : Int32)), (4, .inl (nI (ba + rb))), (3, .inl (nI w)), (0, .inr (.inr (some 129))), (1, .inl (nI ba)), (2, .inl (nI bi))], [.inl (nI (ba + j)), .inl (1 : Int32), .inl (nI q), .inr (.inr (some 132))], Hsa)) (C := []) rfl trivial ?_
        refine mw_cV (fun _ => rfl) (show mu_is Hsa (some 132) 10 from (ua.1.1.is rfl)) (ua.setr (C := C) (d := (d + 4)) da (j := 25) (Or.inr ⟨by decide, by decide⟩) rfl (nI q) (nI (ba + j)) (c := 1) (by decide)) (fun Q14 q14 => ?_)
        obtain ⟨u14, r14, d14⟩ := q14
        have ht14 : ur m C H Q14 := hta.trans r14
        have qf14 : uq F394 U (upT Va (ax 25 Va.1 (nI q) 1 (nI (ba + j)))) := qfa.ax rfl
        obtain ⟨X1, hX1⟩ : ∃ X, X = (upT Va (ax 25 Va.1 (nI q) 1 (nI (ba + j)))) := ⟨_, rfl⟩
        rw [← hX1] at d14 qf14
        have zX1 : uq F394w Va X1 := by rw [hX1]; exact ((uq.refl F394w Va).T (fun q hq => by first | exact ax_ne (in1_ne rfl hq) | exact ap_ne (in1_ne rfl hq) | exact fu_ne _ _ (in1_ne rfl hq)))
        have hRG1 : RLG X1 Y es P f od N0 O0 sf nb bo (some q) ba j bi cnt G := hRGa.rest (V := X1) (j := j) (by omega) (Or.inr hwa1) (by rw [hX1]; rfl) (zX1.t 15 rfl) (zX1.t 24 rfl) (zX1.t 27 rfl) (by rw [hX1]; rfl)
        have hn25 : (X1.1 25).1 = (Va.1 25).1 := by rw [hX1]; exact tsx_1
        refine mw_go mu_g394 (k := 4) (f1 := (233, [(7, .inl (nI ((ba + rb) - 1))), (6, .inl (nI (ba + j))), (5, .inl (1 : Int32)), (4, .inl (nI (ba + rb))), (3, .inl (nI w)), (0, .inr (.inr (some 129))), (1, .inl (nI ba)), (2, .inl (nI bi))], [.inl (nI bi), .inl (nI ((ba + rb) - 1)), .inl (nI (ba + j)), .inr (.inr (some 129))], Q14)) (C := []) rfl trivial ?_
        have hspb : sp Y (im Y bi + 1) 6 ≤ 67108864 := by
          obtain ⟨-, -, -, hkM, -⟩ := hD.1.inst w3
          obtain ⟨lr1, lr2, lr3⟩ := hD.1.le hkM (c := 6) (j := 9) (by decide) (by decide) rfl
          omega
        refine mw_cI (fun _ => rfl) (show mu_is Q14 (some 129) 9 from (u14.1.1.is rfl)) (by have y := rl_branch (d := (d + 1)) (Y := Y) (a := (ba + j)) (n := (nn - j)) (i := bi) (nb := nb) (pa := pa) (pn := pn) u14 d14 (show (X1.2.2.2.1 99 0) = some m from ((zX1.r 99 0 rfl).trans ((zza.r 99 0 rfl).trans hmo))) (hK.q (F := F394) (show uq F394 U X1 from (((uq.refl F394 U).tr zza rfl).tr zX1 rfl)) rfl rfl).1.2.2.1 (show X1.1 0 = Y 0 from (((zX1.t 0 rfl).trans (zza.t 0 rfl))).trans hj0U) (show X1.1 9 = Y 9 from (((zX1.t 9 rfl).trans (zza.t 9 rfl))).trans hj9U) hD.1 hCc w3 hY11 (rgs_of hwa2.1) (by omega) hspb (fun r r1 r2 => by obtain ⟨y1, y2, y3⟩ := hX.2.1 r r1 r2; exact ⟨by rw [(show (X1.1 27) = (U.1 27) from ((zX1.t 27 rfl).trans (zza.t 27 rfl)))]; exact y1, by rw [(show (X1.1 27) = (U.1 27) from ((zX1.t 27 rfl).trans (zza.t 27 rfl)))]; exact y2, _, rgs_of y3.1⟩) (by rw [(show (X1.1 27) = (U.1 27) from ((zX1.t 27 rfl).trans (zza.t 27 rfl)))]; exact hX.1.2.2) ⟨by omega, by omega⟩; rw [show (ba + j) + (nn - j) = (ba + rb) - 1 by omega] at y; exact y) (fun x15 H15 q15 => ?_)
        rcases q15 with ⟨⟨rfl, hal⟩ | rfl, hHe⟩
        · -- (1 : Int32)
          rw [hHe]
          refine mw_if (P := (1 : Int32) = 0) (a := 239) (b := 304) (fun _ => rfl) trivial (fun h16 => absurd h16 (by decide)) (fun h16 => ?_)
          refine mw_go mu_g394 (k := 1) (f1 := (307, [(3, .inl ((nI w) + 1)), (7, .inl (nI ((ba + rb) - 1))), (6, .inl (nI (ba + j))), (5, .inl (1 : Int32)), (4, .inl (nI (ba + rb))), (0, .inr (.inr (some 129))), (1, .inl (nI ba)), (2, .inl (nI bi))], [], Q14)) (C := []) rfl trivial ?_
          rw [(show ((nI w) + 1) = (nI (w + 1)) from (nI_add w 1))]
          refine mw_go mu_g394 (k := 1) (f1 := (84, [(3, .inl (nI (w + 1))), (7, .inl (nI ((ba + rb) - 1))), (6, .inl (nI (ba + j))), (5, .inl (1 : Int32)), (4, .inl (nI (ba + rb))), (0, .inr (.inr (some 129))), (1, .inl (nI ba)), (2, .inl (nI bi))], [], Q14)) (C := []) rfl trivial ?_
          exact mw_sub (by simp) (iha (w + 1, Q14) ⟨u14, ht14, (show uq F394a U (ud m Q14) from by rw [d14]; exact (zza.tr zX1 rfl)), (show ∃ rb, (w + 1) + rb ≤ bn ∧ RLG (ud m Q14) Y es P f od N0 O0 sf nb bo (some q) ba rb bi cnt G ∧ (∀ s u, trs Y U f P od bi ba n0 s u = 1 ↔ (∃ b, 1 ≤ b ∧ b < nb ∧ trs Y U f P od bi (pa b) (pn b) s u = 1) ∨ (¬ rb = 0 ∧ trs Y U f P od bi ba rb s u = 1)) from by rw [d14]; exact (by obtain ⟨k, k1, k2, k3, k4⟩ := hal; exact ⟨j, by omega, hRG1, fun s u => or_skip (hxr s u) ((fun s u => (by rw [hnn, hxx s u]; exact ⟨fun y => y.2.elim (fun y => Or.inr ⟨by omega, y⟩) Or.inl, fun y => ⟨by omega, y.elim Or.inr (fun y => Or.inl y.2)⟩⟩ : (¬ rb = 0 ∧ trs Y U f P od bi ba rb s u = 1) ↔ trs Y U f P od bi (ba + j) (nn - j) s u = 1 ∨ (¬ j = 0 ∧ trs Y U f P od bi ba j s u = 1))) s u) k1 k2 (by rw [← k4.trsq, k3])⟩))⟩ (by show 65536 - (w + 1) < 65536 - w; omega))
        · -- (0 : Int32)
          rw [hHe]
          refine mw_if (P := (0 : Int32) = 0) (a := 239) (b := 304) (fun _ => rfl) trivial (fun h17 => ?_) (fun h17 => absurd (by decide) h17)
          refine mw_go mu_g394 (k := 2) (f1 := (243, [(7, .inl (nI ((ba + rb) - 1))), (6, .inl (nI (ba + j))), (5, .inl (1 : Int32)), (4, .inl (nI (ba + rb))), (3, .inl (nI w)), (0, .inr (.inr (some 129))), (1, .inl (nI ba)), (2, .inl (nI bi))], [.inr (.inr (mu_r Q14 129 23))], Q14)) (C := [mu_is Q14 (some 129) 9]) rfl (show mu_is Q14 (some 129) 9 from (u14.1.1.is rfl)) ?_
          rw [(u14.1.1.r (p := 129) (j := 23) (q := 167) rfl)]
          refine mw_go mu_g394 (k := 2) (f1 := (247, [(7, .inl (nI ((ba + rb) - 1))), (6, .inl (nI (ba + j))), (5, .inl (1 : Int32)), (4, .inl (nI (ba + rb))), (3, .inl (nI w)), (0, .inr (.inr (some 129))), (1, .inl (nI ba)), (2, .inl (nI bi))], [.inr (.inr (mu_r Q14 129 1)), .inr (.inr (some 167))], Q14)) (C := [mu_is Q14 (some 129) 9]) rfl (show mu_is Q14 (some 129) 9 from (u14.1.1.is rfl)) ?_
          rw [(u14.1.1.r (p := 129) (j := 1) (q := 130) rfl)]
          refine mw_go mu_g394 (k := 1) (f1 := (250, [(7, .inl (nI ((ba + rb) - 1))), (6, .inl (nI (ba + j))), (5, .inl (1 : Int32)), (4, .inl (nI (ba + rb))), (3, .inl (nI w)), (0, .inr (.inr (some 129))), (1, .inl (nI ba)), (2, .inl (nI bi))], [.inl (mu_i Q14 130 2), .inr (.inr (some 167))], Q14)) (C := [mu_is Q14 (some 130) 10]) rfl (show mu_is Q14 (some 130) 10 from (u14.1.1.is rfl)) ?_
          rw [(show mu_i Q14 130 2 = (nI (U.1 24).1) from (u14.size d14 (j := 24) (by decide) rfl).trans (congrArg (fun z => nI z.1) (show X1.1 24 = (U.1 24) from ((zX1.t 24 rfl).trans (zza.t 24 rfl)))))]
          refine mw_go mu_g394 (k := 2) (f1 := (254, [(7, .inl (nI ((ba + rb) - 1))), (6, .inl (nI (ba + j))), (5, .inl (1 : Int32)), (4, .inl (nI (ba + rb))), (3, .inl (nI w)), (0, .inr (.inr (some 129))), (1, .inl (nI ba)), (2, .inl (nI bi))], [.inr (.inr (mu_r Q14 129 3)), .inl (nI (U.1 24).1), .inr (.inr (some 167))], Q14)) (C := [mu_is Q14 (some 129) 9]) rfl (show mu_is Q14 (some 129) 9 from (u14.1.1.is rfl)) ?_
          rw [(u14.1.1.r (p := 129) (j := 3) (q := 132) rfl)]
          refine mw_go mu_g394 (k := 1) (f1 := (257, [(7, .inl (nI ((ba + rb) - 1))), (6, .inl (nI (ba + j))), (5, .inl (1 : Int32)), (4, .inl (nI (ba + rb))), (3, .inl (nI w)), (0, .inr (.inr (some 129))), (1, .inl (nI ba)), (2, .inl (nI bi))], [.inl (mu_i Q14 132 2), .inl (nI (U.1 24).1), .inr (.inr (some 167))], Q14)) (C := [mu_is Q14 (some 132) 10]) rfl (show mu_is Q14 (some 132) 10 from (u14.1.1.is rfl)) ?_
          rw [(show mu_i Q14 132 2 = (nI (Va.1 25).1) from (u14.size d14 (j := 25) (by decide) rfl).trans (congrArg nI ((congrArg Prod.fst (show X1.1 25 = (X1.1 25) from rfl)).trans hn25)))]
          refine mw_go mu_g394 (k := 2) (f1 := (261, [(7, .inl (nI ((ba + rb) - 1))), (6, .inl (nI (ba + j))), (5, .inl (1 : Int32)), (4, .inl (nI (ba + rb))), (3, .inl (nI w)), (0, .inr (.inr (some 129))), (1, .inl (nI ba)), (2, .inl (nI bi))], [.inl (nI ((ba + rb) - 1)), .inl (nI (ba + j)), .inl (nI (Va.1 25).1), .inl (nI (U.1 24).1), .inr (.inr (some 167))], Q14)) (C := []) rfl trivial ?_
          refine mw_cI (fun _ => rfl) (show mu_is Q14 (some 167) 10 from (u14.1.1.is rfl)) (u14.putr (C := C) (d := (d + 2)) d14 (j := 27) (Or.inr ⟨by decide, by decide⟩) rfl (nI (U.1 24).1) (nI (Va.1 25).1) (nI (ba + j)) (nI ((ba + rb) - 1)) (by show 2 * (((X1.1 27).1 + 1) * 5) + 5 ≤ C 27; rw [show (X1.1 27).1 = nb by rw [(show (X1.1 27) = (U.1 27) from ((zX1.t 27 rfl).trans (zza.t 27 rfl)))]; exact hX.1.2.2]; have y := hX.2.2.1.2.2; omega) (by omega)) (fun x18 Q18 q18 => ?_)
          obtain ⟨rfl, u18, r18, d18⟩ := q18
          have ht18 : ur m C H Q18 := ht14.trans r18
          have qf18 : uq F394 U (upT X1 (ap 27 X1.1 (nI (U.1 24).1) (nI (Va.1 25).1) (nI (ba + j)) (nI ((ba + rb) - 1)))) := qf14.ap rfl
          refine mw_go mu_g394 (k := 1) (f1 := (265, [(7, .inl (nI ((ba + rb) - 1))), (6, .inl (nI (ba + j))), (5, .inl (1 : Int32)), (4, .inl (nI (ba + rb))), (3, .inl (nI w)), (0, .inr (.inr (some 129))), (1, .inl (nI ba)), (2, .inl (nI bi))], [], Q18)) (C := []) rfl trivial ?_
          obtain ⟨X2, hX2⟩ : ∃ X, X = (upT X1 (ap 27 X1.1 (nI (U.1 24).1) (nI (Va.1 25).1) (nI (ba + j)) (nI ((ba + rb) - 1)))) := ⟨_, rfl⟩
          rw [← hX2] at d18 qf18
          have zX2 : uq F394b X1 X2 := by rw [hX2]; exact ((uq.refl F394b X1).T (fun q hq => by first | exact ax_ne (in1_ne rfl hq) | exact ap_ne (in1_ne rfl hq) | exact fu_ne _ _ (in1_ne rfl hq)))
          refine mw_go mu_g394 (k := 2) (f1 := (269, [(7, .inl (nI ((ba + rb) - 1))), (6, .inl (nI (ba + j))), (5, .inl (1 : Int32)), (4, .inl (nI (ba + rb))), (3, .inl (nI w)), (0, .inr (.inr (some 129))), (1, .inl (nI ba)), (2, .inl (nI bi))], [.inr (.inr (mu_r Q18 129 14))], Q18)) (C := [mu_is Q18 (some 129) 9]) rfl (show mu_is Q18 (some 129) 9 from (u18.1.1.is rfl)) ?_
          rw [(u18.1.1.r (p := 129) (j := 14) (q := 142) rfl)]
          refine mw_go mu_g394 (k := 3) (f1 := (275, [(7, .inl (nI ((ba + rb) - 1))), (6, .inl (nI (ba + j))), (5, .inl (1 : Int32)), (4, .inl (nI (ba + rb))), (3, .inl (nI w)), (0, .inr (.inr (some 129))), (1, .inl (nI ba)), (2, .inl (nI bi))], [.inr (.inr (mu_r Q18 129 14)), .inl (14 : Int32), .inr (.inr (some 142))], Q18)) (C := [mu_is Q18 (some 129) 9]) rfl (show mu_is Q18 (some 129) 9 from (u18.1.1.is rfl)) ?_
          rw [(u18.1.1.r (p := 129) (j := 14) (q := 142) rfl)]
          refine mw_go mu_g394 (k := 2) (f1 := (278, [(7, .inl (nI ((ba + rb) - 1))), (6, .inl (nI (ba + j))), (5, .inl (1 : Int32)), (4, .inl (nI (ba + rb))), (3, .inl (nI w)), (0, .inr (.inr (some 129))), (1, .inl (nI ba)), (2, .inl (nI bi))], [.inl (14 : Int32), .inl (0 : Int32), .inr (.inr (some 142)), .inl (14 : Int32), .inr (.inr (some 142))], Q18)) (C := []) rfl trivial ?_
          refine mw_copyI (t := 0) rfl (show mu_is Q18 (some 142) 100 from (u18.iA d18 rfl rfl ((ud_q (m := m) (P := 129) (j := 14) d18 rfl).symm.trans (u18.1.1.r (p := 129) (j := 14) (q := 142) rfl)))) (show mu_is Q18 (some 142) 100 from (u18.iA d18 rfl rfl ((ud_q (m := m) (P := 129) (j := 14) d18 rfl).symm.trans (u18.1.1.r (p := 129) (j := 14) (q := 142) rfl)))) (by decide) (by decide) (by decide) (by decide) (by rw [show mu_n Q18 (mu_p (some 142)) = 28 from (u18.1.1.a (p := 142) (x := (100, 28)) rfl).2, (show (14 : Int32).toNatClampNeg = 14 from by decide)]; omega) (by rw [show mu_n Q18 (mu_p (some 142)) = 28 from (u18.1.1.a (p := 142) (x := (100, 28)) rfl).2, (show (0 : Int32).toNatClampNeg = 0 from by decide), (show (14 : Int32).toNatClampNeg = 14 from by decide)]; omega) (fun z => by cases z) (by decide) ?_
          rw [(show (14 : Int32).toNatClampNeg = 14 from by decide), (show (0 : Int32).toNatClampNeg = 0 from by decide)]
          show mu_W _ _ (281, [(7, .inl (nI ((ba + rb) - 1))), (6, .inl (nI (ba + j))), (5, .inl (1 : Int32)), (4, .inl (nI (ba + rb))), (3, .inl (nI w)), (0, .inr (.inr (some 129))), (1, .inl (nI ba)), (2, .inl (nI bi))], [], (mu_cpi Q18 142 14 142 0 14)) _
          obtain ⟨u19, r19, d19⟩ : um m (mu_cpi Q18 142 14 142 0 14) ∧ ur m C Q18 (mu_cpi Q18 142 14 142 0 14) ∧ ud m (mu_cpi Q18 142 14 142 0 14) = (upF X2 129 14 0 (fun i => (X2.2.2.1 129 14).2 (14 + i)) 14) := u18.cA (C := C) d18 rfl rfl ((ud_q (m := m) (P := 129) (j := 14) d18 rfl).symm.trans (u18.1.1.r (p := 129) (j := 14) (q := 142) rfl)) rfl rfl ((ud_q (m := m) (P := 129) (j := 14) d18 rfl).symm.trans (u18.1.1.r (p := 129) (j := 14) (q := 142) rfl))
          generalize (mu_cpi Q18 142 14 142 0 14) = Q19 at u19 r19 d19 ⊢
          have qf19 : uq F394 U (upF X2 129 14 0 (fun i => (X2.2.2.1 129 14).2 (14 + i)) 14) := qf18.F rfl
          have ht19 : ur m C H Q19 := ht18.trans r19
          obtain ⟨X3, hX3⟩ : ∃ X, X = (upF X2 129 14 0 (fun i => (X2.2.2.1 129 14).2 (14 + i)) 14) := ⟨_, rfl⟩
          rw [← hX3] at d19 qf19
          have zX3 : uq F394c X2 X3 := by rw [hX3]; exact ((uq.refl F394c X2).F rfl)
          refine mw_go mu_g394 (k := 2) (f1 := (285, [(7, .inl (nI ((ba + rb) - 1))), (6, .inl (nI (ba + j))), (5, .inl (1 : Int32)), (4, .inl (nI (ba + rb))), (3, .inl (nI w)), (0, .inr (.inr (some 129))), (1, .inl (nI ba)), (2, .inl (nI bi))], [.inr (.inr (mu_r Q19 129 2))], Q19)) (C := [mu_is Q19 (some 129) 9]) rfl (show mu_is Q19 (some 129) 9 from (u19.1.1.is rfl)) ?_
          rw [(u19.1.1.r (p := 129) (j := 2) (q := 118) rfl)]
          refine mw_cV (fun _ => rfl) (show mu_is Q19 (some 118) 10 from (u19.1.1.is rfl)) (u19.clearr (C := C) (d := (d + 4)) d19 (j := 23) (Or.inr ⟨by decide, by decide⟩) rfl) (fun Q20 q20 => ?_)
          obtain ⟨u20, r20, d20⟩ := q20
          have ht20 : ur m C H Q20 := ht19.trans r20
          have qf20 : uq F394 U (upT X3 (ac 23 X3.1 0)) := qf19.ac rfl
          obtain ⟨X4, hX4⟩ : ∃ X, X = (upT X3 (ac 23 X3.1 0)) := ⟨_, rfl⟩
          rw [← hX4] at d20 qf20
          have zX4 : uq F394p X3 X4 := by rw [hX4]; exact ((uq.refl F394p X3).T (fun q hq => by first | exact ax_ne (in1_ne rfl hq) | exact ap_ne (in1_ne rfl hq) | exact fu_ne _ _ (in1_ne rfl hq)))
          refine mw_go mu_g394 (k := 2) (f1 := (292, [(7, .inl (nI ((ba + rb) - 1))), (6, .inl (nI (ba + j))), (5, .inl (1 : Int32)), (4, .inl (nI (ba + rb))), (3, .inl (nI w)), (0, .inr (.inr (some 129))), (1, .inl (nI ba)), (2, .inl (nI bi))], [.inr (.inr (mu_r Q20 129 2))], Q20)) (C := [mu_is Q20 (some 129) 9]) rfl (show mu_is Q20 (some 129) 9 from (u20.1.1.is rfl)) ?_
          rw [(u20.1.1.r (p := 129) (j := 2) (q := 118) rfl)]
          refine mw_go mu_g394 (k := 4) (f1 := (298, [(7, .inl (nI ((ba + rb) - 1))), (6, .inl (nI (ba + j))), (5, .inl (1 : Int32)), (4, .inl (nI (ba + rb))), (3, .inl (nI w)), (0, .inr (.inr (some 129))), (1, .inl (nI ba)), (2, .inl (nI bi))], [.inl (-1 : Int32), .inl (nI bi), .inl (nI ((ba + rb) - 1)), .inl (nI (ba + j)), .inr (.inr (some 118))], Q20)) (C := []) rfl trivial ?_
          refine mw_cI (fun _ => rfl) (show mu_is Q20 (some 118) 10 from (u20.1.1.is rfl)) (u20.putr (C := C) (d := (d + 2)) d20 (j := 23) (Or.inr ⟨by decide, by decide⟩) rfl (nI (ba + j)) (nI ((ba + rb) - 1)) (nI bi) (-1 : Int32) (by show 2 * (((X4.1 23).1 + 1) * 5) + 5 ≤ C 23; rw [show (X4.1 23).1 = 0 from by rw [hX4]; rfl]; omega) (by omega)) (fun x21 Q21 q21 => ?_)
          obtain ⟨rfl, u21, r21, d21⟩ := q21
          have ht21 : ur m C H Q21 := ht20.trans r21
          have qf21 : uq F394 U (upT X4 (ap 23 X4.1 (nI (ba + j)) (nI ((ba + rb) - 1)) (nI bi) (-1 : Int32))) := qf20.ap rfl
          refine mw_go mu_g394 (k := 1) (f1 := (302, [(7, .inl (nI ((ba + rb) - 1))), (6, .inl (nI (ba + j))), (5, .inl (1 : Int32)), (4, .inl (nI (ba + rb))), (3, .inl (nI w)), (0, .inr (.inr (some 129))), (1, .inl (nI ba)), (2, .inl (nI bi))], [], Q21)) (C := []) rfl trivial ?_
          obtain ⟨X5, hX5⟩ : ∃ X, X = (upT X4 (ap 23 X4.1 (nI (ba + j)) (nI ((ba + rb) - 1)) (nI bi) (-1 : Int32))) := ⟨_, rfl⟩
          rw [← hX5] at d21 qf21
          have zX5 : uq F394p X4 X5 := by rw [hX5]; exact ((uq.refl F394p X4).T (fun q hq => by first | exact ax_ne (in1_ne rfl hq) | exact ap_ne (in1_ne rfl hq) | exact fu_ne _ _ (in1_ne rfl hq)))
          refine mw_go mu_g394 (k := 1) (f1 := (303, [(7, .inl (nI ((ba + rb) - 1))), (6, .inl (nI (ba + j))), (5, .inl (1 : Int32)), (4, .inl (nI (ba + rb))), (3, .inl (nI w)), (0, .inr (.inr (some 129))), (1, .inl (nI ba)), (2, .inl (nI bi))], [.inl (1 : Int32)], Q21)) (C := []) rfl trivial ?_
          have h27w : X2.1 27 = tput 5 (X1.1 27) (nI (X1.1 24).1) (nI (X1.1 25).1) (nI (ba + j)) (nI ((ba + j) + (nn - j))) := by rw [show (X1.1 24).1 = (U.1 24).1 by rw [show X1.1 24 = U.1 24 from ((zX1.t 24 rfl).trans (zza.t 24 rfl))], hn25, hX2, show (ba + j) + (nn - j) = (ba + rb) - 1 by omega]; rfl
          obtain ⟨bo', hRn⟩ := hRG1.more (V := X2) (by omega) h27w (zX2.t 15 rfl) (zX2.t 24 rfl) (zX2.t 25 rfl) (by rw [hX2]; rfl)
          have hRn2 := ((hRn.q zX3 rfl rfl).q zX4 rfl rfl).q zX5 rfl rfl
          have e23 : X5.1 23 = tput 5 (X4.1 23) (nI (ba + j)) (nI ((ba + j) + (nn - j))) (nI bi) (-1) := by rw [hX5, show (ba + j) + (nn - j) = (ba + rb) - 1 by omega]; rfl
          have e23s : (X4.1 23).1 = 0 := by rw [hX4]; rfl
          obtain ⟨hPC1, hPN1⟩ := one_piece (U := U) (f := f) (P := P) (od := od) (T := X5.1 23) (a := (ba + j)) (n := (nn - j)) (i := bi) hwa2 w3 (by omega) hY11 (by rw [e23]; exact congrArg (fun y => y + 1) e23s) (by rw [e23]; exact tpo_new e23s.symm (by decide)) (by rw [e23]; exact tpo_new e23s.symm (by decide)) (by rw [e23]; exact tpo_new e23s.symm (by decide))
          have e27 : X5.1 27 = X2.1 27 := (zX5.t 27 rfl).trans ((zX4.t 27 rfl).trans (zX3.t 27 rfl))
          have e27u : X1.1 27 = U.1 27 := ((zX1.t 27 rfl).trans (zza.t 27 rfl))
          have hn27 : (X1.1 27).1 = nb := by rw [e27u]; exact hX.1.2.2
          have hBX := brx_more (V := X5) (a1 := (ba + j)) (n1 := (nn - j)) (j := j) (PN := PND Y U f P od (X5.1 23)) hX (by rw [(show (X5.2.1 129 22) = (U.2.1 129 22) from ((zX5.i 129 22 rfl).trans ((zX4.i 129 22 rfl).trans ((zX3.i 129 22 rfl).trans ((zX2.i 129 22 rfl).trans ((zX1.i 129 22 rfl).trans (zza.i 129 22 rfl)))))))]; exact hX.1.1) (by rw [e27, h27w, tpo_old (by omega), e27u]) (by rw [e27, h27w]; exact congrArg (fun y => y + 1) hn27) (fun b hb => ⟨by rw [e27, h27w, tpo_old (by omega), e27u], by rw [e27, h27w, tpo_old (by omega), e27u]⟩) (by rw [e27, h27w]; exact tpo_new hn27.symm (by decide)) (by rw [e27, h27w]; exact tpo_new hn27.symm (by decide)) hwa2 (by omega) (by have y := hX.2.2.1.2.2; omega) (by have y := hX.2.2.1.2.2; omega) (fun s u => (hxr s u).trans (or_congr Iff.rfl ((fun s u => (by rw [hnn, hxx s u]; exact ⟨fun y => y.2.elim (fun y => Or.inr ⟨by omega, y⟩) Or.inl, fun y => ⟨by omega, y.elim Or.inr (fun y => Or.inl y.2)⟩⟩ : (¬ rb = 0 ∧ trs Y U f P od bi ba rb s u = 1) ↔ trs Y U f P od bi (ba + j) (nn - j) s u = 1 ∨ (¬ j = 0 ∧ trs Y U f P od bi ba j s u = 1))) s u))) hPN1
          refine mw_of (fun _ => mu_ret rfl (Or.inr rfl) ⟨(1 : Int32), Q21, rfl, u21, ht21, (by rw [d21]; exact qf21), ?_⟩)
          rw [d21]
          exact ⟨hK.q (F := F394) (show uq F394 U X5 from (((((((uq.refl F394 U).tr zza rfl).tr zX1 rfl).tr zX2 rfl).tr zX3 rfl).tr zX4 rfl).tr zX5 rfl)) rfl rfl, Or.inr ⟨rfl, by omega, bo', j, _, _, _, 2047, Or.inl rfl, hRn2.cn (by rw [show X5.1 24 = U.1 24 from ((zX5.t 24 rfl).trans ((zX4.t 24 rfl).trans ((zX3.t 24 rfl).trans ((zX2.t 24 rfl).trans ((zX1.t 24 rfl).trans (zza.t 24 rfl)))))), (show X5.1 25 = X1.1 25 from (zX5.t 25 rfl).trans ((zX4.t 25 rfl).trans ((zX3.t 25 rfl).trans (zX2.t 25 rfl)))), hn25]; omega), (by rw [e23]; exact congrArg (fun y => y + 1) e23s), hPC1, hBX⟩⟩
      · -- 169: not (nI (((U.1 24).1) + ((Va.1 25).1))) < (2048 : Int32)
        have nh10 : ¬ (((U.1 24).1) + ((Va.1 25).1)) < 2048 := fun z => h10 (show nI (((U.1 24).1) + ((Va.1 25).1)) < nI 2048 from (nI_ltI (by omega) (by omega)).mpr z)
        refine mw_go mu_g394 (k := 2) (f1 := (172, [(5, .inl (0 : Int32)), (4, .inl (nI (ba + rb))), (3, .inl (nI w)), (0, .inr (.inr (some 129))), (1, .inl (nI ba)), (2, .inl (nI bi))], [], Hsa)) (C := []) rfl trivial ?_
        refine mw_go mu_g394 (k := 1) (f1 := (174, [(5, .inl (0 : Int32)), (4, .inl (nI (ba + rb))), (3, .inl (nI w)), (0, .inr (.inr (some 129))), (1, .inl (nI ba)), (2, .inl (nI bi))], [.inl (0 : Int32)], Hsa)) (C := []) rfl trivial ?_
        refine mw_if (P := (0 : Int32) = 0) (a := 194) (b := 177) (fun _ => rfl) trivial (fun h22 => ?_) (fun h22 => absurd (by decide) h22)
        refine mw_go mu_g394 (k := 3) (f1 := (199, [(6, .inl (nI ba)), (5, .inl (0 : Int32)), (4, .inl (nI (ba + rb))), (3, .inl (nI w)), (0, .inr (.inr (some 129))), (1, .inl (nI ba)), (2, .inl (nI bi))], [.inl (0 : Int32)], Hsa)) (C := []) rfl trivial ?_
        refine mw_if (P := (0 : Int32) = 0) (a := 209) (b := 202) (fun _ => rfl) trivial (fun h23 => ?_) (fun h23 => absurd (by decide) h23)
        refine mw_go mu_g394 (k := 4) (f1 := (217, [(7, .inl (nI (ba + rb))), (6, .inl (nI ba)), (5, .inl (0 : Int32)), (4, .inl (nI (ba + rb))), (3, .inl (nI w)), (0, .inr (.inr (some 129))), (1, .inl (nI ba)), (2, .inl (nI bi))], [.inr (.inr (mu_r Hsa 129 3))], Hsa)) (C := [mu_is Hsa (some 129) 9]) rfl (show mu_is Hsa (some 129) 9 from (ua.1.1.is rfl)) ?_
        rw [(ua.1.1.r (p := 129) (j := 3) (q := 132) rfl)]
        refine mw_go mu_g394 (k := 2) (f1 := (221, [(7, .inl (nI (ba + rb))), (6, .inl (nI ba)), (5, .inl (0 : Int32)), (4, .inl (nI (ba + rb))), (3, .inl (nI w)), (0, .inr (.inr (some 129))), (1, .inl (nI ba)), (2, .inl (nI bi))], [.inl (mu_i Hsa 129 22), .inr (.inr (some 132))], Hsa)) (C := [mu_is Hsa (some 129) 9]) rfl (show mu_is Hsa (some 129) 9 from (ua.1.1.is rfl)) ?_
        rw [(show mu_i Hsa 129 22 = (nI q) from (ud_i (U := Va) (m := m) (P := 129) (j := 22) da rfl).trans ((zza.i 129 22 rfl).trans h22U))]
        refine mw_go mu_g394 (k := 2) (f1 := (224, [(7, .inl (nI (ba + rb))), (6, .inl (nI ba)), (5, .inl (0 : Int32)), (4, .inl (nI (ba + rb))), (3, .inl (nI w)), (0, .inr (.inr (some 129))), (1, .inl (nI ba)), (2, .inl (nI bi))], [.inl (nI ba), .inl (1 : Int32), .inl (nI q), .inr (.inr (some 132))], Hsa)) (C := []) rfl trivial ?_
        refine mw_cV (fun _ => rfl) (show mu_is Hsa (some 132) 10 from (ua.1.1.is rfl)) (ua.setr (C := C) (d := (d + 4)) da (j := 25) (Or.inr ⟨by decide, by decide⟩) rfl (nI q) (nI ba) (c := 1) (by decide)) (fun Q24 q24 => ?_)
        obtain ⟨u24, r24, d24⟩ := q24
        have ht24 : ur m C H Q24 := hta.trans r24
        have qf24 : uq F394 U (upT Va (ax 25 Va.1 (nI q) 1 (nI ba))) := qfa.ax rfl
        obtain ⟨X1, hX1⟩ : ∃ X, X = (upT Va (ax 25 Va.1 (nI q) 1 (nI ba))) := ⟨_, rfl⟩
        rw [← hX1] at d24 qf24
        have zX1 : uq F394w Va X1 := by rw [hX1]; exact ((uq.refl F394w Va).T (fun q hq => by first | exact ax_ne (in1_ne rfl hq) | exact ap_ne (in1_ne rfl hq) | exact fu_ne _ _ (in1_ne rfl hq)))
        have hRG1 : RLG X1 Y es P f od N0 O0 sf nb bo (some q) ba 0 bi cnt G := hRGa.rest (V := X1) (j := 0) (by omega) (Or.inl rfl) (by rw [hX1]; rfl) (zX1.t 15 rfl) (zX1.t 24 rfl) (zX1.t 27 rfl) (by rw [hX1]; rfl)
        have hn25 : (X1.1 25).1 = (Va.1 25).1 := by rw [hX1]; exact tsx_1
        refine mw_go mu_g394 (k := 4) (f1 := (233, [(7, .inl (nI (ba + rb))), (6, .inl (nI ba)), (5, .inl (0 : Int32)), (4, .inl (nI (ba + rb))), (3, .inl (nI w)), (0, .inr (.inr (some 129))), (1, .inl (nI ba)), (2, .inl (nI bi))], [.inl (nI bi), .inl (nI (ba + rb)), .inl (nI ba), .inr (.inr (some 129))], Q24)) (C := []) rfl trivial ?_
        have hspb : sp Y (im Y bi + 1) 6 ≤ 67108864 := by
          obtain ⟨-, -, -, hkM, -⟩ := hD.1.inst w3
          obtain ⟨lr1, lr2, lr3⟩ := hD.1.le hkM (c := 6) (j := 9) (by decide) (by decide) rfl
          omega
        refine mw_cI (fun _ => rfl) (show mu_is Q24 (some 129) 9 from (u24.1.1.is rfl)) (by have y := rl_branch (d := (d + 1)) (Y := Y) (a := ba) (n := (nn + 1)) (i := bi) (nb := nb) (pa := pa) (pn := pn) u24 d24 (show (X1.2.2.2.1 99 0) = some m from ((zX1.r 99 0 rfl).trans ((zza.r 99 0 rfl).trans hmo))) (hK.q (F := F394) (show uq F394 U X1 from (((uq.refl F394 U).tr zza rfl).tr zX1 rfl)) rfl rfl).1.2.2.1 (show X1.1 0 = Y 0 from (((zX1.t 0 rfl).trans (zza.t 0 rfl))).trans hj0U) (show X1.1 9 = Y 9 from (((zX1.t 9 rfl).trans (zza.t 9 rfl))).trans hj9U) hD.1 hCc w3 hY11 (rgs_of hwq.1) (by omega) hspb (fun r r1 r2 => by obtain ⟨y1, y2, y3⟩ := hX.2.1 r r1 r2; exact ⟨by rw [(show (X1.1 27) = (U.1 27) from ((zX1.t 27 rfl).trans (zza.t 27 rfl)))]; exact y1, by rw [(show (X1.1 27) = (U.1 27) from ((zX1.t 27 rfl).trans (zza.t 27 rfl)))]; exact y2, _, rgs_of y3.1⟩) (by rw [(show (X1.1 27) = (U.1 27) from ((zX1.t 27 rfl).trans (zza.t 27 rfl)))]; exact hX.1.2.2) ⟨by omega, by omega⟩; rw [show ba + (nn + 1) = ba + rb by omega] at y; exact y) (fun x25 H25 q25 => ?_)
        rcases q25 with ⟨⟨rfl, hal⟩ | rfl, hHe⟩
        · -- (1 : Int32)
          rw [hHe]
          refine mw_if (P := (1 : Int32) = 0) (a := 239) (b := 304) (fun _ => rfl) trivial (fun h26 => absurd h26 (by decide)) (fun h26 => ?_)
          refine mw_go mu_g394 (k := 1) (f1 := (307, [(3, .inl ((nI w) + 1)), (7, .inl (nI (ba + rb))), (6, .inl (nI ba)), (5, .inl (0 : Int32)), (4, .inl (nI (ba + rb))), (0, .inr (.inr (some 129))), (1, .inl (nI ba)), (2, .inl (nI bi))], [], Q24)) (C := []) rfl trivial ?_
          rw [(show ((nI w) + 1) = (nI (w + 1)) from (nI_add w 1))]
          refine mw_go mu_g394 (k := 1) (f1 := (84, [(3, .inl (nI (w + 1))), (7, .inl (nI (ba + rb))), (6, .inl (nI ba)), (5, .inl (0 : Int32)), (4, .inl (nI (ba + rb))), (0, .inr (.inr (some 129))), (1, .inl (nI ba)), (2, .inl (nI bi))], [], Q24)) (C := []) rfl trivial ?_
          exact mw_sub (by simp) (iha (w + 1, Q24) ⟨u24, ht24, (show uq F394a U (ud m Q24) from by rw [d24]; exact (zza.tr zX1 rfl)), (show ∃ rb, (w + 1) + rb ≤ bn ∧ RLG (ud m Q24) Y es P f od N0 O0 sf nb bo (some q) ba rb bi cnt G ∧ (∀ s u, trs Y U f P od bi ba n0 s u = 1 ↔ (∃ b, 1 ≤ b ∧ b < nb ∧ trs Y U f P od bi (pa b) (pn b) s u = 1) ∨ (¬ rb = 0 ∧ trs Y U f P od bi ba rb s u = 1)) from by rw [d24]; exact (by obtain ⟨k, k1, k2, k3, k4⟩ := hal; exact ⟨0, by omega, hRG1, fun s u => or_skip (hxr s u) ((fun s u => (by rw [hnn]; exact ⟨fun y => Or.inl y.2, fun y => y.elim (fun y => ⟨by omega, y⟩) (fun y => absurd rfl y.1)⟩ : (¬ rb = 0 ∧ trs Y U f P od bi ba rb s u = 1) ↔ trs Y U f P od bi ba (nn + 1) s u = 1 ∨ (¬ 0 = 0 ∧ trs Y U f P od bi ba 0 s u = 1))) s u) k1 k2 (by rw [← k4.trsq, k3])⟩))⟩ (by show 65536 - (w + 1) < 65536 - w; omega))
        · -- (0 : Int32)
          rw [hHe]
          refine mw_if (P := (0 : Int32) = 0) (a := 239) (b := 304) (fun _ => rfl) trivial (fun h27 => ?_) (fun h27 => absurd (by decide) h27)
          refine mw_go mu_g394 (k := 2) (f1 := (243, [(7, .inl (nI (ba + rb))), (6, .inl (nI ba)), (5, .inl (0 : Int32)), (4, .inl (nI (ba + rb))), (3, .inl (nI w)), (0, .inr (.inr (some 129))), (1, .inl (nI ba)), (2, .inl (nI bi))], [.inr (.inr (mu_r Q24 129 23))], Q24)) (C := [mu_is Q24 (some 129) 9]) rfl (show mu_is Q24 (some 129) 9 from (u24.1.1.is rfl)) ?_
          rw [(u24.1.1.r (p := 129) (j := 23) (q := 167) rfl)]
          refine mw_go mu_g394 (k := 2) (f1 := (247, [(7, .inl (nI (ba + rb))), (6, .inl (nI ba)), (5, .inl (0 : Int32)), (4, .inl (nI (ba + rb))), (3, .inl (nI w)), (0, .inr (.inr (some 129))), (1, .inl (nI ba)), (2, .inl (nI bi))], [.inr (.inr (mu_r Q24 129 1)), .inr (.inr (some 167))], Q24)) (C := [mu_is Q24 (some 129) 9]) rfl (show mu_is Q24 (some 129) 9 from (u24.1.1.is rfl)) ?_
          rw [(u24.1.1.r (p := 129) (j := 1) (q := 130) rfl)]
          refine mw_go mu_g394 (k := 1) (f1 := (250, [(7, .inl (nI (ba + rb))), (6, .inl (nI ba)), (5, .inl (0 : Int32)), (4, .inl (nI (ba + rb))), (3, .inl (nI w)), (0, .inr (.inr (some 129))), (1, .inl (nI ba)), (2, .inl (nI bi))], [.inl (mu_i Q24 130 2), .inr (.inr (some 167))], Q24)) (C := [mu_is Q24 (some 130) 10]) rfl (show mu_is Q24 (some 130) 10 from (u24.1.1.is rfl)) ?_
          rw [(show mu_i Q24 130 2 = (nI (U.1 24).1) from (u24.size d24 (j := 24) (by decide) rfl).trans (congrArg (fun z => nI z.1) (show X1.1 24 = (U.1 24) from ((zX1.t 24 rfl).trans (zza.t 24 rfl)))))]
          refine mw_go mu_g394 (k := 2) (f1 := (254, [(7, .inl (nI (ba + rb))), (6, .inl (nI ba)), (5, .inl (0 : Int32)), (4, .inl (nI (ba + rb))), (3, .inl (nI w)), (0, .inr (.inr (some 129))), (1, .inl (nI ba)), (2, .inl (nI bi))], [.inr (.inr (mu_r Q24 129 3)), .inl (nI (U.1 24).1), .inr (.inr (some 167))], Q24)) (C := [mu_is Q24 (some 129) 9]) rfl (show mu_is Q24 (some 129) 9 from (u24.1.1.is rfl)) ?_
          rw [(u24.1.1.r (p := 129) (j := 3) (q := 132) rfl)]
          refine mw_go mu_g394 (k := 1) (f1 := (257, [(7, .inl (nI (ba + rb))), (6, .inl (nI ba)), (5, .inl (0 : Int32)), (4, .inl (nI (ba + rb))), (3, .inl (nI w)), (0, .inr (.inr (some 129))), (1, .inl (nI ba)), (2, .inl (nI bi))], [.inl (mu_i Q24 132 2), .inl (nI (U.1 24).1), .inr (.inr (some 167))], Q24)) (C := [mu_is Q24 (some 132) 10]) rfl (show mu_is Q24 (some 132) 10 from (u24.1.1.is rfl)) ?_
          rw [(show mu_i Q24 132 2 = (nI (Va.1 25).1) from (u24.size d24 (j := 25) (by decide) rfl).trans (congrArg nI ((congrArg Prod.fst (show X1.1 25 = (X1.1 25) from rfl)).trans hn25)))]
          refine mw_go mu_g394 (k := 2) (f1 := (261, [(7, .inl (nI (ba + rb))), (6, .inl (nI ba)), (5, .inl (0 : Int32)), (4, .inl (nI (ba + rb))), (3, .inl (nI w)), (0, .inr (.inr (some 129))), (1, .inl (nI ba)), (2, .inl (nI bi))], [.inl (nI (ba + rb)), .inl (nI ba), .inl (nI (Va.1 25).1), .inl (nI (U.1 24).1), .inr (.inr (some 167))], Q24)) (C := []) rfl trivial ?_
          refine mw_cI (fun _ => rfl) (show mu_is Q24 (some 167) 10 from (u24.1.1.is rfl)) (u24.putr (C := C) (d := (d + 2)) d24 (j := 27) (Or.inr ⟨by decide, by decide⟩) rfl (nI (U.1 24).1) (nI (Va.1 25).1) (nI ba) (nI (ba + rb)) (by show 2 * (((X1.1 27).1 + 1) * 5) + 5 ≤ C 27; rw [show (X1.1 27).1 = nb by rw [(show (X1.1 27) = (U.1 27) from ((zX1.t 27 rfl).trans (zza.t 27 rfl)))]; exact hX.1.2.2]; have y := hX.2.2.1.2.2; omega) (by omega)) (fun x28 Q28 q28 => ?_)
          obtain ⟨rfl, u28, r28, d28⟩ := q28
          have ht28 : ur m C H Q28 := ht24.trans r28
          have qf28 : uq F394 U (upT X1 (ap 27 X1.1 (nI (U.1 24).1) (nI (Va.1 25).1) (nI ba) (nI (ba + rb)))) := qf24.ap rfl
          refine mw_go mu_g394 (k := 1) (f1 := (265, [(7, .inl (nI (ba + rb))), (6, .inl (nI ba)), (5, .inl (0 : Int32)), (4, .inl (nI (ba + rb))), (3, .inl (nI w)), (0, .inr (.inr (some 129))), (1, .inl (nI ba)), (2, .inl (nI bi))], [], Q28)) (C := []) rfl trivial ?_
          obtain ⟨X2, hX2⟩ : ∃ X, X = (upT X1 (ap 27 X1.1 (nI (U.1 24).1) (nI (Va.1 25).1) (nI ba) (nI (ba + rb)))) := ⟨_, rfl⟩
          rw [← hX2] at d28 qf28
          have zX2 : uq F394b X1 X2 := by rw [hX2]; exact ((uq.refl F394b X1).T (fun q hq => by first | exact ax_ne (in1_ne rfl hq) | exact ap_ne (in1_ne rfl hq) | exact fu_ne _ _ (in1_ne rfl hq)))
          refine mw_go mu_g394 (k := 2) (f1 := (269, [(7, .inl (nI (ba + rb))), (6, .inl (nI ba)), (5, .inl (0 : Int32)), (4, .inl (nI (ba + rb))), (3, .inl (nI w)), (0, .inr (.inr (some 129))), (1, .inl (nI ba)), (2, .inl (nI bi))], [.inr (.inr (mu_r Q28 129 14))], Q28)) (C := [mu_is Q28 (some 129) 9]) rfl (show mu_is Q28 (some 129) 9 from (u28.1.1.is rfl)) ?_
          rw [(u28.1.1.r (p := 129) (j := 14) (q := 142) rfl)]
          refine mw_go mu_g394 (k := 3) (f1 := (275, [(7, .inl (nI (ba + rb))), (6, .inl (nI ba)), (5, .inl (0 : Int32)), (4, .inl (nI (ba + rb))), (3, .inl (nI w)), (0, .inr (.inr (some 129))), (1, .inl (nI ba)), (2, .inl (nI bi))], [.inr (.inr (mu_r Q28 129 14)), .inl (14 : Int32), .inr (.inr (some 142))], Q28)) (C := [mu_is Q28 (some 129) 9]) rfl (show mu_is Q28 (some 129) 9 from (u28.1.1.is rfl)) ?_
          rw [(u28.1.1.r (p := 129) (j := 14) (q := 142) rfl)]
          refine mw_go mu_g394 (k := 2) (f1 := (278, [(7, .inl (nI (ba + rb))), (6, .inl (nI ba)), (5, .inl (0 : Int32)), (4, .inl (nI (ba + rb))), (3, .inl (nI w)), (0, .inr (.inr (some 129))), (1, .inl (nI ba)), (2, .inl (nI bi))], [.inl (14 : Int32), .inl (0 : Int32), .inr (.inr (some 142)), .inl (14 : Int32), .inr (.inr (some 142))], Q28)) (C := []) rfl trivial ?_
          refine mw_copyI (t := 0) rfl (show mu_is Q28 (some 142) 100 from (u28.iA d28 rfl rfl ((ud_q (m := m) (P := 129) (j := 14) d28 rfl).symm.trans (u28.1.1.r (p := 129) (j := 14) (q := 142) rfl)))) (show mu_is Q28 (some 142) 100 from (u28.iA d28 rfl rfl ((ud_q (m := m) (P := 129) (j := 14) d28 rfl).symm.trans (u28.1.1.r (p := 129) (j := 14) (q := 142) rfl)))) (by decide) (by decide) (by decide) (by decide) (by rw [show mu_n Q28 (mu_p (some 142)) = 28 from (u28.1.1.a (p := 142) (x := (100, 28)) rfl).2, (show (14 : Int32).toNatClampNeg = 14 from by decide)]; omega) (by rw [show mu_n Q28 (mu_p (some 142)) = 28 from (u28.1.1.a (p := 142) (x := (100, 28)) rfl).2, (show (0 : Int32).toNatClampNeg = 0 from by decide), (show (14 : Int32).toNatClampNeg = 14 from by decide)]; omega) (fun z => by cases z) (by decide) ?_
          rw [(show (14 : Int32).toNatClampNeg = 14 from by decide), (show (0 : Int32).toNatClampNeg = 0 from by decide)]
          show mu_W _ _ (281, [(7, .inl (nI (ba + rb))), (6, .inl (nI ba)), (5, .inl (0 : Int32)), (4, .inl (nI (ba + rb))), (3, .inl (nI w)), (0, .inr (.inr (some 129))), (1, .inl (nI ba)), (2, .inl (nI bi))], [], (mu_cpi Q28 142 14 142 0 14)) _
          obtain ⟨u29, r29, d29⟩ : um m (mu_cpi Q28 142 14 142 0 14) ∧ ur m C Q28 (mu_cpi Q28 142 14 142 0 14) ∧ ud m (mu_cpi Q28 142 14 142 0 14) = (upF X2 129 14 0 (fun i => (X2.2.2.1 129 14).2 (14 + i)) 14) := u28.cA (C := C) d28 rfl rfl ((ud_q (m := m) (P := 129) (j := 14) d28 rfl).symm.trans (u28.1.1.r (p := 129) (j := 14) (q := 142) rfl)) rfl rfl ((ud_q (m := m) (P := 129) (j := 14) d28 rfl).symm.trans (u28.1.1.r (p := 129) (j := 14) (q := 142) rfl))
          generalize (mu_cpi Q28 142 14 142 0 14) = Q29 at u29 r29 d29 ⊢
          have qf29 : uq F394 U (upF X2 129 14 0 (fun i => (X2.2.2.1 129 14).2 (14 + i)) 14) := qf28.F rfl
          have ht29 : ur m C H Q29 := ht28.trans r29
          obtain ⟨X3, hX3⟩ : ∃ X, X = (upF X2 129 14 0 (fun i => (X2.2.2.1 129 14).2 (14 + i)) 14) := ⟨_, rfl⟩
          rw [← hX3] at d29 qf29
          have zX3 : uq F394c X2 X3 := by rw [hX3]; exact ((uq.refl F394c X2).F rfl)
          refine mw_go mu_g394 (k := 2) (f1 := (285, [(7, .inl (nI (ba + rb))), (6, .inl (nI ba)), (5, .inl (0 : Int32)), (4, .inl (nI (ba + rb))), (3, .inl (nI w)), (0, .inr (.inr (some 129))), (1, .inl (nI ba)), (2, .inl (nI bi))], [.inr (.inr (mu_r Q29 129 2))], Q29)) (C := [mu_is Q29 (some 129) 9]) rfl (show mu_is Q29 (some 129) 9 from (u29.1.1.is rfl)) ?_
          rw [(u29.1.1.r (p := 129) (j := 2) (q := 118) rfl)]
          refine mw_cV (fun _ => rfl) (show mu_is Q29 (some 118) 10 from (u29.1.1.is rfl)) (u29.clearr (C := C) (d := (d + 4)) d29 (j := 23) (Or.inr ⟨by decide, by decide⟩) rfl) (fun Q30 q30 => ?_)
          obtain ⟨u30, r30, d30⟩ := q30
          have ht30 : ur m C H Q30 := ht29.trans r30
          have qf30 : uq F394 U (upT X3 (ac 23 X3.1 0)) := qf29.ac rfl
          obtain ⟨X4, hX4⟩ : ∃ X, X = (upT X3 (ac 23 X3.1 0)) := ⟨_, rfl⟩
          rw [← hX4] at d30 qf30
          have zX4 : uq F394p X3 X4 := by rw [hX4]; exact ((uq.refl F394p X3).T (fun q hq => by first | exact ax_ne (in1_ne rfl hq) | exact ap_ne (in1_ne rfl hq) | exact fu_ne _ _ (in1_ne rfl hq)))
          refine mw_go mu_g394 (k := 2) (f1 := (292, [(7, .inl (nI (ba + rb))), (6, .inl (nI ba)), (5, .inl (0 : Int32)), (4, .inl (nI (ba + rb))), (3, .inl (nI w)), (0, .inr (.inr (some 129))), (1, .inl (nI ba)), (2, .inl (nI bi))], [.inr (.inr (mu_r Q30 129 2))], Q30)) (C := [mu_is Q30 (some 129) 9]) rfl (show mu_is Q30 (some 129) 9 from (u30.1.1.is rfl)) ?_
          rw [(u30.1.1.r (p := 129) (j := 2) (q := 118) rfl)]
          refine mw_go mu_g394 (k := 4) (f1 := (298, [(7, .inl (nI (ba + rb))), (6, .inl (nI ba)), (5, .inl (0 : Int32)), (4, .inl (nI (ba + rb))), (3, .inl (nI w)), (0, .inr (.inr (some 129))), (1, .inl (nI ba)), (2, .inl (nI bi))], [.inl (-1 : Int32), .inl (nI bi), .inl (nI (ba + rb)), .inl (nI ba), .inr (.inr (some 118))], Q30)) (C := []) rfl trivial ?_
          refine mw_cI (fun _ => rfl) (show mu_is Q30 (some 118) 10 from (u30.1.1.is rfl)) (u30.putr (C := C) (d := (d + 2)) d30 (j := 23) (Or.inr ⟨by decide, by decide⟩) rfl (nI ba) (nI (ba + rb)) (nI bi) (-1 : Int32) (by show 2 * (((X4.1 23).1 + 1) * 5) + 5 ≤ C 23; rw [show (X4.1 23).1 = 0 from by rw [hX4]; rfl]; omega) (by omega)) (fun x31 Q31 q31 => ?_)
          obtain ⟨rfl, u31, r31, d31⟩ := q31
          have ht31 : ur m C H Q31 := ht30.trans r31
          have qf31 : uq F394 U (upT X4 (ap 23 X4.1 (nI ba) (nI (ba + rb)) (nI bi) (-1 : Int32))) := qf30.ap rfl
          refine mw_go mu_g394 (k := 1) (f1 := (302, [(7, .inl (nI (ba + rb))), (6, .inl (nI ba)), (5, .inl (0 : Int32)), (4, .inl (nI (ba + rb))), (3, .inl (nI w)), (0, .inr (.inr (some 129))), (1, .inl (nI ba)), (2, .inl (nI bi))], [], Q31)) (C := []) rfl trivial ?_
          obtain ⟨X5, hX5⟩ : ∃ X, X = (upT X4 (ap 23 X4.1 (nI ba) (nI (ba + rb)) (nI bi) (-1 : Int32))) := ⟨_, rfl⟩
          rw [← hX5] at d31 qf31
          have zX5 : uq F394p X4 X5 := by rw [hX5]; exact ((uq.refl F394p X4).T (fun q hq => by first | exact ax_ne (in1_ne rfl hq) | exact ap_ne (in1_ne rfl hq) | exact fu_ne _ _ (in1_ne rfl hq)))
          refine mw_go mu_g394 (k := 1) (f1 := (303, [(7, .inl (nI (ba + rb))), (6, .inl (nI ba)), (5, .inl (0 : Int32)), (4, .inl (nI (ba + rb))), (3, .inl (nI w)), (0, .inr (.inr (some 129))), (1, .inl (nI ba)), (2, .inl (nI bi))], [.inl (1 : Int32)], Q31)) (C := []) rfl trivial ?_
          have h27w : X2.1 27 = tput 5 (X1.1 27) (nI (X1.1 24).1) (nI (X1.1 25).1) (nI ba) (nI (ba + (nn + 1))) := by rw [show (X1.1 24).1 = (U.1 24).1 by rw [show X1.1 24 = U.1 24 from ((zX1.t 24 rfl).trans (zza.t 24 rfl))], hn25, hX2, show ba + (nn + 1) = ba + rb by omega]; rfl
          obtain ⟨bo', hRn⟩ := hRG1.more (V := X2) (by omega) h27w (zX2.t 15 rfl) (zX2.t 24 rfl) (zX2.t 25 rfl) (by rw [hX2]; rfl)
          have hRn2 := ((hRn.q zX3 rfl rfl).q zX4 rfl rfl).q zX5 rfl rfl
          have e23 : X5.1 23 = tput 5 (X4.1 23) (nI ba) (nI (ba + (nn + 1))) (nI bi) (-1) := by rw [hX5, show ba + (nn + 1) = ba + rb by omega]; rfl
          have e23s : (X4.1 23).1 = 0 := by rw [hX4]; rfl
          obtain ⟨hPC1, hPN1⟩ := one_piece (U := U) (f := f) (P := P) (od := od) (T := X5.1 23) (a := ba) (n := (nn + 1)) (i := bi) hwq w3 (by omega) hY11 (by rw [e23]; exact congrArg (fun y => y + 1) e23s) (by rw [e23]; exact tpo_new e23s.symm (by decide)) (by rw [e23]; exact tpo_new e23s.symm (by decide)) (by rw [e23]; exact tpo_new e23s.symm (by decide))
          have e27 : X5.1 27 = X2.1 27 := (zX5.t 27 rfl).trans ((zX4.t 27 rfl).trans (zX3.t 27 rfl))
          have e27u : X1.1 27 = U.1 27 := ((zX1.t 27 rfl).trans (zza.t 27 rfl))
          have hn27 : (X1.1 27).1 = nb := by rw [e27u]; exact hX.1.2.2
          have hBX := brx_more (V := X5) (a1 := ba) (n1 := (nn + 1)) (j := 0) (PN := PND Y U f P od (X5.1 23)) hX (by rw [(show (X5.2.1 129 22) = (U.2.1 129 22) from ((zX5.i 129 22 rfl).trans ((zX4.i 129 22 rfl).trans ((zX3.i 129 22 rfl).trans ((zX2.i 129 22 rfl).trans ((zX1.i 129 22 rfl).trans (zza.i 129 22 rfl)))))))]; exact hX.1.1) (by rw [e27, h27w, tpo_old (by omega), e27u]) (by rw [e27, h27w]; exact congrArg (fun y => y + 1) hn27) (fun b hb => ⟨by rw [e27, h27w, tpo_old (by omega), e27u], by rw [e27, h27w, tpo_old (by omega), e27u]⟩) (by rw [e27, h27w]; exact tpo_new hn27.symm (by decide)) (by rw [e27, h27w]; exact tpo_new hn27.symm (by decide)) hwq (by omega) (by have y := hX.2.2.1.2.2; omega) (by have y := hX.2.2.1.2.2; omega) (fun s u => (hxr s u).trans (or_congr Iff.rfl ((fun s u => (by rw [hnn]; exact ⟨fun y => Or.inl y.2, fun y => y.elim (fun y => ⟨by omega, y⟩) (fun y => absurd rfl y.1)⟩ : (¬ rb = 0 ∧ trs Y U f P od bi ba rb s u = 1) ↔ trs Y U f P od bi ba (nn + 1) s u = 1 ∨ (¬ 0 = 0 ∧ trs Y U f P od bi ba 0 s u = 1))) s u))) hPN1
          refine mw_of (fun _ => mu_ret rfl (Or.inr rfl) ⟨(1 : Int32), Q31, rfl, u31, ht31, (by rw [d31]; exact qf31), ?_⟩)
          rw [d31]
          exact ⟨hK.q (F := F394) (show uq F394 U X5 from (((((((uq.refl F394 U).tr zza rfl).tr zX1 rfl).tr zX2 rfl).tr zX3 rfl).tr zX4 rfl).tr zX5 rfl)) rfl rfl, Or.inr ⟨rfl, by omega, bo', 0, _, _, _, cnt, Or.inr ⟨rfl, rfl⟩, hRn2, (by rw [e23]; exact congrArg (fun y => y + 1) e23s), hPC1, hBX⟩⟩
    · -- 169: not (nI (oc Y (ba + nn))) = (6 : Int32)
      have nh9 : ¬ (oc Y (ba + nn)) = 6 := fun z => h9 (show nI (oc Y (ba + nn)) = nI 6 from (nI_eq (by omega) (by omega)).mpr z)
      refine mw_go mu_g394 (k := 2) (f1 := (172, [(5, .inl (0 : Int32)), (4, .inl (nI (ba + rb))), (3, .inl (nI w)), (0, .inr (.inr (some 129))), (1, .inl (nI ba)), (2, .inl (nI bi))], [], Hsa)) (C := []) rfl trivial ?_
      refine mw_go mu_g394 (k := 1) (f1 := (174, [(5, .inl (0 : Int32)), (4, .inl (nI (ba + rb))), (3, .inl (nI w)), (0, .inr (.inr (some 129))), (1, .inl (nI ba)), (2, .inl (nI bi))], [.inl (0 : Int32)], Hsa)) (C := []) rfl trivial ?_
      refine mw_if (P := (0 : Int32) = 0) (a := 194) (b := 177) (fun _ => rfl) trivial (fun h32 => ?_) (fun h32 => absurd (by decide) h32)
      refine mw_go mu_g394 (k := 3) (f1 := (199, [(6, .inl (nI ba)), (5, .inl (0 : Int32)), (4, .inl (nI (ba + rb))), (3, .inl (nI w)), (0, .inr (.inr (some 129))), (1, .inl (nI ba)), (2, .inl (nI bi))], [.inl (0 : Int32)], Hsa)) (C := []) rfl trivial ?_
      refine mw_if (P := (0 : Int32) = 0) (a := 209) (b := 202) (fun _ => rfl) trivial (fun h33 => ?_) (fun h33 => absurd (by decide) h33)
      refine mw_go mu_g394 (k := 4) (f1 := (217, [(7, .inl (nI (ba + rb))), (6, .inl (nI ba)), (5, .inl (0 : Int32)), (4, .inl (nI (ba + rb))), (3, .inl (nI w)), (0, .inr (.inr (some 129))), (1, .inl (nI ba)), (2, .inl (nI bi))], [.inr (.inr (mu_r Hsa 129 3))], Hsa)) (C := [mu_is Hsa (some 129) 9]) rfl (show mu_is Hsa (some 129) 9 from (ua.1.1.is rfl)) ?_
      rw [(ua.1.1.r (p := 129) (j := 3) (q := 132) rfl)]
      refine mw_go mu_g394 (k := 2) (f1 := (221, [(7, .inl (nI (ba + rb))), (6, .inl (nI ba)), (5, .inl (0 : Int32)), (4, .inl (nI (ba + rb))), (3, .inl (nI w)), (0, .inr (.inr (some 129))), (1, .inl (nI ba)), (2, .inl (nI bi))], [.inl (mu_i Hsa 129 22), .inr (.inr (some 132))], Hsa)) (C := [mu_is Hsa (some 129) 9]) rfl (show mu_is Hsa (some 129) 9 from (ua.1.1.is rfl)) ?_
      rw [(show mu_i Hsa 129 22 = (nI q) from (ud_i (U := Va) (m := m) (P := 129) (j := 22) da rfl).trans ((zza.i 129 22 rfl).trans h22U))]
      refine mw_go mu_g394 (k := 2) (f1 := (224, [(7, .inl (nI (ba + rb))), (6, .inl (nI ba)), (5, .inl (0 : Int32)), (4, .inl (nI (ba + rb))), (3, .inl (nI w)), (0, .inr (.inr (some 129))), (1, .inl (nI ba)), (2, .inl (nI bi))], [.inl (nI ba), .inl (1 : Int32), .inl (nI q), .inr (.inr (some 132))], Hsa)) (C := []) rfl trivial ?_
      refine mw_cV (fun _ => rfl) (show mu_is Hsa (some 132) 10 from (ua.1.1.is rfl)) (ua.setr (C := C) (d := (d + 4)) da (j := 25) (Or.inr ⟨by decide, by decide⟩) rfl (nI q) (nI ba) (c := 1) (by decide)) (fun Q34 q34 => ?_)
      obtain ⟨u34, r34, d34⟩ := q34
      have ht34 : ur m C H Q34 := hta.trans r34
      have qf34 : uq F394 U (upT Va (ax 25 Va.1 (nI q) 1 (nI ba))) := qfa.ax rfl
      obtain ⟨X1, hX1⟩ : ∃ X, X = (upT Va (ax 25 Va.1 (nI q) 1 (nI ba))) := ⟨_, rfl⟩
      rw [← hX1] at d34 qf34
      have zX1 : uq F394w Va X1 := by rw [hX1]; exact ((uq.refl F394w Va).T (fun q hq => by first | exact ax_ne (in1_ne rfl hq) | exact ap_ne (in1_ne rfl hq) | exact fu_ne _ _ (in1_ne rfl hq)))
      have hRG1 : RLG X1 Y es P f od N0 O0 sf nb bo (some q) ba 0 bi cnt G := hRGa.rest (V := X1) (j := 0) (by omega) (Or.inl rfl) (by rw [hX1]; rfl) (zX1.t 15 rfl) (zX1.t 24 rfl) (zX1.t 27 rfl) (by rw [hX1]; rfl)
      have hn25 : (X1.1 25).1 = (Va.1 25).1 := by rw [hX1]; exact tsx_1
      refine mw_go mu_g394 (k := 4) (f1 := (233, [(7, .inl (nI (ba + rb))), (6, .inl (nI ba)), (5, .inl (0 : Int32)), (4, .inl (nI (ba + rb))), (3, .inl (nI w)), (0, .inr (.inr (some 129))), (1, .inl (nI ba)), (2, .inl (nI bi))], [.inl (nI bi), .inl (nI (ba + rb)), .inl (nI ba), .inr (.inr (some 129))], Q34)) (C := []) rfl trivial ?_
      have hspb : sp Y (im Y bi + 1) 6 ≤ 67108864 := by
        obtain ⟨-, -, -, hkM, -⟩ := hD.1.inst w3
        obtain ⟨lr1, lr2, lr3⟩ := hD.1.le hkM (c := 6) (j := 9) (by decide) (by decide) rfl
        omega
      refine mw_cI (fun _ => rfl) (show mu_is Q34 (some 129) 9 from (u34.1.1.is rfl)) (by have y := rl_branch (d := (d + 1)) (Y := Y) (a := ba) (n := (nn + 1)) (i := bi) (nb := nb) (pa := pa) (pn := pn) u34 d34 (show (X1.2.2.2.1 99 0) = some m from ((zX1.r 99 0 rfl).trans ((zza.r 99 0 rfl).trans hmo))) (hK.q (F := F394) (show uq F394 U X1 from (((uq.refl F394 U).tr zza rfl).tr zX1 rfl)) rfl rfl).1.2.2.1 (show X1.1 0 = Y 0 from (((zX1.t 0 rfl).trans (zza.t 0 rfl))).trans hj0U) (show X1.1 9 = Y 9 from (((zX1.t 9 rfl).trans (zza.t 9 rfl))).trans hj9U) hD.1 hCc w3 hY11 (rgs_of hwq.1) (by omega) hspb (fun r r1 r2 => by obtain ⟨y1, y2, y3⟩ := hX.2.1 r r1 r2; exact ⟨by rw [(show (X1.1 27) = (U.1 27) from ((zX1.t 27 rfl).trans (zza.t 27 rfl)))]; exact y1, by rw [(show (X1.1 27) = (U.1 27) from ((zX1.t 27 rfl).trans (zza.t 27 rfl)))]; exact y2, _, rgs_of y3.1⟩) (by rw [(show (X1.1 27) = (U.1 27) from ((zX1.t 27 rfl).trans (zza.t 27 rfl)))]; exact hX.1.2.2) ⟨by omega, by omega⟩; rw [show ba + (nn + 1) = ba + rb by omega] at y; exact y) (fun x35 H35 q35 => ?_)
      rcases q35 with ⟨⟨rfl, hal⟩ | rfl, hHe⟩
      · -- (1 : Int32)
        rw [hHe]
        refine mw_if (P := (1 : Int32) = 0) (a := 239) (b := 304) (fun _ => rfl) trivial (fun h36 => absurd h36 (by decide)) (fun h36 => ?_)
        refine mw_go mu_g394 (k := 1) (f1 := (307, [(3, .inl ((nI w) + 1)), (7, .inl (nI (ba + rb))), (6, .inl (nI ba)), (5, .inl (0 : Int32)), (4, .inl (nI (ba + rb))), (0, .inr (.inr (some 129))), (1, .inl (nI ba)), (2, .inl (nI bi))], [], Q34)) (C := []) rfl trivial ?_
        rw [(show ((nI w) + 1) = (nI (w + 1)) from (nI_add w 1))]
        refine mw_go mu_g394 (k := 1) (f1 := (84, [(3, .inl (nI (w + 1))), (7, .inl (nI (ba + rb))), (6, .inl (nI ba)), (5, .inl (0 : Int32)), (4, .inl (nI (ba + rb))), (0, .inr (.inr (some 129))), (1, .inl (nI ba)), (2, .inl (nI bi))], [], Q34)) (C := []) rfl trivial ?_
        exact mw_sub (by simp) (iha (w + 1, Q34) ⟨u34, ht34, (show uq F394a U (ud m Q34) from by rw [d34]; exact (zza.tr zX1 rfl)), (show ∃ rb, (w + 1) + rb ≤ bn ∧ RLG (ud m Q34) Y es P f od N0 O0 sf nb bo (some q) ba rb bi cnt G ∧ (∀ s u, trs Y U f P od bi ba n0 s u = 1 ↔ (∃ b, 1 ≤ b ∧ b < nb ∧ trs Y U f P od bi (pa b) (pn b) s u = 1) ∨ (¬ rb = 0 ∧ trs Y U f P od bi ba rb s u = 1)) from by rw [d34]; exact (by obtain ⟨k, k1, k2, k3, k4⟩ := hal; exact ⟨0, by omega, hRG1, fun s u => or_skip (hxr s u) ((fun s u => (by rw [hnn]; exact ⟨fun y => Or.inl y.2, fun y => y.elim (fun y => ⟨by omega, y⟩) (fun y => absurd rfl y.1)⟩ : (¬ rb = 0 ∧ trs Y U f P od bi ba rb s u = 1) ↔ trs Y U f P od bi ba (nn + 1) s u = 1 ∨ (¬ 0 = 0 ∧ trs Y U f P od bi ba 0 s u = 1))) s u) k1 k2 (by rw [← k4.trsq, k3])⟩))⟩ (by show 65536 - (w + 1) < 65536 - w; omega))
      · -- (0 : Int32)
        rw [hHe]
        refine mw_if (P := (0 : Int32) = 0) (a := 239) (b := 304) (fun _ => rfl) trivial (fun h37 => ?_) (fun h37 => absurd (by decide) h37)
        refine mw_go mu_g394 (k := 2) (f1 := (243, [(7, .inl (nI (ba + rb))), (6, .inl (nI ba)), (5, .inl (0 : Int32)), (4, .inl (nI (ba + rb))), (3, .inl (nI w)), (0, .inr (.inr (some 129))), (1, .inl (nI ba)), (2, .inl (nI bi))], [.inr (.inr (mu_r Q34 129 23))], Q34)) (C := [mu_is Q34 (some 129) 9]) rfl (show mu_is Q34 (some 129) 9 from (u34.1.1.is rfl)) ?_
        rw [(u34.1.1.r (p := 129) (j := 23) (q := 167) rfl)]
        refine mw_go mu_g394 (k := 2) (f1 := (247, [(7, .inl (nI (ba + rb))), (6, .inl (nI ba)), (5, .inl (0 : Int32)), (4, .inl (nI (ba + rb))), (3, .inl (nI w)), (0, .inr (.inr (some 129))), (1, .inl (nI ba)), (2, .inl (nI bi))], [.inr (.inr (mu_r Q34 129 1)), .inr (.inr (some 167))], Q34)) (C := [mu_is Q34 (some 129) 9]) rfl (show mu_is Q34 (some 129) 9 from (u34.1.1.is rfl)) ?_
        rw [(u34.1.1.r (p := 129) (j := 1) (q := 130) rfl)]
        refine mw_go mu_g394 (k := 1) (f1 := (250, [(7, .inl (nI (ba + rb))), (6, .inl (nI ba)), (5, .inl (0 : Int32)), (4, .inl (nI (ba + rb))), (3, .inl (nI w)), (0, .inr (.inr (some 129))), (1, .inl (nI ba)), (2, .inl (nI bi))], [.inl (mu_i Q34 130 2), .inr (.inr (some 167))], Q34)) (C := [mu_is Q34 (some 130) 10]) rfl (show mu_is Q34 (some 130) 10 from (u34.1.1.is rfl)) ?_
        rw [(show mu_i Q34 130 2 = (nI (U.1 24).1) from (u34.size d34 (j := 24) (by decide) rfl).trans (congrArg (fun z => nI z.1) (show X1.1 24 = (U.1 24) from ((zX1.t 24 rfl).trans (zza.t 24 rfl)))))]
        refine mw_go mu_g394 (k := 2) (f1 := (254, [(7, .inl (nI (ba + rb))), (6, .inl (nI ba)), (5, .inl (0 : Int32)), (4, .inl (nI (ba + rb))), (3, .inl (nI w)), (0, .inr (.inr (some 129))), (1, .inl (nI ba)), (2, .inl (nI bi))], [.inr (.inr (mu_r Q34 129 3)), .inl (nI (U.1 24).1), .inr (.inr (some 167))], Q34)) (C := [mu_is Q34 (some 129) 9]) rfl (show mu_is Q34 (some 129) 9 from (u34.1.1.is rfl)) ?_
        rw [(u34.1.1.r (p := 129) (j := 3) (q := 132) rfl)]
        refine mw_go mu_g394 (k := 1) (f1 := (257, [(7, .inl (nI (ba + rb))), (6, .inl (nI ba)), (5, .inl (0 : Int32)), (4, .inl (nI (ba + rb))), (3, .inl (nI w)), (0, .inr (.inr (some 129))), (1, .inl (nI ba)), (2, .inl (nI bi))], [.inl (mu_i Q34 132 2), .inl (nI (U.1 24).1), .inr (.inr (some 167))], Q34)) (C := [mu_is Q34 (some 132) 10]) rfl (show mu_is Q34 (some 132) 10 from (u34.1.1.is rfl)) ?_
        rw [(show mu_i Q34 132 2 = (nI (Va.1 25).1) from (u34.size d34 (j := 25) (by decide) rfl).trans (congrArg nI ((congrArg Prod.fst (show X1.1 25 = (X1.1 25) from rfl)).trans hn25)))]
        refine mw_go mu_g394 (k := 2) (f1 := (261, [(7, .inl (nI (ba + rb))), (6, .inl (nI ba)), (5, .inl (0 : Int32)), (4, .inl (nI (ba + rb))), (3, .inl (nI w)), (0, .inr (.inr (some 129))), (1, .inl (nI ba)), (2, .inl (nI bi))], [.inl (nI (ba + rb)), .inl (nI ba), .inl (nI (Va.1 25).1), .inl (nI (U.1 24).1), .inr (.inr (some 167))], Q34)) (C := []) rfl trivial ?_
        refine mw_cI (fun _ => rfl) (show mu_is Q34 (some 167) 10 from (u34.1.1.is rfl)) (u34.putr (C := C) (d := (d + 2)) d34 (j := 27) (Or.inr ⟨by decide, by decide⟩) rfl (nI (U.1 24).1) (nI (Va.1 25).1) (nI ba) (nI (ba + rb)) (by show 2 * (((X1.1 27).1 + 1) * 5) + 5 ≤ C 27; rw [show (X1.1 27).1 = nb by rw [(show (X1.1 27) = (U.1 27) from ((zX1.t 27 rfl).trans (zza.t 27 rfl)))]; exact hX.1.2.2]; have y := hX.2.2.1.2.2; omega) (by omega)) (fun x38 Q38 q38 => ?_)
        obtain ⟨rfl, u38, r38, d38⟩ := q38
        have ht38 : ur m C H Q38 := ht34.trans r38
        have qf38 : uq F394 U (upT X1 (ap 27 X1.1 (nI (U.1 24).1) (nI (Va.1 25).1) (nI ba) (nI (ba + rb)))) := qf34.ap rfl
        refine mw_go mu_g394 (k := 1) (f1 := (265, [(7, .inl (nI (ba + rb))), (6, .inl (nI ba)), (5, .inl (0 : Int32)), (4, .inl (nI (ba + rb))), (3, .inl (nI w)), (0, .inr (.inr (some 129))), (1, .inl (nI ba)), (2, .inl (nI bi))], [], Q38)) (C := []) rfl trivial ?_
        obtain ⟨X2, hX2⟩ : ∃ X, X = (upT X1 (ap 27 X1.1 (nI (U.1 24).1) (nI (Va.1 25).1) (nI ba) (nI (ba + rb)))) := ⟨_, rfl⟩
        rw [← hX2] at d38 qf38
        have zX2 : uq F394b X1 X2 := by rw [hX2]; exact ((uq.refl F394b X1).T (fun q hq => by first | exact ax_ne (in1_ne rfl hq) | exact ap_ne (in1_ne rfl hq) | exact fu_ne _ _ (in1_ne rfl hq)))
        refine mw_go mu_g394 (k := 2) (f1 := (269, [(7, .inl (nI (ba + rb))), (6, .inl (nI ba)), (5, .inl (0 : Int32)), (4, .inl (nI (ba + rb))), (3, .inl (nI w)), (0, .inr (.inr (some 129))), (1, .inl (nI ba)), (2, .inl (nI bi))], [.inr (.inr (mu_r Q38 129 14))], Q38)) (C := [mu_is Q38 (some 129) 9]) rfl (show mu_is Q38 (some 129) 9 from (u38.1.1.is rfl)) ?_
        rw [(u38.1.1.r (p := 129) (j := 14) (q := 142) rfl)]
        refine mw_go mu_g394 (k := 3) (f1 := (275, [(7, .inl (nI (ba + rb))), (6, .inl (nI ba)), (5, .inl (0 : Int32)), (4, .inl (nI (ba + rb))), (3, .inl (nI w)), (0, .inr (.inr (some 129))), (1, .inl (nI ba)), (2, .inl (nI bi))], [.inr (.inr (mu_r Q38 129 14)), .inl (14 : Int32), .inr (.inr (some 142))], Q38)) (C := [mu_is Q38 (some 129) 9]) rfl (show mu_is Q38 (some 129) 9 from (u38.1.1.is rfl)) ?_
        rw [(u38.1.1.r (p := 129) (j := 14) (q := 142) rfl)]
        refine mw_go mu_g394 (k := 2) (f1 := (278, [(7, .inl (nI (ba + rb))), (6, .inl (nI ba)), (5, .inl (0 : Int32)), (4, .inl (nI (ba + rb))), (3, .inl (nI w)), (0, .inr (.inr (some 129))), (1, .inl (nI ba)), (2, .inl (nI bi))], [.inl (14 : Int32), .inl (0 : Int32), .inr (.inr (some 142)), .inl (14 : Int32), .inr (.inr (some 142))], Q38)) (C := []) rfl trivial ?_
        refine mw_copyI (t := 0) rfl (show mu_is Q38 (some 142) 100 from (u38.iA d38 rfl rfl ((ud_q (m := m) (P := 129) (j := 14) d38 rfl).symm.trans (u38.1.1.r (p := 129) (j := 14) (q := 142) rfl)))) (show mu_is Q38 (some 142) 100 from (u38.iA d38 rfl rfl ((ud_q (m := m) (P := 129) (j := 14) d38 rfl).symm.trans (u38.1.1.r (p := 129) (j := 14) (q := 142) rfl)))) (by decide) (by decide) (by decide) (by decide) (by rw [show mu_n Q38 (mu_p (some 142)) = 28 from (u38.1.1.a (p := 142) (x := (100, 28)) rfl).2, (show (14 : Int32).toNatClampNeg = 14 from by decide)]; omega) (by rw [show mu_n Q38 (mu_p (some 142)) = 28 from (u38.1.1.a (p := 142) (x := (100, 28)) rfl).2, (show (0 : Int32).toNatClampNeg = 0 from by decide), (show (14 : Int32).toNatClampNeg = 14 from by decide)]; omega) (fun z => by cases z) (by decide) ?_
        rw [(show (14 : Int32).toNatClampNeg = 14 from by decide), (show (0 : Int32).toNatClampNeg = 0 from by decide)]
        show mu_W _ _ (281, [(7, .inl (nI (ba + rb))), (6, .inl (nI ba)), (5, .inl (0 : Int32)), (4, .inl (nI (ba + rb))), (3, .inl (nI w)), (0, .inr (.inr (some 129))), (1, .inl (nI ba)), (2, .inl (nI bi))], [], (mu_cpi Q38 142 14 142 0 14)) _
        obtain ⟨u39, r39, d39⟩ : um m (mu_cpi Q38 142 14 142 0 14) ∧ ur m C Q38 (mu_cpi Q38 142 14 142 0 14) ∧ ud m (mu_cpi Q38 142 14 142 0 14) = (upF X2 129 14 0 (fun i => (X2.2.2.1 129 14).2 (14 + i)) 14) := u38.cA (C := C) d38 rfl rfl ((ud_q (m := m) (P := 129) (j := 14) d38 rfl).symm.trans (u38.1.1.r (p := 129) (j := 14) (q := 142) rfl)) rfl rfl ((ud_q (m := m) (P := 129) (j := 14) d38 rfl).symm.trans (u38.1.1.r (p := 129) (j := 14) (q := 142) rfl))
        generalize (mu_cpi Q38 142 14 142 0 14) = Q39 at u39 r39 d39 ⊢
        have qf39 : uq F394 U (upF X2 129 14 0 (fun i => (X2.2.2.1 129 14).2 (14 + i)) 14) := qf38.F rfl
        have ht39 : ur m C H Q39 := ht38.trans r39
        obtain ⟨X3, hX3⟩ : ∃ X, X = (upF X2 129 14 0 (fun i => (X2.2.2.1 129 14).2 (14 + i)) 14) := ⟨_, rfl⟩
        rw [← hX3] at d39 qf39
        have zX3 : uq F394c X2 X3 := by rw [hX3]; exact ((uq.refl F394c X2).F rfl)
        refine mw_go mu_g394 (k := 2) (f1 := (285, [(7, .inl (nI (ba + rb))), (6, .inl (nI ba)), (5, .inl (0 : Int32)), (4, .inl (nI (ba + rb))), (3, .inl (nI w)), (0, .inr (.inr (some 129))), (1, .inl (nI ba)), (2, .inl (nI bi))], [.inr (.inr (mu_r Q39 129 2))], Q39)) (C := [mu_is Q39 (some 129) 9]) rfl (show mu_is Q39 (some 129) 9 from (u39.1.1.is rfl)) ?_
        rw [(u39.1.1.r (p := 129) (j := 2) (q := 118) rfl)]
        refine mw_cV (fun _ => rfl) (show mu_is Q39 (some 118) 10 from (u39.1.1.is rfl)) (u39.clearr (C := C) (d := (d + 4)) d39 (j := 23) (Or.inr ⟨by decide, by decide⟩) rfl) (fun Q40 q40 => ?_)
        obtain ⟨u40, r40, d40⟩ := q40
        have ht40 : ur m C H Q40 := ht39.trans r40
        have qf40 : uq F394 U (upT X3 (ac 23 X3.1 0)) := qf39.ac rfl
        obtain ⟨X4, hX4⟩ : ∃ X, X = (upT X3 (ac 23 X3.1 0)) := ⟨_, rfl⟩
        rw [← hX4] at d40 qf40
        have zX4 : uq F394p X3 X4 := by rw [hX4]; exact ((uq.refl F394p X3).T (fun q hq => by first | exact ax_ne (in1_ne rfl hq) | exact ap_ne (in1_ne rfl hq) | exact fu_ne _ _ (in1_ne rfl hq)))
        refine mw_go mu_g394 (k := 2) (f1 := (292, [(7, .inl (nI (ba + rb))), (6, .inl (nI ba)), (5, .inl (0 : Int32)), (4, .inl (nI (ba + rb))), (3, .inl (nI w)), (0, .inr (.inr (some 129))), (1, .inl (nI ba)), (2, .inl (nI bi))], [.inr (.inr (mu_r Q40 129 2))], Q40)) (C := [mu_is Q40 (some 129) 9]) rfl (show mu_is Q40 (some 129) 9 from (u40.1.1.is rfl)) ?_
        rw [(u40.1.1.r (p := 129) (j := 2) (q := 118) rfl)]
        refine mw_go mu_g394 (k := 4) (f1 := (298, [(7, .inl (nI (ba + rb))), (6, .inl (nI ba)), (5, .inl (0 : Int32)), (4, .inl (nI (ba + rb))), (3, .inl (nI w)), (0, .inr (.inr (some 129))), (1, .inl (nI ba)), (2, .inl (nI bi))], [.inl (-1 : Int32), .inl (nI bi), .inl (nI (ba + rb)), .inl (nI ba), .inr (.inr (some 118))], Q40)) (C := []) rfl trivial ?_
        refine mw_cI (fun _ => rfl) (show mu_is Q40 (some 118) 10 from (u40.1.1.is rfl)) (u40.putr (C := C) (d := (d + 2)) d40 (j := 23) (Or.inr ⟨by decide, by decide⟩) rfl (nI ba) (nI (ba + rb)) (nI bi) (-1 : Int32) (by show 2 * (((X4.1 23).1 + 1) * 5) + 5 ≤ C 23; rw [show (X4.1 23).1 = 0 from by rw [hX4]; rfl]; omega) (by omega)) (fun x41 Q41 q41 => ?_)
        obtain ⟨rfl, u41, r41, d41⟩ := q41
        have ht41 : ur m C H Q41 := ht40.trans r41
        have qf41 : uq F394 U (upT X4 (ap 23 X4.1 (nI ba) (nI (ba + rb)) (nI bi) (-1 : Int32))) := qf40.ap rfl
        refine mw_go mu_g394 (k := 1) (f1 := (302, [(7, .inl (nI (ba + rb))), (6, .inl (nI ba)), (5, .inl (0 : Int32)), (4, .inl (nI (ba + rb))), (3, .inl (nI w)), (0, .inr (.inr (some 129))), (1, .inl (nI ba)), (2, .inl (nI bi))], [], Q41)) (C := []) rfl trivial ?_
        obtain ⟨X5, hX5⟩ : ∃ X, X = (upT X4 (ap 23 X4.1 (nI ba) (nI (ba + rb)) (nI bi) (-1 : Int32))) := ⟨_, rfl⟩
        rw [← hX5] at d41 qf41
        have zX5 : uq F394p X4 X5 := by rw [hX5]; exact ((uq.refl F394p X4).T (fun q hq => by first | exact ax_ne (in1_ne rfl hq) | exact ap_ne (in1_ne rfl hq) | exact fu_ne _ _ (in1_ne rfl hq)))
        refine mw_go mu_g394 (k := 1) (f1 := (303, [(7, .inl (nI (ba + rb))), (6, .inl (nI ba)), (5, .inl (0 : Int32)), (4, .inl (nI (ba + rb))), (3, .inl (nI w)), (0, .inr (.inr (some 129))), (1, .inl (nI ba)), (2, .inl (nI bi))], [.inl (1 : Int32)], Q41)) (C := []) rfl trivial ?_
        have h27w : X2.1 27 = tput 5 (X1.1 27) (nI (X1.1 24).1) (nI (X1.1 25).1) (nI ba) (nI (ba + (nn + 1))) := by rw [show (X1.1 24).1 = (U.1 24).1 by rw [show X1.1 24 = U.1 24 from ((zX1.t 24 rfl).trans (zza.t 24 rfl))], hn25, hX2, show ba + (nn + 1) = ba + rb by omega]; rfl
        obtain ⟨bo', hRn⟩ := hRG1.more (V := X2) (by omega) h27w (zX2.t 15 rfl) (zX2.t 24 rfl) (zX2.t 25 rfl) (by rw [hX2]; rfl)
        have hRn2 := ((hRn.q zX3 rfl rfl).q zX4 rfl rfl).q zX5 rfl rfl
        have e23 : X5.1 23 = tput 5 (X4.1 23) (nI ba) (nI (ba + (nn + 1))) (nI bi) (-1) := by rw [hX5, show ba + (nn + 1) = ba + rb by omega]; rfl
        have e23s : (X4.1 23).1 = 0 := by rw [hX4]; rfl
        obtain ⟨hPC1, hPN1⟩ := one_piece (U := U) (f := f) (P := P) (od := od) (T := X5.1 23) (a := ba) (n := (nn + 1)) (i := bi) hwq w3 (by omega) hY11 (by rw [e23]; exact congrArg (fun y => y + 1) e23s) (by rw [e23]; exact tpo_new e23s.symm (by decide)) (by rw [e23]; exact tpo_new e23s.symm (by decide)) (by rw [e23]; exact tpo_new e23s.symm (by decide))
        have e27 : X5.1 27 = X2.1 27 := (zX5.t 27 rfl).trans ((zX4.t 27 rfl).trans (zX3.t 27 rfl))
        have e27u : X1.1 27 = U.1 27 := ((zX1.t 27 rfl).trans (zza.t 27 rfl))
        have hn27 : (X1.1 27).1 = nb := by rw [e27u]; exact hX.1.2.2
        have hBX := brx_more (V := X5) (a1 := ba) (n1 := (nn + 1)) (j := 0) (PN := PND Y U f P od (X5.1 23)) hX (by rw [(show (X5.2.1 129 22) = (U.2.1 129 22) from ((zX5.i 129 22 rfl).trans ((zX4.i 129 22 rfl).trans ((zX3.i 129 22 rfl).trans ((zX2.i 129 22 rfl).trans ((zX1.i 129 22 rfl).trans (zza.i 129 22 rfl)))))))]; exact hX.1.1) (by rw [e27, h27w, tpo_old (by omega), e27u]) (by rw [e27, h27w]; exact congrArg (fun y => y + 1) hn27) (fun b hb => ⟨by rw [e27, h27w, tpo_old (by omega), e27u], by rw [e27, h27w, tpo_old (by omega), e27u]⟩) (by rw [e27, h27w]; exact tpo_new hn27.symm (by decide)) (by rw [e27, h27w]; exact tpo_new hn27.symm (by decide)) hwq (by omega) (by have y := hX.2.2.1.2.2; omega) (by have y := hX.2.2.1.2.2; omega) (fun s u => (hxr s u).trans (or_congr Iff.rfl ((fun s u => (by rw [hnn]; exact ⟨fun y => Or.inl y.2, fun y => y.elim (fun y => ⟨by omega, y⟩) (fun y => absurd rfl y.1)⟩ : (¬ rb = 0 ∧ trs Y U f P od bi ba rb s u = 1) ↔ trs Y U f P od bi ba (nn + 1) s u = 1 ∨ (¬ 0 = 0 ∧ trs Y U f P od bi ba 0 s u = 1))) s u))) hPN1
        refine mw_of (fun _ => mu_ret rfl (Or.inr rfl) ⟨(1 : Int32), Q41, rfl, u41, ht41, (by rw [d41]; exact qf41), ?_⟩)
        rw [d41]
        exact ⟨hK.q (F := F394) (show uq F394 U X5 from (((((((uq.refl F394 U).tr zza rfl).tr zX1 rfl).tr zX2 rfl).tr zX3 rfl).tr zX4 rfl).tr zX5 rfl)) rfl rfl, Or.inr ⟨rfl, by omega, bo', 0, _, _, _, cnt, Or.inr ⟨rfl, rfl⟩, hRn2, (by rw [e23]; exact congrArg (fun y => y + 1) e23s), hPC1, hBX⟩⟩
  · -- 310: not (nI ba) < (nI (ba + rb))
    have nh6 : ¬ ba < (ba + rb) := fun z => h6 (show nI ba < nI (ba + rb) from (nI_ltI (by omega) (by omega)).mpr z)
    refine mw_go mu_g394 (k := 1) (f1 := (311, [(3, .inl (nI w)), (0, .inr (.inr (some 129))), (1, .inl (nI ba)), (2, .inl (nI bi))], [.inl (0 : Int32)], Hsa)) (C := []) rfl trivial ?_
    have hrb0 : rb = 0 := by omega
    rw [hrb0] at hRGa hxr
    refine mw_of (fun _ => mu_ret rfl (Or.inl rfl) ⟨(0 : Int32), Hsa, rfl, ua, hta, (by rw [da]; exact qfa), ?_⟩)
    rw [da]
    obtain ⟨⟨g1, g2, g3⟩, g4, ⟨g5, g6, g7, g8⟩, g9, g10, g11⟩ := hX
    exact ⟨hK.q (F := F394) (show uq F394 U Va from ((uq.refl F394 U).tr zza rfl)) rfl rfl, Or.inl ⟨rfl, hRGa, ⟨by rw [(show (Va.2.1 129 22) = (U.2.1 129 22) from (zza.i 129 22 rfl))]; exact g1, by rw [(show (Va.1 27) = (U.1 27) from (zza.t 27 rfl))]; exact g2, by rw [(show (Va.1 27) = (U.1 27) from (zza.t 27 rfl))]; exact g3⟩, by rw [(show (Va.1 27) = (U.1 27) from (zza.t 27 rfl))]; exact g4, ⟨g5, g6, by omega, by omega⟩, hxr, g10, g11⟩⟩
end OpenMore
