/-! JUDGE: all SORTS as data -/
/-- a claim of an INSTANCE has a truth's SORT -/
def CLM (W : Ts) (es : Nat → Int32) (i c : Nat) : Prop := ∃ a N rs, (W 8).2 c 1 = nI a ∧ (W 8).2 c 2 = nI (a + N) ∧ rg W (im W i) false a (a + N) ∧
  SRT W es i (if (W 8).2 c 0 = 6 then 1 else if (W 8).2 c 0 = 8 then 2 else 0) a rs N ∧ (stk W rs a N 0 = 1 ∨ stk W rs a N 0 = 9)
/-- a line of an INSTANCE has its VARIABLE's SORT -/
def LIN (W : Ts) (es : Nat → Int32) (i n : Nat) : Prop := ∃ a N rs v, (W 7).2 n 2 = nI a ∧ (W 7).2 n 3 = nI (a + N) ∧ rg W (im W i) true a (a + N) ∧ ((W 7).2 n 1 = nI v ∧ v < (W 3).1) ∧ SRT W es i 0 a rs N ∧ stk W rs a N 0 = vso W v
/-- an entry has its SORT -/
def ENT (W : Ts) (es : Nat → Int32) (e : Nat) : Prop := ∃ rs, SRT W es (enx W e 2) 0 (enx W e 0) rs (elx W e) ∧ es e = stk W rs (enx W e 0) (elx W e) 0 ∧ ¬ es e = 0
/-- all have their SORTS -/
def TYP (W : Ts) (es : Nat → Int32) : Prop := (∀ e, e < (W 13).1 → ENT W es e) ∧ ∀ i, i < (W 11).1 → (∀ c, sp W (im W i) 5 ≤ c → c < sp W (im W i + 1) 5 → CLM W es i c) ∧ ∀ n, sp W (im W i) 4 ≤ n → n < sp W (im W i + 1) 4 → LIN W es i n
section SortsAll
variable {H H1 H2 : mu_H} {d m a b p n N i r k v o e : Nat} {W s : Ts} {es es' : Nat → Int32} {al w : Int32} {rs rs' : Nat → Int32} {od : Nat → Nat}
theorem stp_w (hj : jz W s) (hW : JW W) (hk : k < (W 1).1) {c j : Nat} (h1 : 1 ≤ c) (h6 : c ≤ 6) (ht : tabc c = j) (hj2 : j ≠ 13 ∧ j ≠ 14 ∧ j ≠ 20) : stp s (nI k) c j = nI (sp W (k + 1) c) := by
  have hb := hW.2.2.2.2.2.2 1 (by decide)
  have := sp_stp hW.2.2.2.2.2.1.1 hk hb (c := c) (j := j) h1 h6 ht
  unfold stp at this ⊢
  rw [hj.1 1 (by decide) (by decide) (by decide), hj.1 j hj2.1 hj2.2.1 hj2.2.2]
  exact this
theorem lok_es {q : Nat} {x : Int32} (h : lok W es i al q x) (he : ∀ e2, nmd W i q = nI e2 → e2 < (W 13).1 → es' e2 = es e2) (h0 : (W 0).2 q 0 = nI (oc W q)) : lok W es' i al q x := by
  rcases h with z | z | ⟨z1, z2, z3⟩
  · exact Or.inl z
  · exact Or.inr (Or.inl z)
  · refine Or.inr (Or.inr ⟨z1, z2, ?_⟩)
    rcases z3 with y | y | ⟨y1, e2, y2, y3, y4⟩
    · exact Or.inl y
    · exact Or.inr (Or.inl y)
    · refine Or.inr (Or.inr ⟨y1, e2, y2, y3, ?_⟩)
      rw [he e2 ?_ y2]
      · exact y4
      · unfold nmd
        rw [if_pos ⟨by rw [h0]; rcases z1 with z | z <;> rw [z]; exact Or.inl rfl; exact Or.inr rfl, y1⟩]
        exact y3
theorem SRT_es (h : SRT W es i al a rs N) (he : ∀ q e2, a ≤ q → q < a + N → nmd W i q = nI e2 → e2 < (W 13).1 → es' e2 = es e2) (h0 : ∀ q, a ≤ q → q < a + N → (W 0).2 q 0 = nI (oc W q)) : SRT W es' i al a rs N := fun n hn =>
  ⟨(h n hn).1, fun z => lok_es ((h n hn).2.1 z) (fun e2 h1 h2 => he _ e2 (by omega) (by omega) h1 h2) (h0 _ (by omega) (by omega)), (h n hn).2.2⟩
theorem oc_w (hW : JW W) {q : Nat} (hq : q < (W 0).1) : (W 0).2 q 0 = nI (oc W q) := (okc_n hW.2.2.2.2.2.1.2 hq).1
/-- an entry behind others that were ordered before it -/
theorem ENT_es (hW : JW W) (he : e < (W 13).1) (h : ENT W es e) (hs : es' e = es e) (hn : ∀ q e2, prt W e q e2 → es' e2 = es e2) : ENT W es' e := by
  obtain ⟨rs, h1, h2, h3⟩ := h
  obtain ⟨-, -, -, -, hr⟩ := en_ok hW he
  have hb := hr.2.1
  refine ⟨rs, SRT_es h1 (fun q e2 a1 a2 a3 a4 => hn q e2 ⟨a1, ?_, a4, a3⟩) (fun q a1 a2 => oc_w hW (by omega)), by rw [hs]; exact h2, by rw [hs]; exact h3⟩
  unfold elx at a2
  omega
theorem jz.jy (h : jz W (ak m H)) (hy : jy m H H1) (hm : m = 2 ∨ m = 41) : jz W (ak m H1) := by
  obtain ⟨a1, a2, a3⟩ := hy.ak hm
  exact ⟨fun j h1 h2 h3 => (a1 j h1).trans (h.1 j h1 h2 h3), a2.trans h.2.1, fun i c hc => (a3 i c hc).trans (h.2.2 i c hc)⟩
theorem dn.set13 (h : dn m H) (row v : Int32) : mu_TV (mu_D (d + 1)) 116 [.inr (.inr (some (m + 27))), .inl row, .inl (nI 4), .inl v] H (fun H1 => dn m H1 ∧ jy m H H1 ∧ ak m H1 = ax 13 (ak m H) row 4 v) := by
  refine (gi_set_ok (d := d) h.1.1 (md_w13 h.2) row v (j := 4) (by decide)).imp (fun H1 q => ?_)
  obtain ⟨s1, s2⟩ := jd.set13 (m := m) (c := 4) (row := row) (v := v) ⟨h.1.1, h.2, h.1.2.1⟩ (by decide) (by decide)
  obtain ⟨t1, -, t3, -⟩ := h.dm.set (C := fun _ => 0) (j := 13) (row := row) (c := 4) (v := v) (by decide)
  rw [q]
  exact ⟨t1.dn, s2, t3⟩
theorem vso_0 : ¬ vso W v = 0 := by
  unfold vso
  split
  · decide
  · split <;> decide
theorem jg_claims3 (h : dn m H) (hj : jz W (ak m H)) (hW : JW W) (hi : i < (W 11).1) (hN : (W 0).1 < jn H) (hCr : Cr W 5 false 1 2) : mu_TI (mu_D (d + 5)) 191 [.inr (.inr (some 91)), .inl (nI i)] H (fun x H1 => dn m H1 ∧ jq H H1 ∧ (x = 0 ∨ (x = 1 ∧ ∀ c, sp W (im W i) 5 ≤ c → c < sp W (im W i + 1) 5 → CLM W (fun e => (ak m H 13).2 e 4) i c))) := by
  have b := hW.2.2.2.2.2.2
  have b0 := b 0 (by decide)
  have b1 := b 1 (by decide)
  have b3 := b 3 (by decide)
  have b7 := b 7 (by decide)
  have b8 := b 8 (by decide)
  have b11 := b 11 (by decide)
  obtain ⟨-, -, -, hkM, -⟩ := hW.inst hi
  obtain ⟨l1, l2, l3⟩ := hW.le hkM (c := 5) (j := 8) (by decide) (by decide) rfl
  refine mu_meth (M := mu_m191) rfl rfl ?_
  refine mw_ht (mu_fn_of (show [0, 1].Nodup by decide)) ?_
  refine mw_go mu_g191 (k := 2) (f1 := (4, [(0, .inr (.inr (some 91))), (1, .inl (nI i))], [.inr (.inr (mu_r H 91 3))], H)) (C := [mu_is H (some 91) 3]) rfl (show mu_is H (some 91) 3 from (h.1.1.is rfl)) ?_
  rw [(h.1.2.1)]
  refine mw_go mu_g191 (k := 1) (f1 := (7, [(0, .inr (.inr (some 91))), (1, .inl (nI i))], [.inr (.inr (mu_r H m 11))], H)) (C := [mu_is H (some m) 6]) rfl (show mu_is H (some m) 6 from (show mu_is H (some m) 6 from gi_im h.1.1 h.2)) ?_
  rw [(show mu_r H m 11 = some (m + 23) from (gi_mr h.1.1 h.2 (j := 11) (by decide)).trans (congrArg some (by omega)))]
  refine mw_go mu_g191 (k := 2) (f1 := (9, [(0, .inr (.inr (some 91))), (1, .inl (nI i))], [.inl (0 : Int32), .inl (nI i), .inr (.inr (some (m + 23)))], H)) (C := []) rfl trivial ?_
  refine mw_cIe (fun _ => rfl) (show mu_is H (some (m + 23)) 10 from ((h.1.1.w (md_w11 h.2)).1)) (dm.getr (d := (d + 3)) (dn.dm h) (rfl : ak m H = ak m H) (j := 11) (by decide) rfl (nI i) (c := 0) (by decide)) ?_
  rw [show (tget (ak m H 11) (nI i) 0) = (nI (im W i)) from ((tget_nI (by omega)).trans (by rw [hj.1 11 (by decide) (by decide) (by decide)]; exact (hW.1 i hi).1.1))]
  refine mw_go mu_g191 (k := 3) (f1 := (17, [(2, .inl (nI (im W i))), (0, .inr (.inr (some 91))), (1, .inl (nI i))], [.inr (.inr (mu_r H 91 3))], H)) (C := [mu_is H (some 91) 3]) rfl (show mu_is H (some 91) 3 from (h.1.1.is rfl)) ?_
  rw [(h.1.2.1)]
  refine mw_go mu_g191 (k := 1) (f1 := (20, [(2, .inl (nI (im W i))), (0, .inr (.inr (some 91))), (1, .inl (nI i))], [.inr (.inr (mu_r H m 1))], H)) (C := [mu_is H (some m) 6]) rfl (show mu_is H (some m) 6 from (show mu_is H (some m) 6 from gi_im h.1.1 h.2)) ?_
  rw [(show mu_r H m 1 = some (m + 3) from (gi_mr h.1.1 h.2 (j := 1) (by decide)).trans (congrArg some (by omega)))]
  refine mw_go mu_g191 (k := 2) (f1 := (22, [(2, .inl (nI (im W i))), (0, .inr (.inr (some 91))), (1, .inl (nI i))], [.inl (5 : Int32), .inl (nI (im W i)), .inr (.inr (some (m + 3)))], H)) (C := []) rfl trivial ?_
  refine mw_cIe (fun _ => rfl) (show mu_is H (some (m + 3)) 10 from ((h.1.1.w (md_w1 h.2)).1)) (dm.getr (d := (d + 3)) (dn.dm h) (rfl : ak m H = ak m H) (j := 1) (by decide) rfl (nI (im W i)) (c := 5) (by decide)) ?_
  rw [show (tget (ak m H 1) (nI (im W i)) 5) = (nI (sp W (im W i) 5)) from ((tget_nI (by omega)).trans (by rw [hj.1 1 (by decide) (by decide) (by decide)]; exact (hW.2.2.2.2.2.1.1 _ hkM 5 (by decide) (by decide)).1))]
  refine mw_go mu_g191 (k := 1) (f1 := (26, [(3, .inl (nI (sp W (im W i) 5))), (2, .inl (nI (im W i))), (0, .inr (.inr (some 91))), (1, .inl (nI i))], [], H)) (C := []) rfl trivial ?_
  refine mw_sub (L' := [(3, .inl (nI (sp W (im W i) 5))), (0, .inr (.inr (some 91))), (1, .inl (nI i)), (2, .inl (nI (im W i)))]) (by simp) ?_
  refine mw_down (α := Nat × mu_H) (fun zs => (26, [(3, .inl (nI zs.1)), (0, .inr (.inr (some 91))), (1, .inl (nI i)), (2, .inl (nI (im W i)))], [], zs.2)) (fun zs => sp W (im W i + 1) 5 - zs.1) (fun zs => dn m zs.2 ∧ jq H zs.2 ∧ (sp W (im W i) 5 ≤ zs.1) ∧ (zs.1 ≤ sp W (im W i + 1) 5) ∧ (∀ y, sp W (im W i) 5 ≤ y → y < zs.1 → CLM W (fun e => (ak m H 13).2 e 4) i y)) (fun zs hza iha => ?_) (sp W (im W i) 5, H) ⟨h, (jq.refl H), (show sp W (im W i) 5 ≤ (sp W (im W i) 5) from (by omega)), (show (sp W (im W i) 5) ≤ sp W (im W i + 1) 5 from (by omega)), (show ∀ y, sp W (im W i) 5 ≤ y → y < (sp W (im W i) 5) → CLM W (fun e => (ak m H 13).2 e 4) i y from (fun y hy1 hy2 => by omega))⟩
  obtain ⟨c, Hsa⟩ := zs
  obtain ⟨ua, hta, hc1, hc2, hK⟩ := hza
  have ua : dn m Hsa := ua
  have hta : jq H Hsa := hta
  have da : ak m Hsa = ak m H := hta.ak h.2
  have jla : jn Hsa = jn H := hta.len h.1.1
  have hc1 : sp W (im W i) 5 ≤ c := hc1
  have hc2 : c ≤ sp W (im W i + 1) 5 := hc2
  have hK : ∀ y, sp W (im W i) 5 ≤ y → y < c → CLM W (fun e => (ak m H 13).2 e 4) i y := hK
  show mu_W _ _ (26, [(3, .inl (nI c)), (0, .inr (.inr (some 91))), (1, .inl (nI i)), (2, .inl (nI (im W i)))], [], Hsa) _
  refine mw_go mu_g191 (k := 3) (f1 := (31, [(3, .inl (nI c)), (0, .inr (.inr (some 91))), (1, .inl (nI i)), (2, .inl (nI (im W i)))], [.inr (.inr (mu_r Hsa 91 3)), .inl (nI c)], Hsa)) (C := [mu_is Hsa (some 91) 3]) rfl (show mu_is Hsa (some 91) 3 from (ua.1.1.is rfl)) ?_
  rw [(ua.1.2.1)]
  refine mw_go mu_g191 (k := 4) (f1 := (37, [(3, .inl (nI c)), (0, .inr (.inr (some 91))), (1, .inl (nI i)), (2, .inl (nI (im W i)))], [.inr (.inr (mu_r Hsa 91 3)), .inl (5 : Int32), .inl (nI (im W i)), .inr (.inr (some m)), .inl (nI c)], Hsa)) (C := [mu_is Hsa (some 91) 3]) rfl (show mu_is Hsa (some 91) 3 from (ua.1.1.is rfl)) ?_
  rw [(ua.1.2.1)]
  refine mw_go mu_g191 (k := 1) (f1 := (40, [(3, .inl (nI c)), (0, .inr (.inr (some 91))), (1, .inl (nI i)), (2, .inl (nI (im W i)))], [.inr (.inr (mu_r Hsa m 8)), .inl (5 : Int32), .inl (nI (im W i)), .inr (.inr (some m)), .inl (nI c)], Hsa)) (C := [mu_is Hsa (some m) 6]) rfl (show mu_is Hsa (some m) 6 from (show mu_is Hsa (some m) 6 from gi_im ua.1.1 ua.2)) ?_
  rw [(show mu_r Hsa m 8 = some (m + 17) from (gi_mr ua.1.1 ua.2 (j := 8) (by decide)).trans (congrArg some (by omega)))]
  refine mw_cIe (fun _ => rfl) (show mu_is Hsa (some m) 6 from (show mu_is Hsa (some m) 6 from gi_im ua.1.1 ua.2)) (dm.stopr (d := (d + 2)) (dn.dm ua) da (j := 8) (by decide) rfl (c := 5) (by decide) (nI (im W i))) ?_
  rw [show stp (ak m H) (nI (im W i)) 5 8 = nI (sp W (im W i + 1) 5) from stp_w hj hW hkM (by decide) (by decide) rfl (by decide)]
  refine mw_if (P := (nI c) < (nI (sp W (im W i + 1) 5))) (a := 46) (b := 139) (fun _ => rfl) trivial (fun h4 => ?_) (fun h4 => ?_)
  · -- 46: (nI c) < (nI (sp W (im W i + 1) 5))
    have nh4 : c < (sp W (im W i + 1) 5) := (nI_ltI (by omega) (by omega)).mp (show nI c < nI (sp W (im W i + 1) 5) from h4)
    obtain ⟨a, b0_, ea1, eb0, hrg0⟩ := hCr (im W i) hkM c hc1 (by omega)
    obtain ⟨N, hNe⟩ : ∃ N, b0_ = a + N := ⟨b0_ - a, by have := hrg0.1; omega⟩
    have hrg := hrg0
    rw [hNe] at hrg
    have eb1 := eb0
    rw [hNe] at eb1
    refine mw_go mu_g191 (k := 2) (f1 := (50, [(3, .inl (nI c)), (0, .inr (.inr (some 91))), (1, .inl (nI i)), (2, .inl (nI (im W i)))], [.inr (.inr (mu_r Hsa 91 3))], Hsa)) (C := [mu_is Hsa (some 91) 3]) rfl (show mu_is Hsa (some 91) 3 from (ua.1.1.is rfl)) ?_
    rw [(ua.1.2.1)]
    refine mw_go mu_g191 (k := 1) (f1 := (53, [(3, .inl (nI c)), (0, .inr (.inr (some 91))), (1, .inl (nI i)), (2, .inl (nI (im W i)))], [.inr (.inr (mu_r Hsa m 8))], Hsa)) (C := [mu_is Hsa (some m) 6]) rfl (show mu_is Hsa (some m) 6 from (show mu_is Hsa (some m) 6 from gi_im ua.1.1 ua.2)) ?_
    rw [(show mu_r Hsa m 8 = some (m + 17) from (gi_mr ua.1.1 ua.2 (j := 8) (by decide)).trans (congrArg some (by omega)))]
    refine mw_go mu_g191 (k := 2) (f1 := (55, [(3, .inl (nI c)), (0, .inr (.inr (some 91))), (1, .inl (nI i)), (2, .inl (nI (im W i)))], [.inl (0 : Int32), .inl (nI c), .inr (.inr (some (m + 17)))], Hsa)) (C := []) rfl trivial ?_
    refine mw_cIe (fun _ => rfl) (show mu_is Hsa (some (m + 17)) 10 from ((ua.1.1.w (md_w8 ua.2)).1)) (dm.getr (d := (d + 3)) (dn.dm ua) da (j := 8) (by decide) rfl (nI c) (c := 0) (by decide)) ?_
    rw [show (tget (ak m H 8) (nI c) 0) = ((W 8).2 c 0) from ((tget_nI (by omega)).trans (by rw [hj.1 8 (by decide) (by decide) (by decide)]))]
    refine mw_go mu_g191 (k := 3) (f1 := (64, [(4, .inl ((W 8).2 c 0)), (3, .inl (nI c)), (0, .inr (.inr (some 91))), (1, .inl (nI i)), (2, .inl (nI (im W i)))], [.inl (6 : Int32), .inl ((W 8).2 c 0)], Hsa)) (C := []) rfl trivial ?_
    refine mw_if (P := ((W 8).2 c 0) = (6 : Int32)) (a := 67) (b := 71) (fun _ => rfl) trivial (fun h6 => ?_) (fun h6 => ?_)
    · -- 67: ((W 8).2 c 0) = (6 : Int32)
      refine mw_go mu_g191 (k := 6) (f1 := (90, [(5, .inl (1 : Int32)), (4, .inl ((W 8).2 c 0)), (3, .inl (nI c)), (0, .inr (.inr (some 91))), (1, .inl (nI i)), (2, .inl (nI (im W i)))], [.inr (.inr (mu_r Hsa 91 3)), .inr (.inr (some 91))], Hsa)) (C := [mu_is Hsa (some 91) 3]) rfl (show mu_is Hsa (some 91) 3 from (ua.1.1.is rfl)) ?_
      rw [(ua.1.2.1)]
      refine mw_go mu_g191 (k := 1) (f1 := (93, [(5, .inl (1 : Int32)), (4, .inl ((W 8).2 c 0)), (3, .inl (nI c)), (0, .inr (.inr (some 91))), (1, .inl (nI i)), (2, .inl (nI (im W i)))], [.inr (.inr (mu_r Hsa m 8)), .inr (.inr (some 91))], Hsa)) (C := [mu_is Hsa (some m) 6]) rfl (show mu_is Hsa (some m) 6 from (show mu_is Hsa (some m) 6 from gi_im ua.1.1 ua.2)) ?_
      rw [(show mu_r Hsa m 8 = some (m + 17) from (gi_mr ua.1.1 ua.2 (j := 8) (by decide)).trans (congrArg some (by omega)))]
      refine mw_go mu_g191 (k := 2) (f1 := (95, [(5, .inl (1 : Int32)), (4, .inl ((W 8).2 c 0)), (3, .inl (nI c)), (0, .inr (.inr (some 91))), (1, .inl (nI i)), (2, .inl (nI (im W i)))], [.inl (1 : Int32), .inl (nI c), .inr (.inr (some (m + 17))), .inr (.inr (some 91))], Hsa)) (C := []) rfl trivial ?_
      refine mw_cIe (fun _ => rfl) (show mu_is Hsa (some (m + 17)) 10 from ((ua.1.1.w (md_w8 ua.2)).1)) (dm.getr (d := (d + 3)) (dn.dm ua) da (j := 8) (by decide) rfl (nI c) (c := 1) (by decide)) ?_
      rw [show (tget (ak m H 8) (nI c) 1) = (nI a) from ((tget_nI (by omega)).trans (by rw [hj.1 8 (by decide) (by decide) (by decide)]; exact ea1))]
      refine mw_go mu_g191 (k := 2) (f1 := (102, [(5, .inl (1 : Int32)), (4, .inl ((W 8).2 c 0)), (3, .inl (nI c)), (0, .inr (.inr (some 91))), (1, .inl (nI i)), (2, .inl (nI (im W i)))], [.inr (.inr (mu_r Hsa 91 3)), .inl (nI a), .inr (.inr (some 91))], Hsa)) (C := [mu_is Hsa (some 91) 3]) rfl (show mu_is Hsa (some 91) 3 from (ua.1.1.is rfl)) ?_
      rw [(ua.1.2.1)]
      refine mw_go mu_g191 (k := 1) (f1 := (105, [(5, .inl (1 : Int32)), (4, .inl ((W 8).2 c 0)), (3, .inl (nI c)), (0, .inr (.inr (some 91))), (1, .inl (nI i)), (2, .inl (nI (im W i)))], [.inr (.inr (mu_r Hsa m 8)), .inl (nI a), .inr (.inr (some 91))], Hsa)) (C := [mu_is Hsa (some m) 6]) rfl (show mu_is Hsa (some m) 6 from (show mu_is Hsa (some m) 6 from gi_im ua.1.1 ua.2)) ?_
      rw [(show mu_r Hsa m 8 = some (m + 17) from (gi_mr ua.1.1 ua.2 (j := 8) (by decide)).trans (congrArg some (by omega)))]
      refine mw_go mu_g191 (k := 2) (f1 := (107, [(5, .inl (1 : Int32)), (4, .inl ((W 8).2 c 0)), (3, .inl (nI c)), (0, .inr (.inr (some 91))), (1, .inl (nI i)), (2, .inl (nI (im W i)))], [.inl (2 : Int32), .inl (nI c), .inr (.inr (some (m + 17))), .inl (nI a), .inr (.inr (some 91))], Hsa)) (C := []) rfl trivial ?_
      refine mw_cIe (fun _ => rfl) (show mu_is Hsa (some (m + 17)) 10 from ((ua.1.1.w (md_w8 ua.2)).1)) (dm.getr (d := (d + 3)) (dn.dm ua) da (j := 8) (by decide) rfl (nI c) (c := 2) (by decide)) ?_
      rw [show (tget (ak m H 8) (nI c) 2) = (nI (a + N)) from ((tget_nI (by omega)).trans (by rw [hj.1 8 (by decide) (by decide) (by decide)]; exact eb1))]
      refine mw_go mu_g191 (k := 2) (f1 := (113, [(5, .inl (1 : Int32)), (4, .inl ((W 8).2 c 0)), (3, .inl (nI c)), (0, .inr (.inr (some 91))), (1, .inl (nI i)), (2, .inl (nI (im W i)))], [.inl (1 : Int32), .inl (nI i), .inl (nI (a + N)), .inl (nI a), .inr (.inr (some 91))], Hsa)) (C := []) rfl trivial ?_
      refine mw_cI (fun _ => rfl) (show mu_is Hsa (some 91) 3 from (ua.1.1.is rfl)) (jg_sort3 (d := d) (W := W) (i := i) (a := a) (N := N) (al := (1 : Int32)) (kd := false) ua (by rw [da]; exact hj) hW hi hrg (by rw [hta.len h.1.1]; exact hN)) (fun x9 Q9 q9 => ?_)
      obtain ⟨u9, r9, k9⟩ := q9
      have ht9 : jq H Q9 := hta.trans r9
      have d9 : ak m Q9 = ak m H := ht9.ak h.2
      have jl9 : jn Q9 = jn H := ht9.len h.1.1
      rw [da] at k9
      refine mw_go mu_g191 (k := 3) (f1 := (121, [(6, .inl x9), (5, .inl (1 : Int32)), (4, .inl ((W 8).2 c 0)), (3, .inl (nI c)), (0, .inr (.inr (some 91))), (1, .inl (nI i)), (2, .inl (nI (im W i)))], [.inl (1 : Int32), .inl x9], Q9)) (C := []) rfl trivial ?_
      refine mw_if (P := x9 = (1 : Int32)) (a := 133) (b := 124) (fun _ => rfl) trivial (fun h10 => ?_) (fun h10 => ?_)
      · -- 133: x9 = (1 : Int32)
        refine mw_go mu_g191 (k := 1) (f1 := (136, [(3, .inl ((nI c) + 1)), (6, .inl x9), (5, .inl (1 : Int32)), (4, .inl ((W 8).2 c 0)), (0, .inr (.inr (some 91))), (1, .inl (nI i)), (2, .inl (nI (im W i)))], [], Q9)) (C := []) rfl trivial ?_
        rw [(show ((nI c) + 1) = (nI (c + 1)) from (nI_add c 1))]
        refine mw_go mu_g191 (k := 1) (f1 := (26, [(3, .inl (nI (c + 1))), (6, .inl x9), (5, .inl (1 : Int32)), (4, .inl ((W 8).2 c 0)), (0, .inr (.inr (some 91))), (1, .inl (nI i)), (2, .inl (nI (im W i)))], [], Q9)) (C := []) rfl trivial ?_
        exact mw_sub (by simp) (iha (c + 1, Q9) ⟨u9, ht9, (show sp W (im W i) 5 ≤ (c + 1) from (by omega)), (show (c + 1) ≤ sp W (im W i + 1) 5 from (by omega)), (show ∀ y, sp W (im W i) 5 ≤ y → y < (c + 1) → CLM W (fun e => (ak m H 13).2 e 4) i y from (fun y hy1 hy2 => by by_cases ey : y = c; (rw [ey]; obtain ⟨rs, k1, k2⟩ := k9.resolve_left (by rw [h10]; decide); exact ⟨a, N, rs, ea1, eb1, hrg, by rw [if_pos h6]; exact k1, by rw [← k2]; exact Or.inl h10⟩); exact hK y hy1 (by omega)))⟩ (by show sp W (im W i + 1) 5 - (c + 1) < sp W (im W i + 1) 5 - c; omega))
      · -- 124: not x9 = (1 : Int32)
        refine mw_go mu_g191 (k := 2) (f1 := (128, [(6, .inl x9), (5, .inl (1 : Int32)), (4, .inl ((W 8).2 c 0)), (3, .inl (nI c)), (0, .inr (.inr (some 91))), (1, .inl (nI i)), (2, .inl (nI (im W i)))], [.inl (9 : Int32), .inl x9], Q9)) (C := []) rfl trivial ?_
        refine mw_if (P := x9 = (9 : Int32)) (a := 133) (b := 131) (fun _ => rfl) trivial (fun h11 => ?_) (fun h11 => ?_)
        · -- 133: x9 = (9 : Int32)
          refine mw_go mu_g191 (k := 1) (f1 := (136, [(3, .inl ((nI c) + 1)), (6, .inl x9), (5, .inl (1 : Int32)), (4, .inl ((W 8).2 c 0)), (0, .inr (.inr (some 91))), (1, .inl (nI i)), (2, .inl (nI (im W i)))], [], Q9)) (C := []) rfl trivial ?_
          rw [(show ((nI c) + 1) = (nI (c + 1)) from (nI_add c 1))]
          refine mw_go mu_g191 (k := 1) (f1 := (26, [(3, .inl (nI (c + 1))), (6, .inl x9), (5, .inl (1 : Int32)), (4, .inl ((W 8).2 c 0)), (0, .inr (.inr (some 91))), (1, .inl (nI i)), (2, .inl (nI (im W i)))], [], Q9)) (C := []) rfl trivial ?_
          exact mw_sub (by simp) (iha (c + 1, Q9) ⟨u9, ht9, (show sp W (im W i) 5 ≤ (c + 1) from (by omega)), (show (c + 1) ≤ sp W (im W i + 1) 5 from (by omega)), (show ∀ y, sp W (im W i) 5 ≤ y → y < (c + 1) → CLM W (fun e => (ak m H 13).2 e 4) i y from (fun y hy1 hy2 => by by_cases ey : y = c; (rw [ey]; obtain ⟨rs, k1, k2⟩ := k9.resolve_left (by rw [h11]; decide); exact ⟨a, N, rs, ea1, eb1, hrg, by rw [if_pos h6]; exact k1, by rw [← k2]; exact Or.inr h11⟩); exact hK y hy1 (by omega)))⟩ (by show sp W (im W i + 1) 5 - (c + 1) < sp W (im W i + 1) 5 - c; omega))
        · -- 131: not x9 = (9 : Int32)
          refine mw_go mu_g191 (k := 1) (f1 := (132, [(6, .inl x9), (5, .inl (1 : Int32)), (4, .inl ((W 8).2 c 0)), (3, .inl (nI c)), (0, .inr (.inr (some 91))), (1, .inl (nI i)), (2, .inl (nI (im W i)))], [.inl (0 : Int32)], Q9)) (C := []) rfl trivial ?_
          exact mw_of (fun _ => mu_ret rfl (Or.inl rfl) ⟨_, Q9, rfl, u9, ht9, Or.inl rfl⟩)
    · -- 71: not ((W 8).2 c 0) = (6 : Int32)
      refine mw_go mu_g191 (k := 2) (f1 := (75, [(4, .inl ((W 8).2 c 0)), (3, .inl (nI c)), (0, .inr (.inr (some 91))), (1, .inl (nI i)), (2, .inl (nI (im W i)))], [.inl (8 : Int32), .inl ((W 8).2 c 0)], Hsa)) (C := []) rfl trivial ?_
      refine mw_if (P := ((W 8).2 c 0) = (8 : Int32)) (a := 78) (b := 82) (fun _ => rfl) trivial (fun h12 => ?_) (fun h12 => ?_)
      · -- 78: ((W 8).2 c 0) = (8 : Int32)
        refine mw_go mu_g191 (k := 6) (f1 := (90, [(5, .inl (2 : Int32)), (4, .inl ((W 8).2 c 0)), (3, .inl (nI c)), (0, .inr (.inr (some 91))), (1, .inl (nI i)), (2, .inl (nI (im W i)))], [.inr (.inr (mu_r Hsa 91 3)), .inr (.inr (some 91))], Hsa)) (C := [mu_is Hsa (some 91) 3]) rfl (show mu_is Hsa (some 91) 3 from (ua.1.1.is rfl)) ?_
        rw [(ua.1.2.1)]
        refine mw_go mu_g191 (k := 1) (f1 := (93, [(5, .inl (2 : Int32)), (4, .inl ((W 8).2 c 0)), (3, .inl (nI c)), (0, .inr (.inr (some 91))), (1, .inl (nI i)), (2, .inl (nI (im W i)))], [.inr (.inr (mu_r Hsa m 8)), .inr (.inr (some 91))], Hsa)) (C := [mu_is Hsa (some m) 6]) rfl (show mu_is Hsa (some m) 6 from (show mu_is Hsa (some m) 6 from gi_im ua.1.1 ua.2)) ?_
        rw [(show mu_r Hsa m 8 = some (m + 17) from (gi_mr ua.1.1 ua.2 (j := 8) (by decide)).trans (congrArg some (by omega)))]
        refine mw_go mu_g191 (k := 2) (f1 := (95, [(5, .inl (2 : Int32)), (4, .inl ((W 8).2 c 0)), (3, .inl (nI c)), (0, .inr (.inr (some 91))), (1, .inl (nI i)), (2, .inl (nI (im W i)))], [.inl (1 : Int32), .inl (nI c), .inr (.inr (some (m + 17))), .inr (.inr (some 91))], Hsa)) (C := []) rfl trivial ?_
        refine mw_cIe (fun _ => rfl) (show mu_is Hsa (some (m + 17)) 10 from ((ua.1.1.w (md_w8 ua.2)).1)) (dm.getr (d := (d + 3)) (dn.dm ua) da (j := 8) (by decide) rfl (nI c) (c := 1) (by decide)) ?_
        rw [show (tget (ak m H 8) (nI c) 1) = (nI a) from ((tget_nI (by omega)).trans (by rw [hj.1 8 (by decide) (by decide) (by decide)]; exact ea1))]
        refine mw_go mu_g191 (k := 2) (f1 := (102, [(5, .inl (2 : Int32)), (4, .inl ((W 8).2 c 0)), (3, .inl (nI c)), (0, .inr (.inr (some 91))), (1, .inl (nI i)), (2, .inl (nI (im W i)))], [.inr (.inr (mu_r Hsa 91 3)), .inl (nI a), .inr (.inr (some 91))], Hsa)) (C := [mu_is Hsa (some 91) 3]) rfl (show mu_is Hsa (some 91) 3 from (ua.1.1.is rfl)) ?_
        rw [(ua.1.2.1)]
        refine mw_go mu_g191 (k := 1) (f1 := (105, [(5, .inl (2 : Int32)), (4, .inl ((W 8).2 c 0)), (3, .inl (nI c)), (0, .inr (.inr (some 91))), (1, .inl (nI i)), (2, .inl (nI (im W i)))], [.inr (.inr (mu_r Hsa m 8)), .inl (nI a), .inr (.inr (some 91))], Hsa)) (C := [mu_is Hsa (some m) 6]) rfl (show mu_is Hsa (some m) 6 from (show mu_is Hsa (some m) 6 from gi_im ua.1.1 ua.2)) ?_
        rw [(show mu_r Hsa m 8 = some (m + 17) from (gi_mr ua.1.1 ua.2 (j := 8) (by decide)).trans (congrArg some (by omega)))]
        refine mw_go mu_g191 (k := 2) (f1 := (107, [(5, .inl (2 : Int32)), (4, .inl ((W 8).2 c 0)), (3, .inl (nI c)), (0, .inr (.inr (some 91))), (1, .inl (nI i)), (2, .inl (nI (im W i)))], [.inl (2 : Int32), .inl (nI c), .inr (.inr (some (m + 17))), .inl (nI a), .inr (.inr (some 91))], Hsa)) (C := []) rfl trivial ?_
        refine mw_cIe (fun _ => rfl) (show mu_is Hsa (some (m + 17)) 10 from ((ua.1.1.w (md_w8 ua.2)).1)) (dm.getr (d := (d + 3)) (dn.dm ua) da (j := 8) (by decide) rfl (nI c) (c := 2) (by decide)) ?_
        rw [show (tget (ak m H 8) (nI c) 2) = (nI (a + N)) from ((tget_nI (by omega)).trans (by rw [hj.1 8 (by decide) (by decide) (by decide)]; exact eb1))]
        refine mw_go mu_g191 (k := 2) (f1 := (113, [(5, .inl (2 : Int32)), (4, .inl ((W 8).2 c 0)), (3, .inl (nI c)), (0, .inr (.inr (some 91))), (1, .inl (nI i)), (2, .inl (nI (im W i)))], [.inl (2 : Int32), .inl (nI i), .inl (nI (a + N)), .inl (nI a), .inr (.inr (some 91))], Hsa)) (C := []) rfl trivial ?_
        refine mw_cI (fun _ => rfl) (show mu_is Hsa (some 91) 3 from (ua.1.1.is rfl)) (jg_sort3 (d := d) (W := W) (i := i) (a := a) (N := N) (al := (2 : Int32)) (kd := false) ua (by rw [da]; exact hj) hW hi hrg (by rw [hta.len h.1.1]; exact hN)) (fun x15 Q15 q15 => ?_)
        obtain ⟨u15, r15, k15⟩ := q15
        have ht15 : jq H Q15 := hta.trans r15
        have d15 : ak m Q15 = ak m H := ht15.ak h.2
        have jl15 : jn Q15 = jn H := ht15.len h.1.1
        rw [da] at k15
        refine mw_go mu_g191 (k := 3) (f1 := (121, [(6, .inl x15), (5, .inl (2 : Int32)), (4, .inl ((W 8).2 c 0)), (3, .inl (nI c)), (0, .inr (.inr (some 91))), (1, .inl (nI i)), (2, .inl (nI (im W i)))], [.inl (1 : Int32), .inl x15], Q15)) (C := []) rfl trivial ?_
        refine mw_if (P := x15 = (1 : Int32)) (a := 133) (b := 124) (fun _ => rfl) trivial (fun h16 => ?_) (fun h16 => ?_)
        · -- 133: x15 = (1 : Int32)
          refine mw_go mu_g191 (k := 1) (f1 := (136, [(3, .inl ((nI c) + 1)), (6, .inl x15), (5, .inl (2 : Int32)), (4, .inl ((W 8).2 c 0)), (0, .inr (.inr (some 91))), (1, .inl (nI i)), (2, .inl (nI (im W i)))], [], Q15)) (C := []) rfl trivial ?_
          rw [(show ((nI c) + 1) = (nI (c + 1)) from (nI_add c 1))]
          refine mw_go mu_g191 (k := 1) (f1 := (26, [(3, .inl (nI (c + 1))), (6, .inl x15), (5, .inl (2 : Int32)), (4, .inl ((W 8).2 c 0)), (0, .inr (.inr (some 91))), (1, .inl (nI i)), (2, .inl (nI (im W i)))], [], Q15)) (C := []) rfl trivial ?_
          exact mw_sub (by simp) (iha (c + 1, Q15) ⟨u15, ht15, (show sp W (im W i) 5 ≤ (c + 1) from (by omega)), (show (c + 1) ≤ sp W (im W i + 1) 5 from (by omega)), (show ∀ y, sp W (im W i) 5 ≤ y → y < (c + 1) → CLM W (fun e => (ak m H 13).2 e 4) i y from (fun y hy1 hy2 => by by_cases ey : y = c; (rw [ey]; obtain ⟨rs, k1, k2⟩ := k15.resolve_left (by rw [h16]; decide); exact ⟨a, N, rs, ea1, eb1, hrg, by rw [if_neg h6, if_pos h12]; exact k1, by rw [← k2]; exact Or.inl h16⟩); exact hK y hy1 (by omega)))⟩ (by show sp W (im W i + 1) 5 - (c + 1) < sp W (im W i + 1) 5 - c; omega))
        · -- 124: not x15 = (1 : Int32)
          refine mw_go mu_g191 (k := 2) (f1 := (128, [(6, .inl x15), (5, .inl (2 : Int32)), (4, .inl ((W 8).2 c 0)), (3, .inl (nI c)), (0, .inr (.inr (some 91))), (1, .inl (nI i)), (2, .inl (nI (im W i)))], [.inl (9 : Int32), .inl x15], Q15)) (C := []) rfl trivial ?_
          refine mw_if (P := x15 = (9 : Int32)) (a := 133) (b := 131) (fun _ => rfl) trivial (fun h17 => ?_) (fun h17 => ?_)
          · -- 133: x15 = (9 : Int32)
            refine mw_go mu_g191 (k := 1) (f1 := (136, [(3, .inl ((nI c) + 1)), (6, .inl x15), (5, .inl (2 : Int32)), (4, .inl ((W 8).2 c 0)), (0, .inr (.inr (some 91))), (1, .inl (nI i)), (2, .inl (nI (im W i)))], [], Q15)) (C := []) rfl trivial ?_
            rw [(show ((nI c) + 1) = (nI (c + 1)) from (nI_add c 1))]
            refine mw_go mu_g191 (k := 1) (f1 := (26, [(3, .inl (nI (c + 1))), (6, .inl x15), (5, .inl (2 : Int32)), (4, .inl ((W 8).2 c 0)), (0, .inr (.inr (some 91))), (1, .inl (nI i)), (2, .inl (nI (im W i)))], [], Q15)) (C := []) rfl trivial ?_
            exact mw_sub (by simp) (iha (c + 1, Q15) ⟨u15, ht15, (show sp W (im W i) 5 ≤ (c + 1) from (by omega)), (show (c + 1) ≤ sp W (im W i + 1) 5 from (by omega)), (show ∀ y, sp W (im W i) 5 ≤ y → y < (c + 1) → CLM W (fun e => (ak m H 13).2 e 4) i y from (fun y hy1 hy2 => by by_cases ey : y = c; (rw [ey]; obtain ⟨rs, k1, k2⟩ := k15.resolve_left (by rw [h17]; decide); exact ⟨a, N, rs, ea1, eb1, hrg, by rw [if_neg h6, if_pos h12]; exact k1, by rw [← k2]; exact Or.inr h17⟩); exact hK y hy1 (by omega)))⟩ (by show sp W (im W i + 1) 5 - (c + 1) < sp W (im W i + 1) 5 - c; omega))
          · -- 131: not x15 = (9 : Int32)
            refine mw_go mu_g191 (k := 1) (f1 := (132, [(6, .inl x15), (5, .inl (2 : Int32)), (4, .inl ((W 8).2 c 0)), (3, .inl (nI c)), (0, .inr (.inr (some 91))), (1, .inl (nI i)), (2, .inl (nI (im W i)))], [.inl (0 : Int32)], Q15)) (C := []) rfl trivial ?_
            exact mw_of (fun _ => mu_ret rfl (Or.inl rfl) ⟨_, Q15, rfl, u15, ht15, Or.inl rfl⟩)
      · -- 82: not ((W 8).2 c 0) = (8 : Int32)
        refine mw_go mu_g191 (k := 5) (f1 := (90, [(5, .inl (0 : Int32)), (4, .inl ((W 8).2 c 0)), (3, .inl (nI c)), (0, .inr (.inr (some 91))), (1, .inl (nI i)), (2, .inl (nI (im W i)))], [.inr (.inr (mu_r Hsa 91 3)), .inr (.inr (some 91))], Hsa)) (C := [mu_is Hsa (some 91) 3]) rfl (show mu_is Hsa (some 91) 3 from (ua.1.1.is rfl)) ?_
        rw [(ua.1.2.1)]
        refine mw_go mu_g191 (k := 1) (f1 := (93, [(5, .inl (0 : Int32)), (4, .inl ((W 8).2 c 0)), (3, .inl (nI c)), (0, .inr (.inr (some 91))), (1, .inl (nI i)), (2, .inl (nI (im W i)))], [.inr (.inr (mu_r Hsa m 8)), .inr (.inr (some 91))], Hsa)) (C := [mu_is Hsa (some m) 6]) rfl (show mu_is Hsa (some m) 6 from (show mu_is Hsa (some m) 6 from gi_im ua.1.1 ua.2)) ?_
        rw [(show mu_r Hsa m 8 = some (m + 17) from (gi_mr ua.1.1 ua.2 (j := 8) (by decide)).trans (congrArg some (by omega)))]
        refine mw_go mu_g191 (k := 2) (f1 := (95, [(5, .inl (0 : Int32)), (4, .inl ((W 8).2 c 0)), (3, .inl (nI c)), (0, .inr (.inr (some 91))), (1, .inl (nI i)), (2, .inl (nI (im W i)))], [.inl (1 : Int32), .inl (nI c), .inr (.inr (some (m + 17))), .inr (.inr (some 91))], Hsa)) (C := []) rfl trivial ?_
        refine mw_cIe (fun _ => rfl) (show mu_is Hsa (some (m + 17)) 10 from ((ua.1.1.w (md_w8 ua.2)).1)) (dm.getr (d := (d + 3)) (dn.dm ua) da (j := 8) (by decide) rfl (nI c) (c := 1) (by decide)) ?_
        rw [show (tget (ak m H 8) (nI c) 1) = (nI a) from ((tget_nI (by omega)).trans (by rw [hj.1 8 (by decide) (by decide) (by decide)]; exact ea1))]
        refine mw_go mu_g191 (k := 2) (f1 := (102, [(5, .inl (0 : Int32)), (4, .inl ((W 8).2 c 0)), (3, .inl (nI c)), (0, .inr (.inr (some 91))), (1, .inl (nI i)), (2, .inl (nI (im W i)))], [.inr (.inr (mu_r Hsa 91 3)), .inl (nI a), .inr (.inr (some 91))], Hsa)) (C := [mu_is Hsa (some 91) 3]) rfl (show mu_is Hsa (some 91) 3 from (ua.1.1.is rfl)) ?_
        rw [(ua.1.2.1)]
        refine mw_go mu_g191 (k := 1) (f1 := (105, [(5, .inl (0 : Int32)), (4, .inl ((W 8).2 c 0)), (3, .inl (nI c)), (0, .inr (.inr (some 91))), (1, .inl (nI i)), (2, .inl (nI (im W i)))], [.inr (.inr (mu_r Hsa m 8)), .inl (nI a), .inr (.inr (some 91))], Hsa)) (C := [mu_is Hsa (some m) 6]) rfl (show mu_is Hsa (some m) 6 from (show mu_is Hsa (some m) 6 from gi_im ua.1.1 ua.2)) ?_
        rw [(show mu_r Hsa m 8 = some (m + 17) from (gi_mr ua.1.1 ua.2 (j := 8) (by decide)).trans (congrArg some (by omega)))]
        refine mw_go mu_g191 (k := 2) (f1 := (107, [(5, .inl (0 : Int32)), (4, .inl ((W 8).2 c 0)), (3, .inl (nI c)), (0, .inr (.inr (some 91))), (1, .inl (nI i)), (2, .inl (nI (im W i)))], [.inl (2 : Int32), .inl (nI c), .inr (.inr (some (m + 17))), .inl (nI a), .inr (.inr (some 91))], Hsa)) (C := []) rfl trivial ?_
        refine mw_cIe (fun _ => rfl) (show mu_is Hsa (some (m + 17)) 10 from ((ua.1.1.w (md_w8 ua.2)).1)) (dm.getr (d := (d + 3)) (dn.dm ua) da (j := 8) (by decide) rfl (nI c) (c := 2) (by decide)) ?_
        rw [show (tget (ak m H 8) (nI c) 2) = (nI (a + N)) from ((tget_nI (by omega)).trans (by rw [hj.1 8 (by decide) (by decide) (by decide)]; exact eb1))]
        refine mw_go mu_g191 (k := 2) (f1 := (113, [(5, .inl (0 : Int32)), (4, .inl ((W 8).2 c 0)), (3, .inl (nI c)), (0, .inr (.inr (some 91))), (1, .inl (nI i)), (2, .inl (nI (im W i)))], [.inl (0 : Int32), .inl (nI i), .inl (nI (a + N)), .inl (nI a), .inr (.inr (some 91))], Hsa)) (C := []) rfl trivial ?_
        refine mw_cI (fun _ => rfl) (show mu_is Hsa (some 91) 3 from (ua.1.1.is rfl)) (jg_sort3 (d := d) (W := W) (i := i) (a := a) (N := N) (al := (0 : Int32)) (kd := false) ua (by rw [da]; exact hj) hW hi hrg (by rw [hta.len h.1.1]; exact hN)) (fun x20 Q20 q20 => ?_)
        obtain ⟨u20, r20, k20⟩ := q20
        have ht20 : jq H Q20 := hta.trans r20
        have d20 : ak m Q20 = ak m H := ht20.ak h.2
        have jl20 : jn Q20 = jn H := ht20.len h.1.1
        rw [da] at k20
        refine mw_go mu_g191 (k := 3) (f1 := (121, [(6, .inl x20), (5, .inl (0 : Int32)), (4, .inl ((W 8).2 c 0)), (3, .inl (nI c)), (0, .inr (.inr (some 91))), (1, .inl (nI i)), (2, .inl (nI (im W i)))], [.inl (1 : Int32), .inl x20], Q20)) (C := []) rfl trivial ?_
        refine mw_if (P := x20 = (1 : Int32)) (a := 133) (b := 124) (fun _ => rfl) trivial (fun h21 => ?_) (fun h21 => ?_)
        · -- 133: x20 = (1 : Int32)
          refine mw_go mu_g191 (k := 1) (f1 := (136, [(3, .inl ((nI c) + 1)), (6, .inl x20), (5, .inl (0 : Int32)), (4, .inl ((W 8).2 c 0)), (0, .inr (.inr (some 91))), (1, .inl (nI i)), (2, .inl (nI (im W i)))], [], Q20)) (C := []) rfl trivial ?_
          rw [(show ((nI c) + 1) = (nI (c + 1)) from (nI_add c 1))]
          refine mw_go mu_g191 (k := 1) (f1 := (26, [(3, .inl (nI (c + 1))), (6, .inl x20), (5, .inl (0 : Int32)), (4, .inl ((W 8).2 c 0)), (0, .inr (.inr (some 91))), (1, .inl (nI i)), (2, .inl (nI (im W i)))], [], Q20)) (C := []) rfl trivial ?_
          exact mw_sub (by simp) (iha (c + 1, Q20) ⟨u20, ht20, (show sp W (im W i) 5 ≤ (c + 1) from (by omega)), (show (c + 1) ≤ sp W (im W i + 1) 5 from (by omega)), (show ∀ y, sp W (im W i) 5 ≤ y → y < (c + 1) → CLM W (fun e => (ak m H 13).2 e 4) i y from (fun y hy1 hy2 => by by_cases ey : y = c; (rw [ey]; obtain ⟨rs, k1, k2⟩ := k20.resolve_left (by rw [h21]; decide); exact ⟨a, N, rs, ea1, eb1, hrg, by rw [if_neg h6, if_neg h12]; exact k1, by rw [← k2]; exact Or.inl h21⟩); exact hK y hy1 (by omega)))⟩ (by show sp W (im W i + 1) 5 - (c + 1) < sp W (im W i + 1) 5 - c; omega))
        · -- 124: not x20 = (1 : Int32)
          refine mw_go mu_g191 (k := 2) (f1 := (128, [(6, .inl x20), (5, .inl (0 : Int32)), (4, .inl ((W 8).2 c 0)), (3, .inl (nI c)), (0, .inr (.inr (some 91))), (1, .inl (nI i)), (2, .inl (nI (im W i)))], [.inl (9 : Int32), .inl x20], Q20)) (C := []) rfl trivial ?_
          refine mw_if (P := x20 = (9 : Int32)) (a := 133) (b := 131) (fun _ => rfl) trivial (fun h22 => ?_) (fun h22 => ?_)
          · -- 133: x20 = (9 : Int32)
            refine mw_go mu_g191 (k := 1) (f1 := (136, [(3, .inl ((nI c) + 1)), (6, .inl x20), (5, .inl (0 : Int32)), (4, .inl ((W 8).2 c 0)), (0, .inr (.inr (some 91))), (1, .inl (nI i)), (2, .inl (nI (im W i)))], [], Q20)) (C := []) rfl trivial ?_
            rw [(show ((nI c) + 1) = (nI (c + 1)) from (nI_add c 1))]
            refine mw_go mu_g191 (k := 1) (f1 := (26, [(3, .inl (nI (c + 1))), (6, .inl x20), (5, .inl (0 : Int32)), (4, .inl ((W 8).2 c 0)), (0, .inr (.inr (some 91))), (1, .inl (nI i)), (2, .inl (nI (im W i)))], [], Q20)) (C := []) rfl trivial ?_
            exact mw_sub (by simp) (iha (c + 1, Q20) ⟨u20, ht20, (show sp W (im W i) 5 ≤ (c + 1) from (by omega)), (show (c + 1) ≤ sp W (im W i + 1) 5 from (by omega)), (show ∀ y, sp W (im W i) 5 ≤ y → y < (c + 1) → CLM W (fun e => (ak m H 13).2 e 4) i y from (fun y hy1 hy2 => by by_cases ey : y = c; (rw [ey]; obtain ⟨rs, k1, k2⟩ := k20.resolve_left (by rw [h22]; decide); exact ⟨a, N, rs, ea1, eb1, hrg, by rw [if_neg h6, if_neg h12]; exact k1, by rw [← k2]; exact Or.inr h22⟩); exact hK y hy1 (by omega)))⟩ (by show sp W (im W i + 1) 5 - (c + 1) < sp W (im W i + 1) 5 - c; omega))
          · -- 131: not x20 = (9 : Int32)
            refine mw_go mu_g191 (k := 1) (f1 := (132, [(6, .inl x20), (5, .inl (0 : Int32)), (4, .inl ((W 8).2 c 0)), (3, .inl (nI c)), (0, .inr (.inr (some 91))), (1, .inl (nI i)), (2, .inl (nI (im W i)))], [.inl (0 : Int32)], Q20)) (C := []) rfl trivial ?_
            exact mw_of (fun _ => mu_ret rfl (Or.inl rfl) ⟨_, Q20, rfl, u20, ht20, Or.inl rfl⟩)
  · -- 139: not (nI c) < (nI (sp W (im W i + 1) 5))
    have nh4 : ¬ c < (sp W (im W i + 1) 5) := fun z => h4 (show nI c < nI (sp W (im W i + 1) 5) from (nI_ltI (by omega) (by omega)).mpr z)
    refine mw_go mu_g191 (k := 1) (f1 := (140, [(3, .inl (nI c)), (0, .inr (.inr (some 91))), (1, .inl (nI i)), (2, .inl (nI (im W i)))], [.inl (1 : Int32)], Hsa)) (C := []) rfl trivial ?_
    exact mw_of (fun _ => mu_ret rfl (Or.inr rfl) ⟨_, Hsa, rfl, ua, hta, Or.inr ⟨rfl, fun y hy1 hy2 => hK y hy1 (by omega)⟩⟩)
theorem jg_lines3 (h : dn m H) (hj : jz W (ak m H)) (hW : JW W) (hi : i < (W 11).1) (hN : (W 0).1 < jn H) (hCr : Cr W 4 true 2 3) (hLV : ∀ q, q < (W 1).1 → ∀ n, sp W q 4 ≤ n → n < sp W (q + 1) 4 → LV W q n) : mu_TI (mu_D (d + 5)) 192 [.inr (.inr (some 91)), .inl (nI i)] H (fun x H1 => dn m H1 ∧ jq H H1 ∧ (x = 0 ∨ (x = 1 ∧ ∀ n, sp W (im W i) 4 ≤ n → n < sp W (im W i + 1) 4 → LIN W (fun e => (ak m H 13).2 e 4) i n))) := by
  have b := hW.2.2.2.2.2.2
  have b0 := b 0 (by decide)
  have b1 := b 1 (by decide)
  have b3 := b 3 (by decide)
  have b7 := b 7 (by decide)
  have b8 := b 8 (by decide)
  have b11 := b 11 (by decide)
  obtain ⟨-, -, -, hkM, -⟩ := hW.inst hi
  obtain ⟨l1, l2, l3⟩ := hW.le hkM (c := 4) (j := 7) (by decide) (by decide) rfl
  refine mu_meth (M := mu_m192) rfl rfl ?_
  refine mw_ht (mu_fn_of (show [0, 1].Nodup by decide)) ?_
  refine mw_go mu_g192 (k := 2) (f1 := (4, [(0, .inr (.inr (some 91))), (1, .inl (nI i))], [.inr (.inr (mu_r H 91 3))], H)) (C := [mu_is H (some 91) 3]) rfl (show mu_is H (some 91) 3 from (h.1.1.is rfl)) ?_
  rw [(h.1.2.1)]
  refine mw_go mu_g192 (k := 1) (f1 := (7, [(0, .inr (.inr (some 91))), (1, .inl (nI i))], [.inr (.inr (mu_r H m 11))], H)) (C := [mu_is H (some m) 6]) rfl (show mu_is H (some m) 6 from (show mu_is H (some m) 6 from gi_im h.1.1 h.2)) ?_
  rw [(show mu_r H m 11 = some (m + 23) from (gi_mr h.1.1 h.2 (j := 11) (by decide)).trans (congrArg some (by omega)))]
  refine mw_go mu_g192 (k := 2) (f1 := (9, [(0, .inr (.inr (some 91))), (1, .inl (nI i))], [.inl (0 : Int32), .inl (nI i), .inr (.inr (some (m + 23)))], H)) (C := []) rfl trivial ?_
  refine mw_cIe (fun _ => rfl) (show mu_is H (some (m + 23)) 10 from ((h.1.1.w (md_w11 h.2)).1)) (dm.getr (d := (d + 3)) (dn.dm h) (rfl : ak m H = ak m H) (j := 11) (by decide) rfl (nI i) (c := 0) (by decide)) ?_
  rw [show (tget (ak m H 11) (nI i) 0) = (nI (im W i)) from ((tget_nI (by omega)).trans (by rw [hj.1 11 (by decide) (by decide) (by decide)]; exact (hW.1 i hi).1.1))]
  refine mw_go mu_g192 (k := 3) (f1 := (17, [(2, .inl (nI (im W i))), (0, .inr (.inr (some 91))), (1, .inl (nI i))], [.inr (.inr (mu_r H 91 3))], H)) (C := [mu_is H (some 91) 3]) rfl (show mu_is H (some 91) 3 from (h.1.1.is rfl)) ?_
  rw [(h.1.2.1)]
  refine mw_go mu_g192 (k := 1) (f1 := (20, [(2, .inl (nI (im W i))), (0, .inr (.inr (some 91))), (1, .inl (nI i))], [.inr (.inr (mu_r H m 1))], H)) (C := [mu_is H (some m) 6]) rfl (show mu_is H (some m) 6 from (show mu_is H (some m) 6 from gi_im h.1.1 h.2)) ?_
  rw [(show mu_r H m 1 = some (m + 3) from (gi_mr h.1.1 h.2 (j := 1) (by decide)).trans (congrArg some (by omega)))]
  refine mw_go mu_g192 (k := 2) (f1 := (22, [(2, .inl (nI (im W i))), (0, .inr (.inr (some 91))), (1, .inl (nI i))], [.inl (4 : Int32), .inl (nI (im W i)), .inr (.inr (some (m + 3)))], H)) (C := []) rfl trivial ?_
  refine mw_cIe (fun _ => rfl) (show mu_is H (some (m + 3)) 10 from ((h.1.1.w (md_w1 h.2)).1)) (dm.getr (d := (d + 3)) (dn.dm h) (rfl : ak m H = ak m H) (j := 1) (by decide) rfl (nI (im W i)) (c := 4) (by decide)) ?_
  rw [show (tget (ak m H 1) (nI (im W i)) 4) = (nI (sp W (im W i) 4)) from ((tget_nI (by omega)).trans (by rw [hj.1 1 (by decide) (by decide) (by decide)]; exact (hW.2.2.2.2.2.1.1 _ hkM 4 (by decide) (by decide)).1))]
  refine mw_go mu_g192 (k := 1) (f1 := (26, [(3, .inl (nI (sp W (im W i) 4))), (2, .inl (nI (im W i))), (0, .inr (.inr (some 91))), (1, .inl (nI i))], [], H)) (C := []) rfl trivial ?_
  refine mw_sub (L' := [(3, .inl (nI (sp W (im W i) 4))), (0, .inr (.inr (some 91))), (1, .inl (nI i)), (2, .inl (nI (im W i)))]) (by simp) ?_
  refine mw_down (α := Nat × mu_H) (fun zs => (26, [(3, .inl (nI zs.1)), (0, .inr (.inr (some 91))), (1, .inl (nI i)), (2, .inl (nI (im W i)))], [], zs.2)) (fun zs => sp W (im W i + 1) 4 - zs.1) (fun zs => dn m zs.2 ∧ jq H zs.2 ∧ (sp W (im W i) 4 ≤ zs.1) ∧ (zs.1 ≤ sp W (im W i + 1) 4) ∧ (∀ y, sp W (im W i) 4 ≤ y → y < zs.1 → LIN W (fun e => (ak m H 13).2 e 4) i y)) (fun zs hza iha => ?_) (sp W (im W i) 4, H) ⟨h, (jq.refl H), (show sp W (im W i) 4 ≤ (sp W (im W i) 4) from (by omega)), (show (sp W (im W i) 4) ≤ sp W (im W i + 1) 4 from (by omega)), (show ∀ y, sp W (im W i) 4 ≤ y → y < (sp W (im W i) 4) → LIN W (fun e => (ak m H 13).2 e 4) i y from (fun y hy1 hy2 => by omega))⟩
  obtain ⟨c, Hsa⟩ := zs
  obtain ⟨ua, hta, hc1, hc2, hK⟩ := hza
  have ua : dn m Hsa := ua
  have hta : jq H Hsa := hta
  have da : ak m Hsa = ak m H := hta.ak h.2
  have jla : jn Hsa = jn H := hta.len h.1.1
  have hc1 : sp W (im W i) 4 ≤ c := hc1
  have hc2 : c ≤ sp W (im W i + 1) 4 := hc2
  have hK : ∀ y, sp W (im W i) 4 ≤ y → y < c → LIN W (fun e => (ak m H 13).2 e 4) i y := hK
  show mu_W _ _ (26, [(3, .inl (nI c)), (0, .inr (.inr (some 91))), (1, .inl (nI i)), (2, .inl (nI (im W i)))], [], Hsa) _
  refine mw_go mu_g192 (k := 3) (f1 := (31, [(3, .inl (nI c)), (0, .inr (.inr (some 91))), (1, .inl (nI i)), (2, .inl (nI (im W i)))], [.inr (.inr (mu_r Hsa 91 3)), .inl (nI c)], Hsa)) (C := [mu_is Hsa (some 91) 3]) rfl (show mu_is Hsa (some 91) 3 from (ua.1.1.is rfl)) ?_
  rw [(ua.1.2.1)]
  refine mw_go mu_g192 (k := 4) (f1 := (37, [(3, .inl (nI c)), (0, .inr (.inr (some 91))), (1, .inl (nI i)), (2, .inl (nI (im W i)))], [.inr (.inr (mu_r Hsa 91 3)), .inl (4 : Int32), .inl (nI (im W i)), .inr (.inr (some m)), .inl (nI c)], Hsa)) (C := [mu_is Hsa (some 91) 3]) rfl (show mu_is Hsa (some 91) 3 from (ua.1.1.is rfl)) ?_
  rw [(ua.1.2.1)]
  refine mw_go mu_g192 (k := 1) (f1 := (40, [(3, .inl (nI c)), (0, .inr (.inr (some 91))), (1, .inl (nI i)), (2, .inl (nI (im W i)))], [.inr (.inr (mu_r Hsa m 7)), .inl (4 : Int32), .inl (nI (im W i)), .inr (.inr (some m)), .inl (nI c)], Hsa)) (C := [mu_is Hsa (some m) 6]) rfl (show mu_is Hsa (some m) 6 from (show mu_is Hsa (some m) 6 from gi_im ua.1.1 ua.2)) ?_
  rw [(show mu_r Hsa m 7 = some (m + 15) from (gi_mr ua.1.1 ua.2 (j := 7) (by decide)).trans (congrArg some (by omega)))]
  refine mw_cIe (fun _ => rfl) (show mu_is Hsa (some m) 6 from (show mu_is Hsa (some m) 6 from gi_im ua.1.1 ua.2)) (dm.stopr (d := (d + 2)) (dn.dm ua) da (j := 7) (by decide) rfl (c := 4) (by decide) (nI (im W i))) ?_
  rw [show stp (ak m H) (nI (im W i)) 4 7 = nI (sp W (im W i + 1) 4) from stp_w hj hW hkM (by decide) (by decide) rfl (by decide)]
  refine mw_if (P := (nI c) < (nI (sp W (im W i + 1) 4))) (a := 46) (b := 110) (fun _ => rfl) trivial (fun h4 => ?_) (fun h4 => ?_)
  · -- 46: (nI c) < (nI (sp W (im W i + 1) 4))
    have nh4 : c < (sp W (im W i + 1) 4) := (nI_ltI (by omega) (by omega)).mp (show nI c < nI (sp W (im W i + 1) 4) from h4)
    obtain ⟨a, b0_, ea1, eb0, hrg0⟩ := hCr (im W i) hkM c hc1 (by omega)
    obtain ⟨N, hNe⟩ : ∃ N, b0_ = a + N := ⟨b0_ - a, by have := hrg0.1; omega⟩
    have hrg := hrg0
    rw [hNe] at hrg
    have eb1 := eb0
    rw [hNe] at eb1
    obtain ⟨v, ev, ev1, ev2, -⟩ := hLV (im W i) hkM c hc1 (by omega)
    obtain ⟨w1, w2, w3⟩ := hW.le hkM (c := 2) (j := 3) (by decide) (by decide) rfl
    have hvb : v < (W 3).1 := by omega
    refine mw_go mu_g192 (k := 3) (f1 := (51, [(3, .inl (nI c)), (0, .inr (.inr (some 91))), (1, .inl (nI i)), (2, .inl (nI (im W i)))], [.inr (.inr (mu_r Hsa 91 3)), .inr (.inr (some 91))], Hsa)) (C := [mu_is Hsa (some 91) 3]) rfl (show mu_is Hsa (some 91) 3 from (ua.1.1.is rfl)) ?_
    rw [(ua.1.2.1)]
    refine mw_go mu_g192 (k := 1) (f1 := (54, [(3, .inl (nI c)), (0, .inr (.inr (some 91))), (1, .inl (nI i)), (2, .inl (nI (im W i)))], [.inr (.inr (mu_r Hsa m 7)), .inr (.inr (some 91))], Hsa)) (C := [mu_is Hsa (some m) 6]) rfl (show mu_is Hsa (some m) 6 from (show mu_is Hsa (some m) 6 from gi_im ua.1.1 ua.2)) ?_
    rw [(show mu_r Hsa m 7 = some (m + 15) from (gi_mr ua.1.1 ua.2 (j := 7) (by decide)).trans (congrArg some (by omega)))]
    refine mw_go mu_g192 (k := 2) (f1 := (56, [(3, .inl (nI c)), (0, .inr (.inr (some 91))), (1, .inl (nI i)), (2, .inl (nI (im W i)))], [.inl (2 : Int32), .inl (nI c), .inr (.inr (some (m + 15))), .inr (.inr (some 91))], Hsa)) (C := []) rfl trivial ?_
    refine mw_cIe (fun _ => rfl) (show mu_is Hsa (some (m + 15)) 10 from ((ua.1.1.w (md_w7 ua.2)).1)) (dm.getr (d := (d + 3)) (dn.dm ua) da (j := 7) (by decide) rfl (nI c) (c := 2) (by decide)) ?_
    rw [show (tget (ak m H 7) (nI c) 2) = (nI a) from ((tget_nI (by omega)).trans (by rw [hj.1 7 (by decide) (by decide) (by decide)]; exact ea1))]
    refine mw_go mu_g192 (k := 2) (f1 := (63, [(3, .inl (nI c)), (0, .inr (.inr (some 91))), (1, .inl (nI i)), (2, .inl (nI (im W i)))], [.inr (.inr (mu_r Hsa 91 3)), .inl (nI a), .inr (.inr (some 91))], Hsa)) (C := [mu_is Hsa (some 91) 3]) rfl (show mu_is Hsa (some 91) 3 from (ua.1.1.is rfl)) ?_
    rw [(ua.1.2.1)]
    refine mw_go mu_g192 (k := 1) (f1 := (66, [(3, .inl (nI c)), (0, .inr (.inr (some 91))), (1, .inl (nI i)), (2, .inl (nI (im W i)))], [.inr (.inr (mu_r Hsa m 7)), .inl (nI a), .inr (.inr (some 91))], Hsa)) (C := [mu_is Hsa (some m) 6]) rfl (show mu_is Hsa (some m) 6 from (show mu_is Hsa (some m) 6 from gi_im ua.1.1 ua.2)) ?_
    rw [(show mu_r Hsa m 7 = some (m + 15) from (gi_mr ua.1.1 ua.2 (j := 7) (by decide)).trans (congrArg some (by omega)))]
    refine mw_go mu_g192 (k := 2) (f1 := (68, [(3, .inl (nI c)), (0, .inr (.inr (some 91))), (1, .inl (nI i)), (2, .inl (nI (im W i)))], [.inl (3 : Int32), .inl (nI c), .inr (.inr (some (m + 15))), .inl (nI a), .inr (.inr (some 91))], Hsa)) (C := []) rfl trivial ?_
    refine mw_cIe (fun _ => rfl) (show mu_is Hsa (some (m + 15)) 10 from ((ua.1.1.w (md_w7 ua.2)).1)) (dm.getr (d := (d + 3)) (dn.dm ua) da (j := 7) (by decide) rfl (nI c) (c := 3) (by decide)) ?_
    rw [show (tget (ak m H 7) (nI c) 3) = (nI (a + N)) from ((tget_nI (by omega)).trans (by rw [hj.1 7 (by decide) (by decide) (by decide)]; exact eb1))]
    refine mw_go mu_g192 (k := 2) (f1 := (73, [(3, .inl (nI c)), (0, .inr (.inr (some 91))), (1, .inl (nI i)), (2, .inl (nI (im W i)))], [.inl (0 : Int32), .inl (nI i), .inl (nI (a + N)), .inl (nI a), .inr (.inr (some 91))], Hsa)) (C := []) rfl trivial ?_
    refine mw_cI (fun _ => rfl) (show mu_is Hsa (some 91) 3 from (ua.1.1.is rfl)) (jg_sort3 (d := d) (W := W) (i := i) (a := a) (N := N) (al := (0 : Int32)) (kd := true) ua (by rw [da]; exact hj) hW hi hrg (by rw [hta.len h.1.1]; exact hN)) (fun x7 Q7 q7 => ?_)
    obtain ⟨u7, r7, k7⟩ := q7
    have ht7 : jq H Q7 := hta.trans r7
    have d7 : ak m Q7 = ak m H := ht7.ak h.2
    have jl7 : jn Q7 = jn H := ht7.len h.1.1
    rw [da] at k7
    refine mw_go mu_g192 (k := 4) (f1 := (84, [(4, .inl x7), (3, .inl (nI c)), (0, .inr (.inr (some 91))), (1, .inl (nI i)), (2, .inl (nI (im W i)))], [.inr (.inr (mu_r Q7 91 3)), .inl x7], Q7)) (C := [mu_is Q7 (some 91) 3]) rfl (show mu_is Q7 (some 91) 3 from (u7.1.1.is rfl)) ?_
    rw [(u7.1.2.1)]
    refine mw_go mu_g192 (k := 2) (f1 := (88, [(4, .inl x7), (3, .inl (nI c)), (0, .inr (.inr (some 91))), (1, .inl (nI i)), (2, .inl (nI (im W i)))], [.inr (.inr (mu_r Q7 91 3)), .inr (.inr (some m)), .inl x7], Q7)) (C := [mu_is Q7 (some 91) 3]) rfl (show mu_is Q7 (some 91) 3 from (u7.1.1.is rfl)) ?_
    rw [(u7.1.2.1)]
    refine mw_go mu_g192 (k := 1) (f1 := (91, [(4, .inl x7), (3, .inl (nI c)), (0, .inr (.inr (some 91))), (1, .inl (nI i)), (2, .inl (nI (im W i)))], [.inr (.inr (mu_r Q7 m 7)), .inr (.inr (some m)), .inl x7], Q7)) (C := [mu_is Q7 (some m) 6]) rfl (show mu_is Q7 (some m) 6 from (show mu_is Q7 (some m) 6 from gi_im u7.1.1 u7.2)) ?_
    rw [(show mu_r Q7 m 7 = some (m + 15) from (gi_mr u7.1.1 u7.2 (j := 7) (by decide)).trans (congrArg some (by omega)))]
    refine mw_go mu_g192 (k := 2) (f1 := (93, [(4, .inl x7), (3, .inl (nI c)), (0, .inr (.inr (some 91))), (1, .inl (nI i)), (2, .inl (nI (im W i)))], [.inl (1 : Int32), .inl (nI c), .inr (.inr (some (m + 15))), .inr (.inr (some m)), .inl x7], Q7)) (C := []) rfl trivial ?_
    refine mw_cIe (fun _ => rfl) (show mu_is Q7 (some (m + 15)) 10 from ((u7.1.1.w (md_w7 u7.2)).1)) (dm.getr (d := (d + 3)) (dn.dm u7) d7 (j := 7) (by decide) rfl (nI c) (c := 1) (by decide)) ?_
    rw [show (tget (ak m H 7) (nI c) 1) = (nI v) from ((tget_nI (by omega)).trans (by rw [hj.1 7 (by decide) (by decide) (by decide)]; exact ev))]
    refine mw_cIe (fun _ => rfl) (show mu_is Q7 (some m) 6 from (show mu_is Q7 (some m) 6 from gi_im u7.1.1 u7.2)) (md_sort3 (d := (d + 2)) (v := v) (W := W) u7 (by rw [d7]; exact hj) (by omega)) ?_
    refine mw_if (P := x7 = (vso W v)) (a := 104) (b := 102) (fun _ => rfl) trivial (fun h10 => ?_) (fun h10 => ?_)
    · -- 104: x7 = (vso W v)
      refine mw_go mu_g192 (k := 1) (f1 := (107, [(3, .inl ((nI c) + 1)), (4, .inl x7), (0, .inr (.inr (some 91))), (1, .inl (nI i)), (2, .inl (nI (im W i)))], [], Q7)) (C := []) rfl trivial ?_
      rw [(show ((nI c) + 1) = (nI (c + 1)) from (nI_add c 1))]
      refine mw_go mu_g192 (k := 1) (f1 := (26, [(3, .inl (nI (c + 1))), (4, .inl x7), (0, .inr (.inr (some 91))), (1, .inl (nI i)), (2, .inl (nI (im W i)))], [], Q7)) (C := []) rfl trivial ?_
      exact mw_sub (by simp) (iha (c + 1, Q7) ⟨u7, ht7, (show sp W (im W i) 4 ≤ (c + 1) from (by omega)), (show (c + 1) ≤ sp W (im W i + 1) 4 from (by omega)), (show ∀ y, sp W (im W i) 4 ≤ y → y < (c + 1) → LIN W (fun e => (ak m H 13).2 e 4) i y from (fun y hy1 hy2 => by by_cases ey : y = c; (rw [ey]; obtain ⟨rs, k1, k2⟩ := k7.resolve_left (by rw [h10]; exact vso_0); exact ⟨a, N, rs, v, ea1, eb1, hrg, ⟨ev, hvb⟩, k1, by rw [← k2]; exact h10⟩); exact hK y hy1 (by omega)))⟩ (by show sp W (im W i + 1) 4 - (c + 1) < sp W (im W i + 1) 4 - c; omega))
    · -- 102: not x7 = (vso W v)
      refine mw_go mu_g192 (k := 1) (f1 := (103, [(4, .inl x7), (3, .inl (nI c)), (0, .inr (.inr (some 91))), (1, .inl (nI i)), (2, .inl (nI (im W i)))], [.inl (0 : Int32)], Q7)) (C := []) rfl trivial ?_
      exact mw_of (fun _ => mu_ret rfl (Or.inl rfl) ⟨_, Q7, rfl, u7, ht7, Or.inl rfl⟩)
  · -- 110: not (nI c) < (nI (sp W (im W i + 1) 4))
    have nh4 : ¬ c < (sp W (im W i + 1) 4) := fun z => h4 (show nI c < nI (sp W (im W i + 1) 4) from (nI_ltI (by omega) (by omega)).mpr z)
    refine mw_go mu_g192 (k := 1) (f1 := (111, [(3, .inl (nI c)), (0, .inr (.inr (some 91))), (1, .inl (nI i)), (2, .inl (nI (im W i)))], [.inl (1 : Int32)], Hsa)) (C := []) rfl trivial ?_
    exact mw_of (fun _ => mu_ret rfl (Or.inr rfl) ⟨_, Hsa, rfl, ua, hta, Or.inr ⟨rfl, fun y hy1 hy2 => hK y hy1 (by omega)⟩⟩)
end SortsAll
