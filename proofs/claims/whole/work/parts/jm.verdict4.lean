/-! JUDGE: the verdict tells heights too -/
def FN4 (m : Nat) (H : mu_H) : Prop := ∃ W od, FW W ∧ FO W (ak m H) ∧ sm (bz W) 0 (W 15).1 ≤ 14 ∧ TOP W (ak m H 14) od ∧ TYP W (fun e => (ak m H 13).2 e 4) ∧ LOWS W
section Verdict4
variable {H H1 H2 : mu_H} {m d : Nat} {C : Nat → Nat} {X Y Z W s : Ts} {od : Nat → Nat}
theorem FN4.mk (hW : FW W) (hO : FO W (ak m H)) (hb : ¬ (14 : Int32) < nI (sm (bz (ak m H)) 0 (ak m H 15).1)) (hT : TOP W (ak m H 14) od) (hY : TYP W (fun e => (ak m H 13).2 e 4)) (hL : LOWS W) : FN4 m H := by
  have e : ak m H 15 = W 15 := hO.1.1 15 (by decide) (by decide) (by decide)
  have eb : bz (ak m H) = bz W := by
    funext v
    unfold bz
    rw [e]
  rw [eb, e] at hb
  have h1 := bz_sum (W := W) (W 15).1
  have h2 := hW.2.2.2.2.1.2.2.2.1
  exact ⟨W, od, hW, hO, Nat.le_of_not_lt (fun z => hb ((nI_ltI (a := 14) (by decide) (by omega)).mpr z)), hT, hY, hL⟩
theorem jg_verdict4 (hY0 : (ak m H 0).1 ≤ 14000) (hg : gi H) (hm : m = 2 ∨ m = 41) (hc : CT (ak m H)) (hz : ∀ j, 11 ≤ j → j < 18 → (ak m H j).1 = 0) (hN : (ak m H 0).1 + 1 ≤ 4194304) (hL : jn H ≤ 8388608) (hC19 : 10 * ((ak m H 1).1 + (ak m H 2).1 + (ak m H 3).1 + (ak m H 6).1 + (ak m H 4).1) + 5 ≤ C 19) (hC19b : C 19 ≤ 8388608) (hC : ∀ j, 11 ≤ j → j < 19 → 120000 ≤ C j ∧ C j ≤ 8388608) (hC20 : 20000 ≤ C 20) (hC20b : C 20 ≤ 8388608) : mu_TI (mu_D (d + 9)) 186 [.inr (.inr (some 91)), .inr (.inr (some m))] H (fun x H1 => (x = 0 ∨ x = 1 ∨ x = 2) ∧ dm m H1 ∧ vd m C H H1 ∧ (x = 0 → FN4 m H1)) := by
  refine mu_meth (M := mu_m186) rfl rfl ?_
  refine mw_ht (mu_fn_of (show [0, 1].Nodup by decide)) ?_
  refine mw_go mu_g186 (k := 3) (f1 := (5, [(0, .inr (.inr (some 91))), (1, .inr (.inr (some m)))], [], mu_sr H 91 3 (some m))) (C := [mu_is H (some 91) 3]) rfl (show mu_is H (some 91) 3 from hg.is rfl) ?_
  obtain ⟨gQ, hvQ, haQ, hjQ⟩ := vd.start (C := C) hg hm
  have hq91 : mu_r (mu_sr H 91 3 (some m)) 91 3 = some m := by rw [mu_r_sr, if_pos ⟨rfl, rfl⟩]
  generalize mu_sr H 91 3 (some m) = Q at gQ hvQ haQ hjQ hq91 ⊢
  have hq : gi Q ∧ (m = 2 ∨ m = 41) := ⟨gQ, hm⟩
  have hcQ : CT (ak m Q) := by rw [haQ]; exact hc
  have hzQ : ∀ j, 11 ≤ j → j < 18 → (ak m Q j).1 = 0 := by rw [haQ]; exact hz
  have hCQ : 10 * ((ak m Q 1).1 + (ak m Q 2).1 + (ak m Q 3).1 + (ak m Q 6).1 + (ak m Q 4).1) + 5 ≤ C 19 := by rw [haQ]; exact hC19
  refine mw_go mu_g186 (k := 2) (f1 := (9, [(0, .inr (.inr (some 91))), (1, .inr (.inr (some m)))], [.inr (.inr (mu_r Q 91 0))], Q)) (C := [mu_is Q (some 91) 3]) rfl (show mu_is Q (some 91) 3 from hq.1.is rfl) ?_
  rw [(hq.1.r (p := 91) (j := 0) (q := 92) rfl)]
  refine mw_go mu_g186 (k := 1) (f1 := (10, [(0, .inr (.inr (some 91))), (1, .inr (.inr (some m)))], [.inr (.inr (some m)), .inr (.inr (some 92))], Q)) (C := []) rfl trivial ?_
  refine mw_cI (fun _ => rfl) (show mu_is Q (some 92) 12 from hq.1.is rfl) (so_well2 (C := C) (d := d) hq.1 hq.2 hq91 hcQ hCQ hC19b) (fun x1 H1 q1 => ?_)
  obtain ⟨qx1, hp1, qv1, hI1, hl1⟩ := q1
  rcases qx1 with rfl | rfl
  · -- (0 : Int32)
    have hv1 := hvQ.rv hq.1 qv1
    refine mw_if (P := (0 : Int32) = 0) (a := 16) (b := 18) (fun _ => rfl) trivial (fun h2 => ?_) (fun h2 => absurd (by decide) h2)
    refine mw_go mu_g186 (k := 1) (f1 := (17, [(0, .inr (.inr (some 91))), (1, .inr (.inr (some m)))], [.inl (1 : Int32)], H1)) (C := []) rfl trivial ?_
    exact mw_of (fun _ => mu_ret rfl trivial ⟨_, H1, rfl, Or.inr (Or.inl rfl), hp1, hv1, fun z => absurd z (by decide)⟩)
  · -- (1 : Int32)
    have hv1 := hvQ.rv hq.1 qv1
    have hF : FY (ak m H1) := FY.mk hcQ hI1.2.2 (hl1 rfl) (fun j hj => hp1.lt rfl (by omega))
    obtain ⟨⟨kk, hkk, ekk, hnp⟩, -⟩ := hl1 rfl
    have hk1 : kk < (ak m H1 1).1 := by rw [hI1.n (j := 1) (by decide)]; exact hkk
    have hk6 : kk < 67108864 := Nat.lt_of_lt_of_le hk1 (hp1.lt rfl (j := 1) (by decide))
    obtain ⟨⟨ee, hee, he3, -⟩, -, ii, hii, hi2, -⟩ := (hF.2.2.1 kk hk1).resolve_left (hF.2.2.2.1 kk hk1)
    refine mw_if (P := (1 : Int32) = 0) (a := 16) (b := 18) (fun _ => rfl) trivial (fun h3 => absurd h3 (by decide)) (fun h3 => ?_)
    refine mw_go mu_g186 (k := 2) (f1 := (22, [(0, .inr (.inr (some 91))), (1, .inr (.inr (some m)))], [.inr (.inr (mu_r H1 m 1))], H1)) (C := [mu_is H1 (some m) 6]) rfl (show mu_is H1 (some m) 6 from (show mu_is H1 (some m) 6 from gi_im hp1.1 hp1.2.1)) ?_
    rw [(show mu_r H1 m 1 = some (m + 3) from (gi_mr hp1.1 hp1.2.1 (j := 1) (by decide)).trans (congrArg some (by omega)))]
    refine mw_go mu_g186 (k := 2) (f1 := (26, [(0, .inr (.inr (some 91))), (1, .inr (.inr (some m)))], [.inr (.inr (mu_r H1 91 0)), .inr (.inr (some (m + 3)))], H1)) (C := [mu_is H1 (some 91) 3]) rfl (show mu_is H1 (some 91) 3 from hp1.1.is rfl) ?_
    rw [(hp1.1.r (p := 91) (j := 0) (q := 92) rfl)]
    refine mw_go mu_g186 (k := 1) (f1 := (29, [(0, .inr (.inr (some 91))), (1, .inr (.inr (some m)))], [.inl (mu_i H1 92 3), .inr (.inr (some (m + 3)))], H1)) (C := [mu_is H1 (some 92) 12]) rfl (show mu_is H1 (some 92) 12 from hp1.1.is rfl) ?_
    rw [ekk]
    refine mw_go mu_g186 (k := 1) (f1 := (31, [(0, .inr (.inr (some 91))), (1, .inr (.inr (some m)))], [.inl (9 : Int32), .inl (nI kk), .inr (.inr (some (m + 3)))], H1)) (C := []) rfl trivial ?_
    refine mw_cIe (fun _ => rfl) (show mu_is H1 (some (m + 3)) 10 from (hp1.1.w (md_w1 hp1.2.1)).1) (dm.getr (d := (d + 7)) hp1 rfl (j := 1) (by decide) rfl (nI kk) (c := 9) (by decide)) ?_
    rw [show (tget ((ak m H1) 1) (nI kk) 9) = (nI ii) from (tget_nI (by omega)).trans hii]
    refine mw_go mu_g186 (k := 1) (f1 := (37, [(0, .inr (.inr (some 91))), (1, .inr (.inr (some m)))], [.inl (200 : Int32), .inl (nI ii)], H1)) (C := []) rfl trivial ?_
    refine mw_if (P := (200 : Int32) < (nI ii)) (a := 62) (b := 40) (fun _ => rfl) trivial (fun h5 => ?_) (fun h5 => ?_)
    · -- 62: (200 : Int32) < (nI ii)
      refine mw_go mu_g186 (k := 1) (f1 := (63, [(0, .inr (.inr (some 91))), (1, .inr (.inr (some m)))], [.inl (2 : Int32)], H1)) (C := []) rfl trivial ?_
      exact mw_of (fun _ => mu_ret rfl trivial ⟨_, H1, rfl, Or.inr (Or.inr rfl), hp1, hv1, fun z => absurd z (by decide)⟩)
    · -- 40: not (200 : Int32) < (nI ii)
      have hii2 : ii ≤ 200 := Nat.le_of_not_lt (fun z => h5 ((nI_ltI (a := 200) (by decide) (by omega)).mpr z))
      refine mw_go mu_g186 (k := 2) (f1 := (44, [(0, .inr (.inr (some 91))), (1, .inr (.inr (some m)))], [.inr (.inr (mu_r H1 m 1))], H1)) (C := [mu_is H1 (some m) 6]) rfl (show mu_is H1 (some m) 6 from (show mu_is H1 (some m) 6 from gi_im hp1.1 hp1.2.1)) ?_
      rw [(show mu_r H1 m 1 = some (m + 3) from (gi_mr hp1.1 hp1.2.1 (j := 1) (by decide)).trans (congrArg some (by omega)))]
      refine mw_go mu_g186 (k := 2) (f1 := (48, [(0, .inr (.inr (some 91))), (1, .inr (.inr (some m)))], [.inr (.inr (mu_r H1 91 0)), .inr (.inr (some (m + 3)))], H1)) (C := [mu_is H1 (some 91) 3]) rfl (show mu_is H1 (some 91) 3 from hp1.1.is rfl) ?_
      rw [(hp1.1.r (p := 91) (j := 0) (q := 92) rfl)]
      refine mw_go mu_g186 (k := 1) (f1 := (51, [(0, .inr (.inr (some 91))), (1, .inr (.inr (some m)))], [.inl (mu_i H1 92 3), .inr (.inr (some (m + 3)))], H1)) (C := [mu_is H1 (some 92) 12]) rfl (show mu_is H1 (some 92) 12 from hp1.1.is rfl) ?_
      rw [ekk]
      refine mw_go mu_g186 (k := 1) (f1 := (53, [(0, .inr (.inr (some 91))), (1, .inr (.inr (some m)))], [.inl (10 : Int32), .inl (nI kk), .inr (.inr (some (m + 3)))], H1)) (C := []) rfl trivial ?_
      refine mw_cIe (fun _ => rfl) (show mu_is H1 (some (m + 3)) 10 from (hp1.1.w (md_w1 hp1.2.1)).1) (dm.getr (d := (d + 7)) hp1 rfl (j := 1) (by decide) rfl (nI kk) (c := 10) (by decide)) ?_
      rw [show (tget ((ak m H1) 1) (nI kk) 10) = (nI ee) from (tget_nI (by omega)).trans hee]
      refine mw_go mu_g186 (k := 1) (f1 := (59, [(0, .inr (.inr (some 91))), (1, .inr (.inr (some m)))], [.inl (4000 : Int32), .inl (nI ee)], H1)) (C := []) rfl trivial ?_
      refine mw_if (P := (4000 : Int32) < (nI ee)) (a := 62) (b := 64) (fun _ => rfl) trivial (fun h7 => ?_) (fun h7 => ?_)
      · -- 62: (4000 : Int32) < (nI ee)
        refine mw_go mu_g186 (k := 1) (f1 := (63, [(0, .inr (.inr (some 91))), (1, .inr (.inr (some m)))], [.inl (2 : Int32)], H1)) (C := []) rfl trivial ?_
        exact mw_of (fun _ => mu_ret rfl trivial ⟨_, H1, rfl, Or.inr (Or.inr rfl), hp1, hv1, fun z => absurd z (by decide)⟩)
      · -- 64: not (4000 : Int32) < (nI ee)
        have hee2 : ee ≤ 4000 := Nat.le_of_not_lt (fun z => h7 ((nI_ltI (a := 4000) (by decide) (by omega)).mpr z))
        refine mw_go mu_g186 (k := 3) (f1 := (69, [(0, .inr (.inr (some 91))), (1, .inr (.inr (some m)))], [.inr (.inr (mu_r H1 91 0)), .inr (.inr (some m))], H1)) (C := [mu_is H1 (some 91) 3]) rfl (show mu_is H1 (some 91) 3 from hp1.1.is rfl) ?_
        rw [(hp1.1.r (p := 91) (j := 0) (q := 92) rfl)]
        refine mw_go mu_g186 (k := 1) (f1 := (72, [(0, .inr (.inr (some 91))), (1, .inr (.inr (some m)))], [.inl (mu_i H1 92 3), .inr (.inr (some m))], H1)) (C := [mu_is H1 (some 92) 12]) rfl (show mu_is H1 (some 92) 12 from hp1.1.is rfl) ?_
        rw [ekk]
        refine mw_cV (fun _ => rfl) (show mu_is H1 (some m) 6 from (show mu_is H1 (some m) 6 from gi_im hp1.1 hp1.2.1)) (gr_grow (C := C) (d := (d + 2)) hp1 hF hk1 (by unfold np; rw [hI1.2.2.spc (by decide), hI1.2.2.spc (by decide)]; omega) hee hee2 hii hii2 (by rw [hI1.n (j := 11) (by decide)]; exact hzQ 11 (by decide) (by decide)) (by rw [hI1.n (j := 12) (by decide)]; exact hzQ 12 (by decide) (by decide)) (by rw [hI1.n (j := 13) (by decide)]; exact hzQ 13 (by decide) (by decide)) (by rw [hI1.n (j := 15) (by decide)]; exact hzQ 15 (by decide) (by decide)) (by rw [hI1.n (j := 16) (by decide)]; exact hzQ 16 (by decide) (by decide)) (by rw [hI1.n (j := 17) (by decide)]; exact hzQ 17 (by decide) (by decide)) hC) (fun H8 q8 => ?_)
        obtain ⟨hp8, qt8, qh8, hG8, hO8⟩ := q8
        have hv8 := hv1.rl hp1.1 qt8
        have hZ : KZ (ak m H8) := KZ.mk hF hG8.1 hI1.2.1
        have hMC : MC (ak m H8 19) H8 := hI1.1.same (hG8.1.1 19 (by decide) (by decide)) qh8
        refine mw_go mu_g186 (k := 2) (f1 := (79, [(0, .inr (.inr (some 91))), (1, .inr (.inr (some m)))], [.inr (.inr (mu_r H8 91 0))], H8)) (C := [mu_is H8 (some 91) 3]) rfl (show mu_is H8 (some 91) 3 from hp8.1.is rfl) ?_
        rw [(hp8.1.r (p := 91) (j := 0) (q := 92) rfl)]
        refine mw_cI (fun _ => rfl) (show mu_is H8 (some 92) 12 from hp8.1.is rfl) (so_known2 (C := C) (d := (d + 4)) (Z := ak m H8) hp8 hZ ⟨fun _ _ _ => rfl, rfl, fun _ _ _ => rfl, rfl⟩ hMC) (fun x9 H9 q9 => ?_)
        obtain ⟨qx9, hp9, qt9, qh9, hk9, hK9⟩ := q9
        rcases qx9 with rfl | rfl
        · -- (0 : Int32)
          have hv9 := hv8.rl hp8.1 qt9
          refine mw_if (P := (0 : Int32) = 0) (a := 92) (b := 85) (fun _ => rfl) trivial (fun h10 => ?_) (fun h10 => absurd (by decide) h10)
          refine mw_go mu_g186 (k := 1) (f1 := (93, [(0, .inr (.inr (some 91))), (1, .inr (.inr (some m)))], [.inl (1 : Int32)], H9)) (C := []) rfl trivial ?_
          exact mw_of (fun _ => mu_ret rfl trivial ⟨_, H9, rfl, Or.inr (Or.inl rfl), hp9, hv9, fun z => absurd z (by decide)⟩)
        · -- (1 : Int32)
          have hv9 := hv8.rl hp8.1 qt9
          have hFW : FW (ak m H9) := FW.mk hcQ hI1.2.2 (hl1 rfl) hF hG8 hO8 hk9 (hK9 rfl) (fun j hj => hp9.lt rfl (by omega))
          have hz14 : (ak m H9 14).1 = 0 := by rw [hk9.1 14 (by decide) (by decide), hG8.1.1 14 (by decide) (by decide), hI1.n (j := 14) (by decide)]; exact hzQ 14 (by decide) (by decide)
          have hV : VO (ak m H9) (ac 20 (ak m H9) 0) := VO.init hFW.1.2.2.1 hz14
          have hXV : VX (ak m H9) (ac 20 (ak m H9) 0) none := VX.init hFW.1.2.2.1 hz14
          have hW13 := hFW.2.2.2.2.1.2.2.1
          have hC14 := hC 14 (by decide) (by decide)
          refine mw_if (P := (1 : Int32) = 0) (a := 92) (b := 85) (fun _ => rfl) trivial (fun h11 => absurd h11 (by decide)) (fun h11 => ?_)
          refine mw_go mu_g186 (k := 1) (f1 := (86, [(0, .inr (.inr (some 91))), (1, .inr (.inr (some m)))], [.inr (.inr (some 91))], H9)) (C := []) rfl trivial ?_
          refine mw_cI (fun _ => rfl) (show mu_is H9 (some 91) 3 from hp9.1.is rfl) (jg_ordered3 (C := C) (d := (d + 2)) (W := ak m H9) hp9 hV hXV hFW.1 hW13 (by omega) hC14.2 (by omega) hC20b) (fun x12 H12 q12 => ?_)
          obtain ⟨qx12, hp12, qt12, qh12, hVO12, hVX12⟩ := q12
          rcases qx12 with rfl | rfl
          · -- (0 : Int32)
            have hv12 := hv9.rl hp9.1 qt12
            refine mw_if (P := (0 : Int32) = 0) (a := 92) (b := 94) (fun _ => rfl) trivial (fun h13 => ?_) (fun h13 => absurd (by decide) h13)
            refine mw_go mu_g186 (k := 1) (f1 := (93, [(0, .inr (.inr (some 91))), (1, .inr (.inr (some m)))], [.inl (1 : Int32)], H12)) (C := []) rfl trivial ?_
            exact mw_of (fun _ => mu_ret rfl trivial ⟨_, H12, rfl, Or.inr (Or.inl rfl), hp12, hv12, fun z => absurd z (by decide)⟩)
          · -- (1 : Int32)
            have hv12 := hv9.rl hp9.1 qt12
            have hFO : FO (ak m H9) (ak m H12) := FO.of hVO12
            have hTP : TOP (ak m H9) (ak m H12 14) (ot (ac 20 (ak m H12) 0)) := (hVX12 rfl).1.top (fun e he => (hVX12 rfl).2 e he)
            refine mw_if (P := (1 : Int32) = 0) (a := 92) (b := 94) (fun _ => rfl) trivial (fun h14 => absurd h14 (by decide)) (fun h14 => ?_)
            refine mw_go mu_g186 (k := 5) (f1 := (103, [(0, .inr (.inr (some 91))), (1, .inr (.inr (some m)))], [.inr (.inr (mu_r H12 m 0)), .inr (.inr (mu_r H12 91 2)), .inr (.inr (some 91))], H12)) (C := [mu_is H12 (some 91) 3, mu_is H12 (some m) 6]) rfl (show (mu_is H12 (some 91) 3) ∧ (mu_is H12 (some m) 6) from ⟨hp12.1.is rfl, (show mu_is H12 (some m) 6 from gi_im hp12.1 hp12.2.1)⟩) ?_
            rw [(show mu_r H12 m 0 = some (m + 1) from (gi_mr hp12.1 hp12.2.1 (j := 0) (by decide)).trans (congrArg some (by omega)))]
            refine mw_go mu_g186 (k := 1) (f1 := (106, [(0, .inr (.inr (some 91))), (1, .inr (.inr (some m)))], [.inl (mu_i H12 (m + 1) 2), .inr (.inr (mu_r H12 91 2)), .inr (.inr (some 91))], H12)) (C := [mu_is H12 (some (m + 1)) 10]) rfl (show mu_is H12 (some (m + 1)) 10 from (hp12.1.w (md_w0 hp12.2.1)).1) ?_
            rw [(show mu_i H12 (m + 1) 2 = nI ((ak m H12) 0).1 from hp12.size rfl (j := 0) (by decide))]
            refine mw_go mu_g186 (k := 2) (f1 := (108, [(0, .inr (.inr (some 91))), (1, .inr (.inr (some m)))], [.inl ((nI ((ak m H12) 0).1) + (1 : Int32)), .inr (.inr (mu_r H12 91 2)), .inr (.inr (some 91))], H12)) (C := []) rfl trivial ?_
            rw [nI_1]
            have hn0 : (ak m H12 0).1 = (ak m H 0).1 := by rw [hFO.1.1 0 (by decide) (by decide) (by decide), hk9.1 0 (by decide) (by decide), hG8.1.1 0 (by decide) (by decide), hI1.n (j := 0) (by decide), haQ]
            have hLn : jn H12 ≤ 8388608 := by have := hv12.2.2.2.2; omega
            have hNn : ((ak m H12 0).1 + 1) ≤ 4194304 := by omega
            refine mw_cA (fun _ => rfl) trivial (fit_ok (d := (d + 6)) (N := ((ak m H12 0).1 + 1)) (hp12.1.o (p := 91) (j := 2) rfl) (by omega) (show jn H12 ≤ 67108864 by omega) hp12.1.z) (fun xf Hf qf => ?_)
            obtain ⟨hpf, hvf, haf, hjf⟩ := hp12.stack (C := C) (H2 := H) (N := ((ak m H12 0).1 + 1)) (x := xf) (H1 := Hf) hv12 (by rw [hn0]) (by omega) hLn qf
            refine mw_go mu_g186 (k := 1) (f1 := (114, [(0, .inr (.inr (some 91))), (1, .inr (.inr (some m)))], [], mu_sr Hf 91 2 xf)) (C := [mu_is Hf (some 91) 3]) rfl (show mu_is Hf (some 91) 3 from by rcases qf with ⟨-, -, e⟩ | ⟨-, -, e⟩; rw [e]; exact hp12.1.is rfl; rw [e]; exact mu_is_nw (hp12.1.is rfl)) ?_
            generalize mu_sr Hf 91 2 xf = F at hpf hvf haf hjf ⊢
            have hFOf : FO (ak m H9) (ak m F) := by rw [haf]; exact hFO
            have hTPf : TOP (ak m H9) (ak m F 14) (ot (ac 20 (ak m H12) 0)) := by rw [haf]; exact hTP
            have hlpf : lowp m F := lowp.mk (Y := ak m H1) hpf hFW hFOf hF (fun j a b => (hk9.1 j (by omega) (by omega)).trans (hG8.1.1 j b (Or.inl (by omega)))) (Nat.lt_of_le_of_lt (Nat.zero_le _) hk1) (by rw [haf]; exact hjf)
            refine mw_go mu_g186 (k := 1) (f1 := (115, [(0, .inr (.inr (some 91))), (1, .inr (.inr (some m)))], [.inr (.inr (some 91))], F)) (C := []) rfl trivial ?_
            refine mw_cI (fun _ => rfl) (show mu_is F (some 91) 3 from hpf.1.is rfl) ((jg_low3 (d := (d + 3)) hpf.dn hFOf.1 hFW.1 (by have z : (ak m F 0).1 = gi_sz F (m + 1) := ak_n (j := 0) (by decide); rw [← hFOf.1.1 0 (by decide) (by decide) (by decide), z]; exact hlpf.2.2.1) hTPf hFW.2.1.1 hFW.2.1.2 hFW.2.2.2.2.1.2.2.1 (by rw [← hFO.1.1 0 (by decide) (by decide) (by decide), hn0]; exact hY0)).imp (fun x H1 z => show (x = 0 ∨ x = 1) ∧ jd m H1 ∧ jy m F H1 ∧ (x = 1 → LOWS (ak m H9)) from ⟨z.2.2.imp id (fun y => y.1), ⟨z.1.1.1, z.1.2, z.1.1.2.1⟩, z.2.1, fun y => by rcases z.2.2 with w | w; exact absurd (w.symm.trans y) (by decide); exact w.2⟩)) (fun x15 H15 q15 => ?_)
            obtain ⟨qx15, hj15, hy15, hlw15⟩ := q15
            rcases qx15 with rfl | rfl
            · -- (0 : Int32)
              have hp15 := hpf.jy hj15 hy15
              have hv15 := hvf.jy hpf hy15
              have hlp15 := hlpf.jy hj15 hy15
              have hFO15 := hFOf.jy hy15 hpf.2.1
              have hTP15 : TOP (ak m H9) (ak m H15 14) (ot (ac 20 (ak m H12) 0)) := by rw [(hy15.ak hpf.2.1).1 14 (by decide)]; exact hTPf
              refine mw_if (P := (0 : Int32) = 0) (a := 121) (b := 123) (fun _ => rfl) trivial (fun h16 => ?_) (fun h16 => absurd (by decide) h16)
              refine mw_go mu_g186 (k := 1) (f1 := (122, [(0, .inr (.inr (some 91))), (1, .inr (.inr (some m)))], [.inl (2 : Int32)], H15)) (C := []) rfl trivial ?_
              exact mw_of (fun _ => mu_ret rfl trivial ⟨_, H15, rfl, Or.inr (Or.inr rfl), hp15, hv15, fun z => absurd z (by decide)⟩)
            · -- (1 : Int32)
              have hp15 := hpf.jy hj15 hy15
              have hv15 := hvf.jy hpf hy15
              have hlp15 := hlpf.jy hj15 hy15
              have hFO15 := hFOf.jy hy15 hpf.2.1
              have hTP15 : TOP (ak m H9) (ak m H15 14) (ot (ac 20 (ak m H12) 0)) := by rw [(hy15.ak hpf.2.1).1 14 (by decide)]; exact hTPf
              refine mw_if (P := (1 : Int32) = 0) (a := 121) (b := 123) (fun _ => rfl) trivial (fun h17 => absurd h17 (by decide)) (fun h17 => ?_)
              refine mw_go mu_g186 (k := 1) (f1 := (124, [(0, .inr (.inr (some 91))), (1, .inr (.inr (some m)))], [.inr (.inr (some 91))], H15)) (C := []) rfl trivial ?_
              refine mw_cI (fun _ => rfl) (show mu_is H15 (some 91) 3 from hp15.1.is rfl) ((jg_have3 (d := (d + 2)) hp15.dn hFO15.1 hFW.1 (by have z : (ak m H15 0).1 = gi_sz H15 (m + 1) := ak_n (j := 0) (by decide); rw [← hFO15.1.1 0 (by decide) (by decide) (by decide), z]; exact hlp15.2.2.1) hTP15 hFW.2.1.1 hFW.2.1.2 hFW.2.2.1).imp (fun x H1 z => show (x = 0 ∨ x = 1) ∧ jd m H1 ∧ jy m H15 H1 ∧ (x = 1 → TYP (ak m H9) (fun e => (ak m H1 13).2 e 4)) from ⟨z.2.2.imp id (fun y => y.1), ⟨z.1.1.1, z.1.2, z.1.1.2.1⟩, z.2.1, fun y => by rcases z.2.2 with w | w; exact absurd (w.symm.trans y) (by decide); exact w.2⟩)) (fun x18 H18 q18 => ?_)
              obtain ⟨qx18, hj18, hy18, hty18⟩ := q18
              rcases qx18 with rfl | rfl
              · -- (0 : Int32)
                have hp18 := hp15.jy hj18 hy18
                have hv18 := hv15.jy hp15 hy18
                have hlp18 := hlp15.jy hj18 hy18
                have hFO18 := hFO15.jy hy18 hp15.2.1
                have hTP18 : TOP (ak m H9) (ak m H18 14) (ot (ac 20 (ak m H12) 0)) := by rw [(hy18.ak hp15.2.1).1 14 (by decide)]; exact hTP15
                refine mw_if (P := (0 : Int32) = 0) (a := 130) (b := 132) (fun _ => rfl) trivial (fun h19 => ?_) (fun h19 => absurd (by decide) h19)
                refine mw_go mu_g186 (k := 1) (f1 := (131, [(0, .inr (.inr (some 91))), (1, .inr (.inr (some m)))], [.inl (1 : Int32)], H18)) (C := []) rfl trivial ?_
                exact mw_of (fun _ => mu_ret rfl trivial ⟨_, H18, rfl, Or.inr (Or.inl rfl), hp18, hv18, fun z => absurd z (by decide)⟩)
              · -- (1 : Int32)
                have hp18 := hp15.jy hj18 hy18
                have hv18 := hv15.jy hp15 hy18
                have hlp18 := hlp15.jy hj18 hy18
                have hFO18 := hFO15.jy hy18 hp15.2.1
                have hTP18 : TOP (ak m H9) (ak m H18 14) (ot (ac 20 (ak m H12) 0)) := by rw [(hy18.ak hp15.2.1).1 14 (by decide)]; exact hTP15
                refine mw_if (P := (1 : Int32) = 0) (a := 130) (b := 132) (fun _ => rfl) trivial (fun h20 => absurd h20 (by decide)) (fun h20 => ?_)
                refine mw_go mu_g186 (k := 1) (f1 := (133, [(0, .inr (.inr (some 91))), (1, .inr (.inr (some m)))], [.inr (.inr (some m))], H18)) (C := []) rfl trivial ?_
                refine mw_cI (fun _ => rfl) (show mu_is H18 (some m) 6 from (show mu_is H18 (some m) 6 from gi_im hp18.1 hp18.2.1)) (md_bits2 (d := (d + 6)) hp18) (fun x21 H21 q21 => ?_)
                obtain ⟨rfl, rfl⟩ := q21
                refine mw_go mu_g186 (k := 1) (f1 := (138, [(0, .inr (.inr (some 91))), (1, .inr (.inr (some m)))], [.inl (14 : Int32), .inl (nI (sm (bz (ak m H18)) 0 (ak m H18 15).1))], H18)) (C := []) rfl trivial ?_
                refine mw_if (P := (14 : Int32) < (nI (sm (bz (ak m H18)) 0 (ak m H18 15).1))) (a := 141) (b := 145) (fun _ => rfl) trivial (fun h22 => ?_) (fun h22 => ?_)
                · -- 141: (14 : Int32) < (nI (sm (bz (ak m H18)) 0 (ak m H18 15).1))
                  refine mw_go mu_g186 (k := 2) (f1 := (146, [(0, .inr (.inr (some 91))), (1, .inr (.inr (some m)))], [.inl (2 : Int32)], H18)) (C := []) rfl trivial ?_
                  exact mw_of (fun _ => mu_ret rfl trivial ⟨_, H18, rfl, Or.inr (Or.inr rfl), hp18, hv18, fun z => absurd z (by decide)⟩)
                · -- 145: not (14 : Int32) < (nI (sm (bz (ak m H18)) 0 (ak m H18 15).1))
                  refine mw_go mu_g186 (k := 1) (f1 := (146, [(0, .inr (.inr (some 91))), (1, .inr (.inr (some m)))], [.inl (0 : Int32)], H18)) (C := []) rfl trivial ?_
                  exact mw_of (fun _ => mu_ret rfl trivial ⟨_, H18, rfl, Or.inl rfl, hp18, hv18, fun _ => FN4.mk hFW hFO18 h22 hTP18 (hty18 rfl) (hlw15 rfl)⟩)
end Verdict4
