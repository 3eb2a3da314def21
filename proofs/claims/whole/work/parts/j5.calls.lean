/-! PATHPROVER: its methods as sequences of calls -/
section Calls
variable {H : mu_H} {d m : Nat}
/-- PathProver.check(I)Z -/
abbrev mu_m60 : ev_M := (2, (some .boolean), [], ev_b60)
theorem mu_g60 : mu_good mu_m60 := mu_goodk ev_k60
theorem pv_checkS {Ψ : mu_R → Prop} {A1 : mu_H → Prop} {A2 : mu_H → Prop} {A3 : mu_H → Prop} {A4 : mu_H → Prop} {A5 : Int32 → mu_H → Prop} (hg : gi H) (hm : m = 2 ∨ m = 41) (hm4 : mu_r H 0 4 = some m) (i : Int32) (hc1 : ¬ (i < 0) → ¬ (mu_i H 0 3 = 0) → (i < (mu_i H (m + 35) 2)) → mu_TV (mu_D (d + 21)) 383 [.inr (.inr (some 0))] H (A1)) (g1 : ∀ (K : mu_H), A1 K → gi K) (hc2 : ∀ (K : mu_H), A1 K → ¬ (i < 0) → mu_TV (mu_D (d + 21)) 376 [.inr (.inr (some 0))] K (A2)) (g2 : ∀ (K : mu_H), A2 K → gi K) (hc3 : ∀ (K : mu_H), A2 K → ¬ (i < 0) → mu_TV (mu_D (d + 21)) 339 [.inr (.inr (some 158)), .inl i] K (A3)) (g3 : ∀ (K : mu_H), A3 K → gi K) (hc4 : ∀ (K : mu_H), A3 K → ¬ (i < 0) → mu_TV (mu_D (d + 21)) 376 [.inr (.inr (some 0))] K (A4)) (g4 : ∀ (K : mu_H), A4 K → gi K) (hc5 : ∀ (K : mu_H), A4 K → ¬ (i < 0) → mu_TI (mu_D (d + 21)) 373 [.inr (.inr (some 158)), .inl i] K (A5)) (g5 : ∀ (x5 : Int32) (K : mu_H), A5 x5 K → gi K) (hz47 : ∀ (x5 : Int32) (K : mu_H), A5 x5 K → ¬ (i < 0) → x5 = 0 ∨ x5 = 1) (l1 : ¬ (i < 0) → (mu_i H 0 3 = 0) → Ψ (.inr 1, mu_ex H)) (l2 : ∀ (x5 : Int32) (K : mu_H), A5 x5 K → ¬ (i < 0) → Ψ (.inl (some (.inl x5)), K)) (l3 : (i < 0) → Ψ (.inr 0, mu_ex H)) (l4 : ¬ (i < 0) → ¬ (mu_i H 0 3 = 0) → ¬ (i < (mu_i H (m + 35) 2)) → Ψ (.inr 0, mu_ex H)) : mu_MT (mu_D (d + 22)) 60 [.inr (.inr (some 0)), .inl i] H Ψ := by
  refine mu_meth (M := mu_m60) rfl rfl ?_
  refine mw_ht (mu_fn_of (show [0, 1].Nodup by decide)) ?_
  refine mw_go mu_g60 (k := 4) (f1 := (6, [(0, .inr (.inr (some 0))), (1, .inl i)], [.inr (.inr (mu_r H 0 4)), .inl i, .inr (.inr (some 0))], H)) (C := [mu_is H (some 0) 0]) rfl (show mu_is H (some 0) 0 from hg.is rfl) ?_
  rw [hm4]
  refine mw_go mu_g60 (k := 1) (f1 := (9, [(0, .inr (.inr (some 0))), (1, .inl i)], [.inr (.inr (mu_r H m 17)), .inl i, .inr (.inr (some 0))], H)) (C := [mu_is H (some m) 6]) rfl (show mu_is H (some m) 6 from (gi_im hg hm)) ?_
  rw [(show mu_r H m 17 = some (m + 35) from (gi_mr hg hm (j := 17) (by decide)).trans (congrArg some (by omega)))]
  refine mw_go mu_g60 (k := 1) (f1 := (12, [(0, .inr (.inr (some 0))), (1, .inl i)], [.inl (mu_i H (m + 35) 2), .inl i, .inr (.inr (some 0))], H)) (C := [mu_is H (some (m + 35)) 10]) rfl (show mu_is H (some (m + 35)) 10 from (hg.w (md_w17 hm)).1) ?_
  refine mw_callx (as := [.inl i, .inl (mu_i H (m + 35) 2)]) (S1 := []) rfl rfl rfl rfl (by decide) (by decide) (show mu_is H (some 0) 0 from hg.is rfl) (pv_number (d := d + 20) hg i (mu_i H (m + 35) 2)) (fun vv H1 q => ?_) rfl (fun xx H1 q => ?_)
  · -- it returns
    by_cases c2 : i < 0
    · -- yes
      rw [if_pos c2] at q
      cases q
    · -- no
      rw [if_neg c2] at q
      by_cases c3 : mu_i H 0 3 = 0
      · -- yes
        rw [if_pos c3] at q
        cases q
        refine mw_go mu_g60 (k := 1) (f1 := (16, [(0, .inr (.inr (some 0))), (1, .inl i)], [.inr (.inr (some 0))], H)) (C := []) rfl trivial ?_
        refine mw_callx (as := []) (S1 := []) rfl rfl rfl rfl (by decide) (by decide) (show mu_is H (some 0) 0 from hg.is rfl) (pv_model (d := d + 20) hg) (fun vv H1 q => ?_) rfl (fun xx H1 q => ?_)
        · -- it returns
          rw [if_pos c3] at q
          cases q
        · -- it throws
          rw [if_pos c3] at q
          cases q
          exact ⟨by decide, (l1 c2 c3)⟩
      · -- no
        rw [if_neg c3] at q
        by_cases c5 : i < (mu_i H (m + 35) 2)
        · -- yes
          rw [if_pos c5] at q
          cases q
          refine mw_go mu_g60 (k := 1) (f1 := (16, [(0, .inr (.inr (some 0))), (1, .inl i)], [.inr (.inr (some 0))], H)) (C := []) rfl trivial ?_
          refine mw_callx (as := []) (S1 := []) rfl rfl rfl rfl (by decide) (by decide) (show mu_is H (some 0) 0 from hg.is rfl) (pv_model (d := d + 20) hg) (fun vv H1 q => ?_) rfl (fun xx H1 q => ?_)
          · -- it returns
            rw [if_neg c3] at q
            cases q
            refine mw_go mu_g60 (k := 1) (f1 := (20, [(0, .inr (.inr (some 0))), (1, .inl i)], [.inr (.inr (some 0))], H)) (C := []) rfl trivial ?_
            refine mw_cV (fun _ => rfl) (show mu_is H (some 0) 0 from hg.is rfl) (hc1 c2 c3 c5) (fun Q1 q1 => ?_)
            have hg1 : gi Q1 := g1 Q1 q1
            refine mw_go mu_g60 (k := 1) (f1 := (24, [(0, .inr (.inr (some 0))), (1, .inl i)], [.inr (.inr (some 0))], Q1)) (C := []) rfl trivial ?_
            refine mw_cV (fun _ => rfl) (show mu_is Q1 (some 0) 0 from hg1.is rfl) (hc2 Q1 q1 c2) (fun Q2 q2 => ?_)
            have hg2 : gi Q2 := g2 Q2 q2
            refine mw_go mu_g60 (k := 2) (f1 := (31, [(0, .inr (.inr (some 0))), (1, .inl i)], [.inr (.inr (mu_r Q2 0 11))], Q2)) (C := [mu_is Q2 (some 0) 0]) rfl (show mu_is Q2 (some 0) 0 from hg2.is rfl) ?_
            rw [(hg2.r (p := 0) (j := 11) (q := 158) rfl)]
            refine mw_go mu_g60 (k := 1) (f1 := (32, [(0, .inr (.inr (some 0))), (1, .inl i)], [.inl i, .inr (.inr (some 158))], Q2)) (C := []) rfl trivial ?_
            refine mw_cV (fun _ => rfl) (show mu_is Q2 (some 158) 8 from hg2.is rfl) (hc3 Q2 q2 c2) (fun Q3 q3 => ?_)
            have hg3 : gi Q3 := g3 Q3 q3
            refine mw_go mu_g60 (k := 1) (f1 := (36, [(0, .inr (.inr (some 0))), (1, .inl i)], [.inr (.inr (some 0))], Q3)) (C := []) rfl trivial ?_
            refine mw_cV (fun _ => rfl) (show mu_is Q3 (some 0) 0 from hg3.is rfl) (hc4 Q3 q3 c2) (fun Q4 q4 => ?_)
            have hg4 : gi Q4 := g4 Q4 q4
            refine mw_go mu_g60 (k := 2) (f1 := (43, [(0, .inr (.inr (some 0))), (1, .inl i)], [.inr (.inr (mu_r Q4 0 11))], Q4)) (C := [mu_is Q4 (some 0) 0]) rfl (show mu_is Q4 (some 0) 0 from hg4.is rfl) ?_
            rw [(hg4.r (p := 0) (j := 11) (q := 158) rfl)]
            refine mw_go mu_g60 (k := 1) (f1 := (44, [(0, .inr (.inr (some 0))), (1, .inl i)], [.inl i, .inr (.inr (some 158))], Q4)) (C := []) rfl trivial ?_
            refine mw_cI (fun _ => rfl) (show mu_is Q4 (some 158) 8 from hg4.is rfl) (hc5 Q4 q4 c2) (fun x5 Q5 q5 => ?_)
            have hg5 : gi Q5 := g5 x5 Q5 q5
            exact mw_of (fun _ => mu_ret rfl (hz47 x5 Q5 q5 c2) (l2 x5 Q5 q5 c2))
          · -- it throws
            rw [if_neg c3] at q
            cases q
        · -- no
          rw [if_neg c5] at q
          cases q
  · -- it throws
    by_cases c12 : i < 0
    · -- yes
      rw [if_pos c12] at q
      cases q
      exact ⟨by decide, (l3 c12)⟩
    · -- no
      rw [if_neg c12] at q
      by_cases c13 : mu_i H 0 3 = 0
      · -- yes
        rw [if_pos c13] at q
        cases q
      · -- no
        rw [if_neg c13] at q
        by_cases c14 : i < (mu_i H (m + 35) 2)
        · -- yes
          rw [if_pos c14] at q
          cases q
        · -- no
          rw [if_neg c14] at q
          cases q
          exact ⟨by decide, (l4 c12 c13 c14)⟩
/-- PathProver.states(II)I -/
abbrev mu_m66 : ev_M := (3, (some .int), [], ev_b66)
theorem mu_g66 : mu_good mu_m66 := mu_goodk ev_k66
theorem pv_statesS {Ψ : mu_R → Prop} {A1 : mu_H → Prop} {A2 : mu_H → Prop} {A3 : mu_H → Prop} {A4 : mu_H → Prop} {A5 : Int32 → mu_H → Prop} {A6 : mu_H → Prop} {A7 : mu_H → Prop} {A8 : Int32 → mu_H → Prop} (hg : gi H) (hm : m = 2 ∨ m = 41) (hm4 : mu_r H 0 4 = some m) (w i : Int32) (hc1 : ¬ (w < 0) → ¬ ((5 : Int32) < w) → ¬ (i < 0) → (w = (5 : Int32)) → ¬ (mu_i H 0 3 = 0) → (i < (mu_i H (m + 35) 2)) → mu_TV (mu_D (d + 21)) 383 [.inr (.inr (some 0))] H (A1)) (g1 : ∀ (K : mu_H), A1 K → gi K) (hc2 : ∀ (K : mu_H), A1 K → ¬ (w < 0) → ¬ ((5 : Int32) < w) → ¬ (i < 0) → (w = (5 : Int32)) → mu_TV (mu_D (d + 21)) 376 [.inr (.inr (some 0))] K (A2)) (g2 : ∀ (K : mu_H), A2 K → gi K) (hc3 : ∀ (K : mu_H), A2 K → ¬ (w < 0) → ¬ ((5 : Int32) < w) → ¬ (i < 0) → (w = (5 : Int32)) → mu_TV (mu_D (d + 21)) 339 [.inr (.inr (some 158)), .inl i] K (A3)) (g3 : ∀ (K : mu_H), A3 K → gi K) (hc4 : ∀ (K : mu_H), A3 K → ¬ (w < 0) → ¬ ((5 : Int32) < w) → ¬ (i < 0) → (w = (5 : Int32)) → mu_TV (mu_D (d + 21)) 376 [.inr (.inr (some 0))] K (A4)) (g4 : ∀ (K : mu_H), A4 K → gi K) (hc5 : ∀ (K : mu_H), A4 K → ¬ (w < 0) → ¬ ((5 : Int32) < w) → ¬ (i < 0) → (w = (5 : Int32)) → mu_TI (mu_D (d + 21)) 372 [.inr (.inr (some 158)), .inl w, .inl i] K (A5)) (g5 : ∀ (x5 : Int32) (K : mu_H), A5 x5 K → gi K) (hc6 : ¬ (w < 0) → ¬ ((5 : Int32) < w) → ¬ (i < 0) → ¬ (w = (5 : Int32)) → (i = 0) → ¬ (mu_i H 0 3 = 0) → mu_TV (mu_D (d + 21)) 383 [.inr (.inr (some 0))] H (A6)) (g6 : ∀ (K : mu_H), A6 K → gi K) (hc7 : ∀ (K : mu_H), A6 K → ¬ (w < 0) → ¬ ((5 : Int32) < w) → ¬ (i < 0) → ¬ (w = (5 : Int32)) → (i = 0) → mu_TV (mu_D (d + 21)) 376 [.inr (.inr (some 0))] K (A7)) (g7 : ∀ (K : mu_H), A7 K → gi K) (hc8 : ∀ (K : mu_H), A7 K → ¬ (w < 0) → ¬ ((5 : Int32) < w) → ¬ (i < 0) → ¬ (w = (5 : Int32)) → (i = 0) → mu_TI (mu_D (d + 21)) 372 [.inr (.inr (some 158)), .inl w, .inl i] K (A8)) (g8 : ∀ (x8 : Int32) (K : mu_H), A8 x8 K → gi K) (l1 : (w < 0) → Ψ (.inr 0, mu_ex H)) (l2 : ¬ (w < 0) → ((5 : Int32) < w) → Ψ (.inr 0, mu_ex H)) (l3 : ¬ (w < 0) → ¬ ((5 : Int32) < w) → (i < 0) → Ψ (.inr 0, mu_ex H)) (l4 : ¬ (w < 0) → ¬ ((5 : Int32) < w) → ¬ (i < 0) → (w = (5 : Int32)) → (mu_i H 0 3 = 0) → Ψ (.inr 1, mu_ex H)) (l5 : ∀ (x5 : Int32) (K : mu_H), A5 x5 K → ¬ (w < 0) → ¬ ((5 : Int32) < w) → ¬ (i < 0) → (w = (5 : Int32)) → Ψ (.inl (some (.inl x5)), K)) (l6 : ¬ (w < 0) → ¬ ((5 : Int32) < w) → ¬ (i < 0) → (w = (5 : Int32)) → ¬ (mu_i H 0 3 = 0) → ¬ (i < (mu_i H (m + 35) 2)) → Ψ (.inr 0, mu_ex H)) (l7 : ∀ (x8 : Int32) (K : mu_H), A8 x8 K → ¬ (w < 0) → ¬ ((5 : Int32) < w) → ¬ (i < 0) → ¬ (w = (5 : Int32)) → (i = 0) → Ψ (.inl (some (.inl x8)), K)) (l8 : ¬ (w < 0) → ¬ ((5 : Int32) < w) → ¬ (i < 0) → ¬ (w = (5 : Int32)) → (i = 0) → (mu_i H 0 3 = 0) → Ψ (.inr 1, mu_ex H)) (l9 : ¬ (w < 0) → ¬ ((5 : Int32) < w) → ¬ (i < 0) → ¬ (w = (5 : Int32)) → ¬ (i = 0) → Ψ (.inr 0, mu_ex H)) : mu_MT (mu_D (d + 22)) 66 [.inr (.inr (some 0)), .inl w, .inl i] H Ψ := by
  refine mu_meth (M := mu_m66) rfl rfl ?_
  refine mw_ht (mu_fn_of (show [0, 1, 2].Nodup by decide)) ?_
  refine mw_go mu_g66 (k := 1) (f1 := (1, [(0, .inr (.inr (some 0))), (1, .inl w), (2, .inl i)], [.inl w], H)) (C := []) rfl trivial ?_
  refine mw_if (P := w < 0) (a := 22) (b := 4) (fun _ => rfl) trivial (fun c1 => ?_) (fun c1 => ?_)
  · -- 22
    exact mw_of (fun _ => mu_throw rfl rfl rfl rfl (by decide) rfl (by decide) (l1 c1))
  · -- 4
    refine mw_go mu_g66 (k := 2) (f1 := (6, [(0, .inr (.inr (some 0))), (1, .inl w), (2, .inl i)], [.inl (5 : Int32), .inl w], H)) (C := []) rfl trivial ?_
    refine mw_if (P := (5 : Int32) < w) (a := 22) (b := 9) (fun _ => rfl) trivial (fun c2 => ?_) (fun c2 => ?_)
    · -- 22
      exact mw_of (fun _ => mu_throw rfl rfl rfl rfl (by decide) rfl (by decide) (l2 c1 c2))
    · -- 9
      refine mw_go mu_g66 (k := 1) (f1 := (10, [(0, .inr (.inr (some 0))), (1, .inl w), (2, .inl i)], [.inl i], H)) (C := []) rfl trivial ?_
      refine mw_if (P := i < 0) (a := 22) (b := 13) (fun _ => rfl) trivial (fun c3 => ?_) (fun c3 => ?_)
      · -- 22
        exact mw_of (fun _ => mu_throw rfl rfl rfl rfl (by decide) rfl (by decide) (l3 c1 c2 c3))
      · -- 13
        refine mw_go mu_g66 (k := 2) (f1 := (15, [(0, .inr (.inr (some 0))), (1, .inl w), (2, .inl i)], [.inl (5 : Int32), .inl w], H)) (C := []) rfl trivial ?_
        refine mw_if (P := w = (5 : Int32)) (a := 30) (b := 18) (fun _ => rfl) trivial (fun c4 => ?_) (fun c4 => ?_)
        · -- 30
          refine mw_go mu_g66 (k := 2) (f1 := (32, [(0, .inr (.inr (some 0))), (1, .inl w), (2, .inl i)], [.inl (5 : Int32), .inl w], H)) (C := []) rfl trivial ?_
          refine mw_if (P := w = (5 : Int32)) (a := 35) (b := 50) (fun _ => rfl) trivial (fun _ => ?_) (fun z => absurd c4 z)
          refine mw_go mu_g66 (k := 4) (f1 := (41, [(0, .inr (.inr (some 0))), (1, .inl w), (2, .inl i)], [.inr (.inr (mu_r H 0 4)), .inl i, .inr (.inr (some 0))], H)) (C := [mu_is H (some 0) 0]) rfl (show mu_is H (some 0) 0 from hg.is rfl) ?_
          rw [hm4]
          refine mw_go mu_g66 (k := 1) (f1 := (44, [(0, .inr (.inr (some 0))), (1, .inl w), (2, .inl i)], [.inr (.inr (mu_r H m 17)), .inl i, .inr (.inr (some 0))], H)) (C := [mu_is H (some m) 6]) rfl (show mu_is H (some m) 6 from (gi_im hg hm)) ?_
          rw [(show mu_r H m 17 = some (m + 35) from (gi_mr hg hm (j := 17) (by decide)).trans (congrArg some (by omega)))]
          refine mw_go mu_g66 (k := 1) (f1 := (47, [(0, .inr (.inr (some 0))), (1, .inl w), (2, .inl i)], [.inl (mu_i H (m + 35) 2), .inl i, .inr (.inr (some 0))], H)) (C := [mu_is H (some (m + 35)) 10]) rfl (show mu_is H (some (m + 35)) 10 from (hg.w (md_w17 hm)).1) ?_
          refine mw_callx (as := [.inl i, .inl (mu_i H (m + 35) 2)]) (S1 := []) rfl rfl rfl rfl (by decide) (by decide) (show mu_is H (some 0) 0 from hg.is rfl) (pv_number (d := d + 20) hg i (mu_i H (m + 35) 2)) (fun vv H1 q => ?_) rfl (fun xx H1 q => ?_)
          · -- it returns
            rw [if_neg c3] at q
            by_cases c6 : mu_i H 0 3 = 0
            · -- yes
              rw [if_pos c6] at q
              cases q
              refine mw_go mu_g66 (k := 1) (f1 := (51, [(0, .inr (.inr (some 0))), (1, .inl w), (2, .inl i)], [.inr (.inr (some 0))], H)) (C := []) rfl trivial ?_
              refine mw_callx (as := []) (S1 := []) rfl rfl rfl rfl (by decide) (by decide) (show mu_is H (some 0) 0 from hg.is rfl) (pv_model (d := d + 20) hg) (fun vv H1 q => ?_) rfl (fun xx H1 q => ?_)
              · -- it returns
                rw [if_pos c6] at q
                cases q
              · -- it throws
                rw [if_pos c6] at q
                cases q
                exact ⟨by decide, (l4 c1 c2 c3 c4 c6)⟩
            · -- no
              rw [if_neg c6] at q
              by_cases c8 : i < (mu_i H (m + 35) 2)
              · -- yes
                rw [if_pos c8] at q
                cases q
                refine mw_go mu_g66 (k := 1) (f1 := (51, [(0, .inr (.inr (some 0))), (1, .inl w), (2, .inl i)], [.inr (.inr (some 0))], H)) (C := []) rfl trivial ?_
                refine mw_callx (as := []) (S1 := []) rfl rfl rfl rfl (by decide) (by decide) (show mu_is H (some 0) 0 from hg.is rfl) (pv_model (d := d + 20) hg) (fun vv H1 q => ?_) rfl (fun xx H1 q => ?_)
                · -- it returns
                  rw [if_neg c6] at q
                  cases q
                  refine mw_go mu_g66 (k := 1) (f1 := (55, [(0, .inr (.inr (some 0))), (1, .inl w), (2, .inl i)], [.inr (.inr (some 0))], H)) (C := []) rfl trivial ?_
                  refine mw_cV (fun _ => rfl) (show mu_is H (some 0) 0 from hg.is rfl) (hc1 c1 c2 c3 c4 c6 c8) (fun Q1 q1 => ?_)
                  have hg1 : gi Q1 := g1 Q1 q1
                  refine mw_go mu_g66 (k := 1) (f1 := (59, [(0, .inr (.inr (some 0))), (1, .inl w), (2, .inl i)], [.inr (.inr (some 0))], Q1)) (C := []) rfl trivial ?_
                  refine mw_cV (fun _ => rfl) (show mu_is Q1 (some 0) 0 from hg1.is rfl) (hc2 Q1 q1 c1 c2 c3 c4) (fun Q2 q2 => ?_)
                  have hg2 : gi Q2 := g2 Q2 q2
                  refine mw_go mu_g66 (k := 2) (f1 := (64, [(0, .inr (.inr (some 0))), (1, .inl w), (2, .inl i)], [.inl (5 : Int32), .inl w], Q2)) (C := []) rfl trivial ?_
                  refine mw_if (P := w = (5 : Int32)) (a := 67) (b := 79) (fun _ => rfl) trivial (fun _ => ?_) (fun z => absurd c4 z)
                  refine mw_go mu_g66 (k := 2) (f1 := (71, [(0, .inr (.inr (some 0))), (1, .inl w), (2, .inl i)], [.inr (.inr (mu_r Q2 0 11))], Q2)) (C := [mu_is Q2 (some 0) 0]) rfl (show mu_is Q2 (some 0) 0 from hg2.is rfl) ?_
                  rw [(hg2.r (p := 0) (j := 11) (q := 158) rfl)]
                  refine mw_go mu_g66 (k := 1) (f1 := (72, [(0, .inr (.inr (some 0))), (1, .inl w), (2, .inl i)], [.inl i, .inr (.inr (some 158))], Q2)) (C := []) rfl trivial ?_
                  refine mw_cV (fun _ => rfl) (show mu_is Q2 (some 158) 8 from hg2.is rfl) (hc3 Q2 q2 c1 c2 c3 c4) (fun Q3 q3 => ?_)
                  have hg3 : gi Q3 := g3 Q3 q3
                  refine mw_go mu_g66 (k := 1) (f1 := (76, [(0, .inr (.inr (some 0))), (1, .inl w), (2, .inl i)], [.inr (.inr (some 0))], Q3)) (C := []) rfl trivial ?_
                  refine mw_cV (fun _ => rfl) (show mu_is Q3 (some 0) 0 from hg3.is rfl) (hc4 Q3 q3 c1 c2 c3 c4) (fun Q4 q4 => ?_)
                  have hg4 : gi Q4 := g4 Q4 q4
                  refine mw_go mu_g66 (k := 2) (f1 := (83, [(0, .inr (.inr (some 0))), (1, .inl w), (2, .inl i)], [.inr (.inr (mu_r Q4 0 11))], Q4)) (C := [mu_is Q4 (some 0) 0]) rfl (show mu_is Q4 (some 0) 0 from hg4.is rfl) ?_
                  rw [(hg4.r (p := 0) (j := 11) (q := 158) rfl)]
                  refine mw_go mu_g66 (k := 2) (f1 := (85, [(0, .inr (.inr (some 0))), (1, .inl w), (2, .inl i)], [.inl i, .inl w, .inr (.inr (some 158))], Q4)) (C := []) rfl trivial ?_
                  refine mw_cI (fun _ => rfl) (show mu_is Q4 (some 158) 8 from hg4.is rfl) (hc5 Q4 q4 c1 c2 c3 c4) (fun x5 Q5 q5 => ?_)
                  have hg5 : gi Q5 := g5 x5 Q5 q5
                  exact mw_of (fun _ => mu_ret rfl trivial (l5 x5 Q5 q5 c1 c2 c3 c4))
                · -- it throws
                  rw [if_neg c6] at q
                  cases q
              · -- no
                rw [if_neg c8] at q
                cases q
          · -- it throws
            rw [if_neg c3] at q
            by_cases c15 : mu_i H 0 3 = 0
            · -- yes
              rw [if_pos c15] at q
              cases q
            · -- no
              rw [if_neg c15] at q
              by_cases c16 : i < (mu_i H (m + 35) 2)
              · -- yes
                rw [if_pos c16] at q
                cases q
              · -- no
                rw [if_neg c16] at q
                cases q
                exact ⟨by decide, (l6 c1 c2 c3 c4 c15 c16)⟩
        · -- 18
          refine mw_go mu_g66 (k := 1) (f1 := (19, [(0, .inr (.inr (some 0))), (1, .inl w), (2, .inl i)], [.inl i], H)) (C := []) rfl trivial ?_
          refine mw_if (P := i = 0) (a := 30) (b := 22) (fun _ => rfl) trivial (fun c17 => ?_) (fun c17 => ?_)
          · -- 30
            refine mw_go mu_g66 (k := 2) (f1 := (32, [(0, .inr (.inr (some 0))), (1, .inl w), (2, .inl i)], [.inl (5 : Int32), .inl w], H)) (C := []) rfl trivial ?_
            refine mw_if (P := w = (5 : Int32)) (a := 35) (b := 50) (fun _ => rfl) trivial (fun z => absurd z c4) (fun _ => ?_)
            refine mw_go mu_g66 (k := 1) (f1 := (51, [(0, .inr (.inr (some 0))), (1, .inl w), (2, .inl i)], [.inr (.inr (some 0))], H)) (C := []) rfl trivial ?_
            refine mw_callx (as := []) (S1 := []) rfl rfl rfl rfl (by decide) (by decide) (show mu_is H (some 0) 0 from hg.is rfl) (pv_model (d := d + 20) hg) (fun vv H1 q => ?_) rfl (fun xx H1 q => ?_)
            · -- it returns
              by_cases c19 : mu_i H 0 3 = 0
              · -- yes
                rw [if_pos c19] at q
                cases q
              · -- no
                rw [if_neg c19] at q
                cases q
                refine mw_go mu_g66 (k := 1) (f1 := (55, [(0, .inr (.inr (some 0))), (1, .inl w), (2, .inl i)], [.inr (.inr (some 0))], H)) (C := []) rfl trivial ?_
                refine mw_cV (fun _ => rfl) (show mu_is H (some 0) 0 from hg.is rfl) (hc6 c1 c2 c3 c4 c17 c19) (fun Q6 q6 => ?_)
                have hg6 : gi Q6 := g6 Q6 q6
                refine mw_go mu_g66 (k := 1) (f1 := (59, [(0, .inr (.inr (some 0))), (1, .inl w), (2, .inl i)], [.inr (.inr (some 0))], Q6)) (C := []) rfl trivial ?_
                refine mw_cV (fun _ => rfl) (show mu_is Q6 (some 0) 0 from hg6.is rfl) (hc7 Q6 q6 c1 c2 c3 c4 c17) (fun Q7 q7 => ?_)
                have hg7 : gi Q7 := g7 Q7 q7
                refine mw_go mu_g66 (k := 2) (f1 := (64, [(0, .inr (.inr (some 0))), (1, .inl w), (2, .inl i)], [.inl (5 : Int32), .inl w], Q7)) (C := []) rfl trivial ?_
                refine mw_if (P := w = (5 : Int32)) (a := 67) (b := 79) (fun _ => rfl) trivial (fun z => absurd z c4) (fun _ => ?_)
                refine mw_go mu_g66 (k := 2) (f1 := (83, [(0, .inr (.inr (some 0))), (1, .inl w), (2, .inl i)], [.inr (.inr (mu_r Q7 0 11))], Q7)) (C := [mu_is Q7 (some 0) 0]) rfl (show mu_is Q7 (some 0) 0 from hg7.is rfl) ?_
                rw [(hg7.r (p := 0) (j := 11) (q := 158) rfl)]
                refine mw_go mu_g66 (k := 2) (f1 := (85, [(0, .inr (.inr (some 0))), (1, .inl w), (2, .inl i)], [.inl i, .inl w, .inr (.inr (some 158))], Q7)) (C := []) rfl trivial ?_
                refine mw_cI (fun _ => rfl) (show mu_is Q7 (some 158) 8 from hg7.is rfl) (hc8 Q7 q7 c1 c2 c3 c4 c17) (fun x8 Q8 q8 => ?_)
                have hg8 : gi Q8 := g8 x8 Q8 q8
                exact mw_of (fun _ => mu_ret rfl trivial (l7 x8 Q8 q8 c1 c2 c3 c4 c17))
            · -- it throws
              by_cases c23 : mu_i H 0 3 = 0
              · -- yes
                rw [if_pos c23] at q
                cases q
                exact ⟨by decide, (l8 c1 c2 c3 c4 c17 c23)⟩
              · -- no
                rw [if_neg c23] at q
                cases q
          · -- 22
            exact mw_of (fun _ => mu_throw rfl rfl rfl rfl (by decide) rfl (by decide) (l9 c1 c2 c3 c4 c17))
/-- PathProver.holds(I)Z -/
abbrev mu_m88 : ev_M := (2, (some .boolean), [], ev_b88)
theorem mu_g88 : mu_good mu_m88 := mu_goodk ev_k88
theorem pv_holdsS {Ψ : mu_R → Prop} {A1 : mu_H → Prop} {A2 : mu_H → Prop} {A3 : Int32 → mu_H → Prop} (hg : gi H) (hm : m = 2 ∨ m = 41) (hm4 : mu_r H 0 4 = some m) (i : Int32) (hc1 : ¬ (i < 0) → ¬ (mu_i H 0 3 = 0) → (i < (mu_i H (m + 35) 2)) → ¬ (mu_i H 0 13 < 0) → mu_TV (mu_D (d + 21)) 339 [.inr (.inr (some 158)), .inl i] H (A1)) (g1 : ∀ (K : mu_H), A1 K → gi K) (hc2 : ∀ (K : mu_H), A1 K → ¬ (i < 0) → mu_TV (mu_D (d + 21)) 376 [.inr (.inr (some 0))] K (A2)) (g2 : ∀ (K : mu_H), A2 K → gi K) (hc3 : ∀ (K : mu_H), A2 K → ¬ (i < 0) → mu_TI (mu_D (d + 21)) 340 [.inr (.inr (some 158)), .inl i, .inl (mu_i K 0 13)] K (A3)) (g3 : ∀ (x3 : Int32) (K : mu_H), A3 x3 K → gi K) (hz47 : ∀ (x3 : Int32) (K : mu_H), A3 x3 K → ¬ (i < 0) → x3 = 0 ∨ x3 = 1) (l1 : ¬ (i < 0) → (mu_i H 0 3 = 0) → Ψ (.inr 1, mu_ex H)) (l2 : ∀ (x3 : Int32) (K : mu_H), A3 x3 K → ¬ (i < 0) → Ψ (.inl (some (.inl x3)), K)) (l3 : ¬ (i < 0) → ¬ (mu_i H 0 3 = 0) → (i < (mu_i H (m + 35) 2)) → (mu_i H 0 13 < 0) → Ψ (.inr 2, mu_ex H)) (l4 : (i < 0) → Ψ (.inr 0, mu_ex H)) (l5 : ¬ (i < 0) → ¬ (mu_i H 0 3 = 0) → ¬ (i < (mu_i H (m + 35) 2)) → Ψ (.inr 0, mu_ex H)) : mu_MT (mu_D (d + 22)) 88 [.inr (.inr (some 0)), .inl i] H Ψ := by
  refine mu_meth (M := mu_m88) rfl rfl ?_
  refine mw_ht (mu_fn_of (show [0, 1].Nodup by decide)) ?_
  refine mw_go mu_g88 (k := 4) (f1 := (6, [(0, .inr (.inr (some 0))), (1, .inl i)], [.inr (.inr (mu_r H 0 4)), .inl i, .inr (.inr (some 0))], H)) (C := [mu_is H (some 0) 0]) rfl (show mu_is H (some 0) 0 from hg.is rfl) ?_
  rw [hm4]
  refine mw_go mu_g88 (k := 1) (f1 := (9, [(0, .inr (.inr (some 0))), (1, .inl i)], [.inr (.inr (mu_r H m 17)), .inl i, .inr (.inr (some 0))], H)) (C := [mu_is H (some m) 6]) rfl (show mu_is H (some m) 6 from (gi_im hg hm)) ?_
  rw [(show mu_r H m 17 = some (m + 35) from (gi_mr hg hm (j := 17) (by decide)).trans (congrArg some (by omega)))]
  refine mw_go mu_g88 (k := 1) (f1 := (12, [(0, .inr (.inr (some 0))), (1, .inl i)], [.inl (mu_i H (m + 35) 2), .inl i, .inr (.inr (some 0))], H)) (C := [mu_is H (some (m + 35)) 10]) rfl (show mu_is H (some (m + 35)) 10 from (hg.w (md_w17 hm)).1) ?_
  refine mw_callx (as := [.inl i, .inl (mu_i H (m + 35) 2)]) (S1 := []) rfl rfl rfl rfl (by decide) (by decide) (show mu_is H (some 0) 0 from hg.is rfl) (pv_number (d := d + 20) hg i (mu_i H (m + 35) 2)) (fun vv H1 q => ?_) rfl (fun xx H1 q => ?_)
  · -- it returns
    by_cases c2 : i < 0
    · -- yes
      rw [if_pos c2] at q
      cases q
    · -- no
      rw [if_neg c2] at q
      by_cases c3 : mu_i H 0 3 = 0
      · -- yes
        rw [if_pos c3] at q
        cases q
        refine mw_go mu_g88 (k := 1) (f1 := (16, [(0, .inr (.inr (some 0))), (1, .inl i)], [.inr (.inr (some 0))], H)) (C := []) rfl trivial ?_
        refine mw_callx (as := []) (S1 := []) rfl rfl rfl rfl (by decide) (by decide) (show mu_is H (some 0) 0 from hg.is rfl) (pv_model (d := d + 20) hg) (fun vv H1 q => ?_) rfl (fun xx H1 q => ?_)
        · -- it returns
          rw [if_pos c3] at q
          cases q
        · -- it throws
          rw [if_pos c3] at q
          cases q
          exact ⟨by decide, (l1 c2 c3)⟩
      · -- no
        rw [if_neg c3] at q
        by_cases c5 : i < (mu_i H (m + 35) 2)
        · -- yes
          rw [if_pos c5] at q
          cases q
          refine mw_go mu_g88 (k := 1) (f1 := (16, [(0, .inr (.inr (some 0))), (1, .inl i)], [.inr (.inr (some 0))], H)) (C := []) rfl trivial ?_
          refine mw_callx (as := []) (S1 := []) rfl rfl rfl rfl (by decide) (by decide) (show mu_is H (some 0) 0 from hg.is rfl) (pv_model (d := d + 20) hg) (fun vv H1 q => ?_) rfl (fun xx H1 q => ?_)
          · -- it returns
            rw [if_neg c3] at q
            cases q
            refine mw_go mu_g88 (k := 1) (f1 := (20, [(0, .inr (.inr (some 0))), (1, .inl i)], [.inr (.inr (some 0))], H)) (C := []) rfl trivial ?_
            refine mw_callx (as := []) (S1 := []) rfl rfl rfl rfl (by decide) (by decide) (show mu_is H (some 0) 0 from hg.is rfl) (pv_current (d := d + 20) hg) (fun vv H1 q => ?_) rfl (fun xx H1 q => ?_)
            · -- it returns
              by_cases c8 : mu_i H 0 13 < 0
              · -- yes
                rw [if_pos c8] at q
                cases q
              · -- no
                rw [if_neg c8] at q
                cases q
                refine mw_go mu_g88 (k := 2) (f1 := (27, [(0, .inr (.inr (some 0))), (1, .inl i)], [.inr (.inr (mu_r H 0 11))], H)) (C := [mu_is H (some 0) 0]) rfl (show mu_is H (some 0) 0 from hg.is rfl) ?_
                rw [(hg.r (p := 0) (j := 11) (q := 158) rfl)]
                refine mw_go mu_g88 (k := 1) (f1 := (28, [(0, .inr (.inr (some 0))), (1, .inl i)], [.inl i, .inr (.inr (some 158))], H)) (C := []) rfl trivial ?_
                refine mw_cV (fun _ => rfl) (show mu_is H (some 158) 8 from hg.is rfl) (hc1 c2 c3 c5 c8) (fun Q1 q1 => ?_)
                have hg1 : gi Q1 := g1 Q1 q1
                refine mw_go mu_g88 (k := 1) (f1 := (32, [(0, .inr (.inr (some 0))), (1, .inl i)], [.inr (.inr (some 0))], Q1)) (C := []) rfl trivial ?_
                refine mw_cV (fun _ => rfl) (show mu_is Q1 (some 0) 0 from hg1.is rfl) (hc2 Q1 q1 c2) (fun Q2 q2 => ?_)
                have hg2 : gi Q2 := g2 Q2 q2
                refine mw_go mu_g88 (k := 2) (f1 := (39, [(0, .inr (.inr (some 0))), (1, .inl i)], [.inr (.inr (mu_r Q2 0 11))], Q2)) (C := [mu_is Q2 (some 0) 0]) rfl (show mu_is Q2 (some 0) 0 from hg2.is rfl) ?_
                rw [(hg2.r (p := 0) (j := 11) (q := 158) rfl)]
                refine mw_go mu_g88 (k := 3) (f1 := (44, [(0, .inr (.inr (some 0))), (1, .inl i)], [.inl (mu_i Q2 0 13), .inl i, .inr (.inr (some 158))], Q2)) (C := [mu_is Q2 (some 0) 0]) rfl (show mu_is Q2 (some 0) 0 from hg2.is rfl) ?_
                refine mw_cI (fun _ => rfl) (show mu_is Q2 (some 158) 8 from hg2.is rfl) (hc3 Q2 q2 c2) (fun x3 Q3 q3 => ?_)
                have hg3 : gi Q3 := g3 x3 Q3 q3
                exact mw_of (fun _ => mu_ret rfl (hz47 x3 Q3 q3 c2) (l2 x3 Q3 q3 c2))
            · -- it throws
              by_cases c12 : mu_i H 0 13 < 0
              · -- yes
                rw [if_pos c12] at q
                cases q
                exact ⟨by decide, (l3 c2 c3 c5 c12)⟩
              · -- no
                rw [if_neg c12] at q
                cases q
          · -- it throws
            rw [if_neg c3] at q
            cases q
        · -- no
          rw [if_neg c5] at q
          cases q
  · -- it throws
    by_cases c13 : i < 0
    · -- yes
      rw [if_pos c13] at q
      cases q
      exact ⟨by decide, (l4 c13)⟩
    · -- no
      rw [if_neg c13] at q
      by_cases c14 : mu_i H 0 3 = 0
      · -- yes
        rw [if_pos c14] at q
        cases q
      · -- no
        rw [if_neg c14] at q
        by_cases c15 : i < (mu_i H (m + 35) 2)
        · -- yes
          rw [if_pos c15] at q
          cases q
        · -- no
          rw [if_neg c15] at q
          cases q
          exact ⟨by decide, (l5 c13 c14 c15)⟩
/-- PathProver.show(I)I -/
abbrev mu_m72 : ev_M := (4, (some .int), [], ev_b72)
theorem mu_g72 : mu_good mu_m72 := mu_goodk ev_k72
theorem pv_showS {Ψ : mu_R → Prop} {A1 : mu_H → Prop} {A2 : mu_H → Prop} {A3 : mu_H → Prop} {A4 : mu_H → Prop} {A5 : Int32 → mu_H → Prop} {A6 : Int32 → mu_H → Prop} {A7 : Int32 → mu_H → Prop} {A8 : Int32 → mu_H → Prop} {A9 : Int32 → mu_H → Prop} {A10 : Int32 → mu_H → Prop} {A11 : Int32 → mu_H → Prop} {A12 : Int32 → Int32 → mu_H → Prop} {A13 : Int32 → Int32 → mu_H → Prop} (hg : gi H) (hm : m = 2 ∨ m = 41) (hm4 : mu_r H 0 4 = some m) (i : Int32) (hc1 : ¬ (i < 0) → ¬ (mu_i H 0 3 = 0) → (i < (mu_i H (m + 35) 2)) → mu_TV (mu_D (d + 21)) 383 [.inr (.inr (some 0))] H (A1)) (g1 : ∀ (K : mu_H), A1 K → gi K) (hc2 : ∀ (K : mu_H), A1 K → ¬ (i < 0) → mu_TV (mu_D (d + 21)) 376 [.inr (.inr (some 0))] K (A2)) (g2 : ∀ (K : mu_H), A2 K → gi K) (hc3 : ∀ (K : mu_H), A2 K → ¬ (i < 0) → mu_TV (mu_D (d + 21)) 339 [.inr (.inr (some 158)), .inl i] K (A3)) (g3 : ∀ (K : mu_H), A3 K → gi K) (hc4 : ∀ (K : mu_H), A3 K → ¬ (i < 0) → mu_TV (mu_D (d + 21)) 376 [.inr (.inr (some 0))] K (A4)) (g4 : ∀ (K : mu_H), A4 K → gi K) (hc5 : ∀ (K : mu_H), A4 K → ¬ (i < 0) → mu_TI (mu_D (d + 21)) 365 [.inr (.inr (some 158)), .inl i] K (A5)) (g5 : ∀ (x5 : Int32) (K : mu_H), A5 x5 K → gi K) (hc6 : ∀ (x5 : Int32) (K : mu_H), A5 x5 K → ¬ (i < 0) → ¬ (x5 < 0) → mu_TV (mu_D (d + 21)) 366 [.inr (.inr (some 158)), .inl i] K (A6 x5)) (g6 : ∀ (x5 : Int32) (K : mu_H), A6 x5 K → gi K) (hc7 : ∀ (x5 : Int32) (K : mu_H), A6 x5 K → ¬ (i < 0) → ¬ (x5 < 0) → mu_TV (mu_D (d + 21)) 376 [.inr (.inr (some 0))] K (A7 x5)) (g7 : ∀ (x5 : Int32) (K : mu_H), A7 x5 K → gi K) (hc8 : ∀ (x5 : Int32) (K : mu_H), A7 x5 K → ¬ (i < 0) → ¬ (x5 < 0) → mu_TV (mu_D (d + 21)) 367 [.inr (.inr (some 158)), .inl i] K (A8 x5)) (g8 : ∀ (x5 : Int32) (K : mu_H), A8 x5 K → gi K) (hc9 : ∀ (x5 : Int32) (K : mu_H), A8 x5 K → ¬ (i < 0) → ¬ (x5 < 0) → mu_TV (mu_D (d + 21)) 376 [.inr (.inr (some 0))] K (A9 x5)) (g9 : ∀ (x5 : Int32) (K : mu_H), A9 x5 K → gi K) (hc10 : ∀ (x5 : Int32) (K : mu_H), A9 x5 K → ¬ (i < 0) → ¬ (x5 < 0) → mu_TV (mu_D (d + 21)) 368 [.inr (.inr (some 158)), .inl i, .inl x5] K (A10 x5)) (g10 : ∀ (x5 : Int32) (K : mu_H), A10 x5 K → gi K) (hc11 : ∀ (x5 : Int32) (K : mu_H), A10 x5 K → ¬ (i < 0) → ¬ (x5 < 0) → mu_TV (mu_D (d + 21)) 376 [.inr (.inr (some 0))] K (A11 x5)) (g11 : ∀ (x5 : Int32) (K : mu_H), A11 x5 K → gi K) (hc12 : ∀ (x5 : Int32) (K : mu_H), A11 x5 K → ¬ (i < 0) → ¬ (x5 < 0) → mu_TI (mu_D (d + 21)) 369 [.inr (.inr (some 158))] K (A12 x5)) (g12 : ∀ (x5 : Int32) (x12 : Int32) (K : mu_H), A12 x5 x12 K → gi K) (hc13 : ∀ (x5 : Int32) (x12 : Int32) (K : mu_H), A12 x5 x12 K → ¬ (i < 0) → ¬ (x5 < 0) → mu_TV (mu_D (d + 21)) 376 [.inr (.inr (some 0))] K (A13 x5 x12)) (g13 : ∀ (x5 : Int32) (x12 : Int32) (K : mu_H), A13 x5 x12 K → gi K) (l1 : ¬ (i < 0) → (mu_i H 0 3 = 0) → Ψ (.inr 1, mu_ex H)) (l2 : ∀ (x5 : Int32) (K : mu_H), A5 x5 K → ¬ (i < 0) → (x5 < 0) → Ψ (.inr 2, mu_ex K)) (l3 : ∀ (x5 : Int32) (x12 : Int32) (K : mu_H), A13 x5 x12 K → ¬ (i < 0) → ¬ (x5 < 0) → ((2000 : Int32) < x12) → Ψ (.inr 3, mu_ex K)) (l4 : ∀ (x5 : Int32) (x12 : Int32) (K : mu_H), A13 x5 x12 K → ¬ (i < 0) → ¬ (x5 < 0) → ¬ ((2000 : Int32) < x12) → Ψ (.inl (some (.inl x12)), K)) (l5 : (i < 0) → Ψ (.inr 0, mu_ex H)) (l6 : ¬ (i < 0) → ¬ (mu_i H 0 3 = 0) → ¬ (i < (mu_i H (m + 35) 2)) → Ψ (.inr 0, mu_ex H)) : mu_MT (mu_D (d + 22)) 72 [.inr (.inr (some 0)), .inl i] H Ψ := by
  refine mu_meth (M := mu_m72) rfl rfl ?_
  refine mw_ht (mu_fn_of (show [0, 1].Nodup by decide)) ?_
  refine mw_go mu_g72 (k := 4) (f1 := (6, [(0, .inr (.inr (some 0))), (1, .inl i)], [.inr (.inr (mu_r H 0 4)), .inl i, .inr (.inr (some 0))], H)) (C := [mu_is H (some 0) 0]) rfl (show mu_is H (some 0) 0 from hg.is rfl) ?_
  rw [hm4]
  refine mw_go mu_g72 (k := 1) (f1 := (9, [(0, .inr (.inr (some 0))), (1, .inl i)], [.inr (.inr (mu_r H m 17)), .inl i, .inr (.inr (some 0))], H)) (C := [mu_is H (some m) 6]) rfl (show mu_is H (some m) 6 from (gi_im hg hm)) ?_
  rw [(show mu_r H m 17 = some (m + 35) from (gi_mr hg hm (j := 17) (by decide)).trans (congrArg some (by omega)))]
  refine mw_go mu_g72 (k := 1) (f1 := (12, [(0, .inr (.inr (some 0))), (1, .inl i)], [.inl (mu_i H (m + 35) 2), .inl i, .inr (.inr (some 0))], H)) (C := [mu_is H (some (m + 35)) 10]) rfl (show mu_is H (some (m + 35)) 10 from (hg.w (md_w17 hm)).1) ?_
  refine mw_callx (as := [.inl i, .inl (mu_i H (m + 35) 2)]) (S1 := []) rfl rfl rfl rfl (by decide) (by decide) (show mu_is H (some 0) 0 from hg.is rfl) (pv_number (d := d + 20) hg i (mu_i H (m + 35) 2)) (fun vv H1 q => ?_) rfl (fun xx H1 q => ?_)
  · -- it returns
    by_cases c2 : i < 0
    · -- yes
      rw [if_pos c2] at q
      cases q
    · -- no
      rw [if_neg c2] at q
      by_cases c3 : mu_i H 0 3 = 0
      · -- yes
        rw [if_pos c3] at q
        cases q
        refine mw_go mu_g72 (k := 1) (f1 := (16, [(0, .inr (.inr (some 0))), (1, .inl i)], [.inr (.inr (some 0))], H)) (C := []) rfl trivial ?_
        refine mw_callx (as := []) (S1 := []) rfl rfl rfl rfl (by decide) (by decide) (show mu_is H (some 0) 0 from hg.is rfl) (pv_model (d := d + 20) hg) (fun vv H1 q => ?_) rfl (fun xx H1 q => ?_)
        · -- it returns
          rw [if_pos c3] at q
          cases q
        · -- it throws
          rw [if_pos c3] at q
          cases q
          exact ⟨by decide, (l1 c2 c3)⟩
      · -- no
        rw [if_neg c3] at q
        by_cases c5 : i < (mu_i H (m + 35) 2)
        · -- yes
          rw [if_pos c5] at q
          cases q
          refine mw_go mu_g72 (k := 1) (f1 := (16, [(0, .inr (.inr (some 0))), (1, .inl i)], [.inr (.inr (some 0))], H)) (C := []) rfl trivial ?_
          refine mw_callx (as := []) (S1 := []) rfl rfl rfl rfl (by decide) (by decide) (show mu_is H (some 0) 0 from hg.is rfl) (pv_model (d := d + 20) hg) (fun vv H1 q => ?_) rfl (fun xx H1 q => ?_)
          · -- it returns
            rw [if_neg c3] at q
            cases q
            refine mw_go mu_g72 (k := 1) (f1 := (20, [(0, .inr (.inr (some 0))), (1, .inl i)], [.inr (.inr (some 0))], H)) (C := []) rfl trivial ?_
            refine mw_cV (fun _ => rfl) (show mu_is H (some 0) 0 from hg.is rfl) (hc1 c2 c3 c5) (fun Q1 q1 => ?_)
            have hg1 : gi Q1 := g1 Q1 q1
            refine mw_go mu_g72 (k := 1) (f1 := (24, [(0, .inr (.inr (some 0))), (1, .inl i)], [.inr (.inr (some 0))], Q1)) (C := []) rfl trivial ?_
            refine mw_cV (fun _ => rfl) (show mu_is Q1 (some 0) 0 from hg1.is rfl) (hc2 Q1 q1 c2) (fun Q2 q2 => ?_)
            have hg2 : gi Q2 := g2 Q2 q2
            refine mw_go mu_g72 (k := 2) (f1 := (31, [(0, .inr (.inr (some 0))), (1, .inl i)], [.inr (.inr (mu_r Q2 0 11))], Q2)) (C := [mu_is Q2 (some 0) 0]) rfl (show mu_is Q2 (some 0) 0 from hg2.is rfl) ?_
            rw [(hg2.r (p := 0) (j := 11) (q := 158) rfl)]
            refine mw_go mu_g72 (k := 1) (f1 := (32, [(0, .inr (.inr (some 0))), (1, .inl i)], [.inl i, .inr (.inr (some 158))], Q2)) (C := []) rfl trivial ?_
            refine mw_cV (fun _ => rfl) (show mu_is Q2 (some 158) 8 from hg2.is rfl) (hc3 Q2 q2 c2) (fun Q3 q3 => ?_)
            have hg3 : gi Q3 := g3 Q3 q3
            refine mw_go mu_g72 (k := 1) (f1 := (36, [(0, .inr (.inr (some 0))), (1, .inl i)], [.inr (.inr (some 0))], Q3)) (C := []) rfl trivial ?_
            refine mw_cV (fun _ => rfl) (show mu_is Q3 (some 0) 0 from hg3.is rfl) (hc4 Q3 q3 c2) (fun Q4 q4 => ?_)
            have hg4 : gi Q4 := g4 Q4 q4
            refine mw_go mu_g72 (k := 2) (f1 := (43, [(0, .inr (.inr (some 0))), (1, .inl i)], [.inr (.inr (mu_r Q4 0 11))], Q4)) (C := [mu_is Q4 (some 0) 0]) rfl (show mu_is Q4 (some 0) 0 from hg4.is rfl) ?_
            rw [(hg4.r (p := 0) (j := 11) (q := 158) rfl)]
            refine mw_go mu_g72 (k := 1) (f1 := (44, [(0, .inr (.inr (some 0))), (1, .inl i)], [.inl i, .inr (.inr (some 158))], Q4)) (C := []) rfl trivial ?_
            refine mw_cI (fun _ => rfl) (show mu_is Q4 (some 158) 8 from hg4.is rfl) (hc5 Q4 q4 c2) (fun x5 Q5 q5 => ?_)
            have hg5 : gi Q5 := g5 x5 Q5 q5
            refine mw_go mu_g72 (k := 2) (f1 := (49, [(2, .inl x5), (0, .inr (.inr (some 0))), (1, .inl i)], [.inl x5], Q5)) (C := []) rfl trivial ?_
            refine mw_if (P := x5 < 0) (a := 52) (b := 60) (fun _ => rfl) trivial (fun c12 => ?_) (fun c12 => ?_)
            · -- 52
              exact mw_of (fun _ => mu_throw rfl rfl rfl rfl (by decide) rfl (by decide) (l2 x5 Q5 q5 c2 c12))
            · -- 60
              refine mw_go mu_g72 (k := 2) (f1 := (64, [(2, .inl x5), (0, .inr (.inr (some 0))), (1, .inl i)], [.inr (.inr (mu_r Q5 0 11))], Q5)) (C := [mu_is Q5 (some 0) 0]) rfl (show mu_is Q5 (some 0) 0 from hg5.is rfl) ?_
              rw [(hg5.r (p := 0) (j := 11) (q := 158) rfl)]
              refine mw_go mu_g72 (k := 1) (f1 := (65, [(2, .inl x5), (0, .inr (.inr (some 0))), (1, .inl i)], [.inl i, .inr (.inr (some 158))], Q5)) (C := []) rfl trivial ?_
              refine mw_cV (fun _ => rfl) (show mu_is Q5 (some 158) 8 from hg5.is rfl) (hc6 x5 Q5 q5 c2 c12) (fun Q6 q6 => ?_)
              have hg6 : gi Q6 := g6 x5 Q6 q6
              refine mw_go mu_g72 (k := 1) (f1 := (69, [(2, .inl x5), (0, .inr (.inr (some 0))), (1, .inl i)], [.inr (.inr (some 0))], Q6)) (C := []) rfl trivial ?_
              refine mw_cV (fun _ => rfl) (show mu_is Q6 (some 0) 0 from hg6.is rfl) (hc7 x5 Q6 q6 c2 c12) (fun Q7 q7 => ?_)
              have hg7 : gi Q7 := g7 x5 Q7 q7
              refine mw_go mu_g72 (k := 2) (f1 := (76, [(2, .inl x5), (0, .inr (.inr (some 0))), (1, .inl i)], [.inr (.inr (mu_r Q7 0 11))], Q7)) (C := [mu_is Q7 (some 0) 0]) rfl (show mu_is Q7 (some 0) 0 from hg7.is rfl) ?_
              rw [(hg7.r (p := 0) (j := 11) (q := 158) rfl)]
              refine mw_go mu_g72 (k := 1) (f1 := (77, [(2, .inl x5), (0, .inr (.inr (some 0))), (1, .inl i)], [.inl i, .inr (.inr (some 158))], Q7)) (C := []) rfl trivial ?_
              refine mw_cV (fun _ => rfl) (show mu_is Q7 (some 158) 8 from hg7.is rfl) (hc8 x5 Q7 q7 c2 c12) (fun Q8 q8 => ?_)
              have hg8 : gi Q8 := g8 x5 Q8 q8
              refine mw_go mu_g72 (k := 1) (f1 := (81, [(2, .inl x5), (0, .inr (.inr (some 0))), (1, .inl i)], [.inr (.inr (some 0))], Q8)) (C := []) rfl trivial ?_
              refine mw_cV (fun _ => rfl) (show mu_is Q8 (some 0) 0 from hg8.is rfl) (hc9 x5 Q8 q8 c2 c12) (fun Q9 q9 => ?_)
              have hg9 : gi Q9 := g9 x5 Q9 q9
              refine mw_go mu_g72 (k := 2) (f1 := (88, [(2, .inl x5), (0, .inr (.inr (some 0))), (1, .inl i)], [.inr (.inr (mu_r Q9 0 11))], Q9)) (C := [mu_is Q9 (some 0) 0]) rfl (show mu_is Q9 (some 0) 0 from hg9.is rfl) ?_
              rw [(hg9.r (p := 0) (j := 11) (q := 158) rfl)]
              refine mw_go mu_g72 (k := 2) (f1 := (90, [(2, .inl x5), (0, .inr (.inr (some 0))), (1, .inl i)], [.inl x5, .inl i, .inr (.inr (some 158))], Q9)) (C := []) rfl trivial ?_
              refine mw_cV (fun _ => rfl) (show mu_is Q9 (some 158) 8 from hg9.is rfl) (hc10 x5 Q9 q9 c2 c12) (fun Q10 q10 => ?_)
              have hg10 : gi Q10 := g10 x5 Q10 q10
              refine mw_go mu_g72 (k := 1) (f1 := (94, [(2, .inl x5), (0, .inr (.inr (some 0))), (1, .inl i)], [.inr (.inr (some 0))], Q10)) (C := []) rfl trivial ?_
              refine mw_cV (fun _ => rfl) (show mu_is Q10 (some 0) 0 from hg10.is rfl) (hc11 x5 Q10 q10 c2 c12) (fun Q11 q11 => ?_)
              have hg11 : gi Q11 := g11 x5 Q11 q11
              refine mw_go mu_g72 (k := 2) (f1 := (101, [(2, .inl x5), (0, .inr (.inr (some 0))), (1, .inl i)], [.inr (.inr (mu_r Q11 0 11))], Q11)) (C := [mu_is Q11 (some 0) 0]) rfl (show mu_is Q11 (some 0) 0 from hg11.is rfl) ?_
              rw [(hg11.r (p := 0) (j := 11) (q := 158) rfl)]
              refine mw_cI (fun _ => rfl) (show mu_is Q11 (some 158) 8 from hg11.is rfl) (hc12 x5 Q11 q11 c2 c12) (fun x12 Q12 q12 => ?_)
              have hg12 : gi Q12 := g12 x5 x12 Q12 q12
              refine mw_go mu_g72 (k := 2) (f1 := (106, [(3, .inl x12), (2, .inl x5), (0, .inr (.inr (some 0))), (1, .inl i)], [.inr (.inr (some 0))], Q12)) (C := []) rfl trivial ?_
              refine mw_cV (fun _ => rfl) (show mu_is Q12 (some 0) 0 from hg12.is rfl) (hc13 x5 x12 Q12 q12 c2 c12) (fun Q13 q13 => ?_)
              have hg13 : gi Q13 := g13 x5 x12 Q13 q13
              refine mw_go mu_g72 (k := 2) (f1 := (113, [(3, .inl x12), (2, .inl x5), (0, .inr (.inr (some 0))), (1, .inl i)], [.inl (2000 : Int32), .inl x12], Q13)) (C := []) rfl trivial ?_
              refine mw_if (P := (2000 : Int32) < x12) (a := 116) (b := 124) (fun _ => rfl) trivial (fun c21 => ?_) (fun c21 => ?_)
              · -- 116
                exact mw_of (fun _ => mu_throw rfl rfl rfl rfl (by decide) rfl (by decide) (l3 x5 x12 Q13 q13 c2 c12 c21))
              · -- 124
                refine mw_go mu_g72 (k := 1) (f1 := (125, [(3, .inl x12), (2, .inl x5), (0, .inr (.inr (some 0))), (1, .inl i)], [.inl x12], Q13)) (C := []) rfl trivial ?_
                exact mw_of (fun _ => mu_ret rfl trivial (l4 x5 x12 Q13 q13 c2 c12 c21))
          · -- it throws
            rw [if_neg c3] at q
            cases q
        · -- no
          rw [if_neg c5] at q
          cases q
  · -- it throws
    by_cases c22 : i < 0
    · -- yes
      rw [if_pos c22] at q
      cases q
      exact ⟨by decide, (l5 c22)⟩
    · -- no
      rw [if_neg c22] at q
      by_cases c23 : mu_i H 0 3 = 0
      · -- yes
        rw [if_pos c23] at q
        cases q
      · -- no
        rw [if_neg c23] at q
        by_cases c24 : i < (mu_i H (m + 35) 2)
        · -- yes
          rw [if_pos c24] at q
          cases q
        · -- no
          rw [if_neg c24] at q
          cases q
          exact ⟨by decide, (l6 c22 c23 c24)⟩
/-- PathProver.first(I)I -/
abbrev mu_m79 : ev_M := (2, (some .int), [], ev_b79)
theorem mu_g79 : mu_good mu_m79 := mu_goodk ev_k79
theorem pv_firstS {Ψ : mu_R → Prop} {A1 : mu_H → Prop} {A2 : mu_H → Prop} {A3 : Int32 → mu_H → Prop} (hg : gi H) (hm : m = 2 ∨ m = 41) (hm4 : mu_r H 0 4 = some m) (n : Int32) (hc1 : ¬ (n < 0) → ¬ (mu_i H 0 3 = 0) → mu_TV (mu_D (d + 21)) 383 [.inr (.inr (some 0))] H (A1)) (g1 : ∀ (K : mu_H), A1 K → gi K) (hc2 : ∀ (K : mu_H), A1 K → ¬ (n < 0) → mu_TV (mu_D (d + 21)) 376 [.inr (.inr (some 0))] K (A2)) (g2 : ∀ (K : mu_H), A2 K → gi K) (hc3 : ∀ (K : mu_H), A2 K → ¬ (n < 0) → mu_TI (mu_D (d + 21)) 363 [.inr (.inr (some 158)), .inl n] K (A3)) (g3 : ∀ (x3 : Int32) (K : mu_H), A3 x3 K → gi K) (ht8 : ∀ (x3 : Int32) (K : mu_H), A3 x3 K → ¬ (n < 0) → mu_MT (mu_D (d + 21)) 382 [.inr (.inr (some 0)), .inl x3] K (fun r => (∃ y K1, r = (.inl (some (.inl y)), K1) ∧ Ψ r) ∨ (∃ x K1, r = (.inr x, K1) ∧ x < 4 ∧ Ψ r))) (l1 : ¬ (n < 0) → (mu_i H 0 3 = 0) → Ψ (.inr 1, mu_ex H)) (l2 : (n < 0) → Ψ (.inr 0, mu_ex H)) : mu_MT (mu_D (d + 22)) 79 [.inr (.inr (some 0)), .inl n] H Ψ := by
  refine mu_meth (M := mu_m79) rfl rfl ?_
  refine mw_ht (mu_fn_of (show [0, 1].Nodup by decide)) ?_
  refine mw_go mu_g79 (k := 2) (f1 := (2, [(0, .inr (.inr (some 0))), (1, .inl n)], [.inl n, .inr (.inr (some 0))], H)) (C := []) rfl trivial ?_
  refine mw_callx (as := [.inl n]) (S1 := []) rfl rfl rfl rfl (by decide) (by decide) (show mu_is H (some 0) 0 from hg.is rfl) (pv_plain (d := d + 20) hg n) (fun vv H1 q => ?_) rfl (fun xx H1 q => ?_)
  · -- it returns
    by_cases c2 : n < 0
    · -- yes
      rw [if_pos c2] at q
      cases q
    · -- no
      rw [if_neg c2] at q
      cases q
      refine mw_go mu_g79 (k := 1) (f1 := (6, [(0, .inr (.inr (some 0))), (1, .inl n)], [.inr (.inr (some 0))], H)) (C := []) rfl trivial ?_
      refine mw_callx (as := []) (S1 := []) rfl rfl rfl rfl (by decide) (by decide) (show mu_is H (some 0) 0 from hg.is rfl) (pv_model (d := d + 20) hg) (fun vv H1 q => ?_) rfl (fun xx H1 q => ?_)
      · -- it returns
        by_cases c4 : mu_i H 0 3 = 0
        · -- yes
          rw [if_pos c4] at q
          cases q
        · -- no
          rw [if_neg c4] at q
          cases q
          refine mw_go mu_g79 (k := 1) (f1 := (10, [(0, .inr (.inr (some 0))), (1, .inl n)], [.inr (.inr (some 0))], H)) (C := []) rfl trivial ?_
          refine mw_cV (fun _ => rfl) (show mu_is H (some 0) 0 from hg.is rfl) (hc1 c2 c4) (fun Q1 q1 => ?_)
          have hg1 : gi Q1 := g1 Q1 q1
          refine mw_go mu_g79 (k := 1) (f1 := (14, [(0, .inr (.inr (some 0))), (1, .inl n)], [.inr (.inr (some 0))], Q1)) (C := []) rfl trivial ?_
          refine mw_cV (fun _ => rfl) (show mu_is Q1 (some 0) 0 from hg1.is rfl) (hc2 Q1 q1 c2) (fun Q2 q2 => ?_)
          have hg2 : gi Q2 := g2 Q2 q2
          refine mw_go mu_g79 (k := 3) (f1 := (22, [(0, .inr (.inr (some 0))), (1, .inl n)], [.inr (.inr (mu_r Q2 0 11)), .inr (.inr (some 0))], Q2)) (C := [mu_is Q2 (some 0) 0]) rfl (show mu_is Q2 (some 0) 0 from hg2.is rfl) ?_
          rw [(hg2.r (p := 0) (j := 11) (q := 158) rfl)]
          refine mw_go mu_g79 (k := 1) (f1 := (23, [(0, .inr (.inr (some 0))), (1, .inl n)], [.inl n, .inr (.inr (some 158)), .inr (.inr (some 0))], Q2)) (C := []) rfl trivial ?_
          refine mw_cI (fun _ => rfl) (show mu_is Q2 (some 158) 8 from hg2.is rfl) (hc3 Q2 q2 c2) (fun x3 Q3 q3 => ?_)
          have hg3 : gi Q3 := g3 x3 Q3 q3
          refine mw_callx (as := [.inl x3]) (S1 := []) rfl rfl rfl rfl (by decide) (by decide) (show mu_is Q3 (some 0) 0 from hg3.is rfl) (ht8 x3 Q3 q3 c2) (fun vv H1 q => ?_) rfl (fun xx H1 q => ?_)
          · rcases q with ⟨y, K1, e1, q⟩ | ⟨x, K1, e1, -, -⟩
            · cases e1
              exact mw_of (fun _ => mu_ret rfl trivial q)
            · cases e1
          · rcases q with ⟨y, K1, e1, -⟩ | ⟨x, K1, e1, hx, q⟩
            · cases e1
            · cases e1
              exact ⟨hx, q⟩
      · -- it throws
        by_cases c9 : mu_i H 0 3 = 0
        · -- yes
          rw [if_pos c9] at q
          cases q
          exact ⟨by decide, (l1 c2 c9)⟩
        · -- no
          rw [if_neg c9] at q
          cases q
  · -- it throws
    by_cases c10 : n < 0
    · -- yes
      rw [if_pos c10] at q
      cases q
      exact ⟨by decide, (l2 c10)⟩
    · -- no
      rw [if_neg c10] at q
      cases q
/-- PathProver.step(I)I -/
abbrev mu_m82 : ev_M := (2, (some .int), [], ev_b82)
theorem mu_g82 : mu_good mu_m82 := mu_goodk ev_k82
theorem pv_stepS {Ψ : mu_R → Prop} {A1 : mu_H → Prop} {A2 : mu_H → Prop} {A3 : Int32 → mu_H → Prop} (hg : gi H) (hm : m = 2 ∨ m = 41) (hm4 : mu_r H 0 4 = some m) (n : Int32) (hc1 : ¬ (n < 0) → ¬ (mu_i H 0 3 = 0) → ¬ (mu_i H 0 13 < 0) → mu_TV (mu_D (d + 21)) 313 [.inr (.inr (some 147)), .inl (mu_i H 0 13)] H (A1)) (g1 : ∀ (K : mu_H), A1 K → gi K) (hc2 : ∀ (K : mu_H), A1 K → ¬ (n < 0) → mu_TV (mu_D (d + 21)) 376 [.inr (.inr (some 0))] K (A2)) (g2 : ∀ (K : mu_H), A2 K → gi K) (hc3 : ∀ (K : mu_H), A2 K → ¬ (n < 0) → mu_TI (mu_D (d + 21)) 360 [.inr (.inr (some 158)), .inl n] K (A3)) (g3 : ∀ (x3 : Int32) (K : mu_H), A3 x3 K → gi K) (ht10 : ∀ (x3 : Int32) (K : mu_H), A3 x3 K → ¬ (n < 0) → mu_MT (mu_D (d + 21)) 382 [.inr (.inr (some 0)), .inl x3] K (fun r => (∃ y K1, r = (.inl (some (.inl y)), K1) ∧ Ψ r) ∨ (∃ x K1, r = (.inr x, K1) ∧ x < 4 ∧ Ψ r))) (l1 : ¬ (n < 0) → ¬ (mu_i H 0 3 = 0) → (mu_i H 0 13 < 0) → Ψ (.inr 2, mu_ex H)) (l2 : ¬ (n < 0) → (mu_i H 0 3 = 0) → Ψ (.inr 1, mu_ex H)) (l3 : (n < 0) → Ψ (.inr 0, mu_ex H)) : mu_MT (mu_D (d + 22)) 82 [.inr (.inr (some 0)), .inl n] H Ψ := by
  refine mu_meth (M := mu_m82) rfl rfl ?_
  refine mw_ht (mu_fn_of (show [0, 1].Nodup by decide)) ?_
  refine mw_go mu_g82 (k := 2) (f1 := (2, [(0, .inr (.inr (some 0))), (1, .inl n)], [.inl n, .inr (.inr (some 0))], H)) (C := []) rfl trivial ?_
  refine mw_callx (as := [.inl n]) (S1 := []) rfl rfl rfl rfl (by decide) (by decide) (show mu_is H (some 0) 0 from hg.is rfl) (pv_plain (d := d + 20) hg n) (fun vv H1 q => ?_) rfl (fun xx H1 q => ?_)
  · -- it returns
    by_cases c2 : n < 0
    · -- yes
      rw [if_pos c2] at q
      cases q
    · -- no
      rw [if_neg c2] at q
      cases q
      refine mw_go mu_g82 (k := 1) (f1 := (6, [(0, .inr (.inr (some 0))), (1, .inl n)], [.inr (.inr (some 0))], H)) (C := []) rfl trivial ?_
      refine mw_callx (as := []) (S1 := []) rfl rfl rfl rfl (by decide) (by decide) (show mu_is H (some 0) 0 from hg.is rfl) (pv_model (d := d + 20) hg) (fun vv H1 q => ?_) rfl (fun xx H1 q => ?_)
      · -- it returns
        by_cases c4 : mu_i H 0 3 = 0
        · -- yes
          rw [if_pos c4] at q
          cases q
        · -- no
          rw [if_neg c4] at q
          cases q
          refine mw_go mu_g82 (k := 1) (f1 := (10, [(0, .inr (.inr (some 0))), (1, .inl n)], [.inr (.inr (some 0))], H)) (C := []) rfl trivial ?_
          refine mw_callx (as := []) (S1 := []) rfl rfl rfl rfl (by decide) (by decide) (show mu_is H (some 0) 0 from hg.is rfl) (pv_current (d := d + 20) hg) (fun vv H1 q => ?_) rfl (fun xx H1 q => ?_)
          · -- it returns
            by_cases c6 : mu_i H 0 13 < 0
            · -- yes
              rw [if_pos c6] at q
              cases q
            · -- no
              rw [if_neg c6] at q
              cases q
              refine mw_go mu_g82 (k := 2) (f1 := (17, [(0, .inr (.inr (some 0))), (1, .inl n)], [.inr (.inr (mu_r H 0 10))], H)) (C := [mu_is H (some 0) 0]) rfl (show mu_is H (some 0) 0 from hg.is rfl) ?_
              rw [(hg.r (p := 0) (j := 10) (q := 147) rfl)]
              refine mw_go mu_g82 (k := 2) (f1 := (21, [(0, .inr (.inr (some 0))), (1, .inl n)], [.inl (mu_i H 0 13), .inr (.inr (some 147))], H)) (C := [mu_is H (some 0) 0]) rfl (show mu_is H (some 0) 0 from hg.is rfl) ?_
              refine mw_cV (fun _ => rfl) (show mu_is H (some 147) 2 from hg.is rfl) (hc1 c2 c4 c6) (fun Q1 q1 => ?_)
              have hg1 : gi Q1 := g1 Q1 q1
              refine mw_go mu_g82 (k := 1) (f1 := (25, [(0, .inr (.inr (some 0))), (1, .inl n)], [.inr (.inr (some 0))], Q1)) (C := []) rfl trivial ?_
              refine mw_cV (fun _ => rfl) (show mu_is Q1 (some 0) 0 from hg1.is rfl) (hc2 Q1 q1 c2) (fun Q2 q2 => ?_)
              have hg2 : gi Q2 := g2 Q2 q2
              refine mw_go mu_g82 (k := 3) (f1 := (33, [(0, .inr (.inr (some 0))), (1, .inl n)], [.inr (.inr (mu_r Q2 0 11)), .inr (.inr (some 0))], Q2)) (C := [mu_is Q2 (some 0) 0]) rfl (show mu_is Q2 (some 0) 0 from hg2.is rfl) ?_
              rw [(hg2.r (p := 0) (j := 11) (q := 158) rfl)]
              refine mw_go mu_g82 (k := 1) (f1 := (34, [(0, .inr (.inr (some 0))), (1, .inl n)], [.inl n, .inr (.inr (some 158)), .inr (.inr (some 0))], Q2)) (C := []) rfl trivial ?_
              refine mw_cI (fun _ => rfl) (show mu_is Q2 (some 158) 8 from hg2.is rfl) (hc3 Q2 q2 c2) (fun x3 Q3 q3 => ?_)
              have hg3 : gi Q3 := g3 x3 Q3 q3
              refine mw_callx (as := [.inl x3]) (S1 := []) rfl rfl rfl rfl (by decide) (by decide) (show mu_is Q3 (some 0) 0 from hg3.is rfl) (ht10 x3 Q3 q3 c2) (fun vv H1 q => ?_) rfl (fun xx H1 q => ?_)
              · rcases q with ⟨y, K1, e1, q⟩ | ⟨x, K1, e1, -, -⟩
                · cases e1
                  exact mw_of (fun _ => mu_ret rfl trivial q)
                · cases e1
              · rcases q with ⟨y, K1, e1, -⟩ | ⟨x, K1, e1, hx, q⟩
                · cases e1
                · cases e1
                  exact ⟨hx, q⟩
          · -- it throws
            by_cases c11 : mu_i H 0 13 < 0
            · -- yes
              rw [if_pos c11] at q
              cases q
              exact ⟨by decide, (l1 c2 c4 c11)⟩
            · -- no
              rw [if_neg c11] at q
              cases q
      · -- it throws
        by_cases c12 : mu_i H 0 3 = 0
        · -- yes
          rw [if_pos c12] at q
          cases q
          exact ⟨by decide, (l2 c2 c12)⟩
        · -- no
          rw [if_neg c12] at q
          cases q
  · -- it throws
    by_cases c13 : n < 0
    · -- yes
      rw [if_pos c13] at q
      cases q
      exact ⟨by decide, (l3 c13)⟩
    · -- no
      rw [if_neg c13] at q
      cases q
/-- PathProver.value(I)I -/
abbrev mu_m85 : ev_M := (2, (some .int), [], ev_b85)
theorem mu_g85 : mu_good mu_m85 := mu_goodk ev_k85
theorem pv_valueS {Ψ : mu_R → Prop} {A1 : Int32 → mu_H → Prop} (hg : gi H) (hm : m = 2 ∨ m = 41) (hm4 : mu_r H 0 4 = some m) (v : Int32) (hc1 : ¬ (v < 0) → ¬ (mu_i H 0 3 = 0) → (v < (mu_i H (m + 31) 2)) → ¬ (mu_i H 0 13 < 0) → mu_TI (mu_D (d + 21)) 359 [.inr (.inr (some 158)), .inl v, .inl (mu_i H 0 13)] H (A1)) (g1 : ∀ (x1 : Int32) (K : mu_H), A1 x1 K → gi K) (l1 : ¬ (v < 0) → (mu_i H 0 3 = 0) → Ψ (.inr 1, mu_ex H)) (l2 : ∀ (x1 : Int32) (K : mu_H), A1 x1 K → ¬ (v < 0) → Ψ (.inl (some (.inl x1)), K)) (l3 : ¬ (v < 0) → ¬ (mu_i H 0 3 = 0) → (v < (mu_i H (m + 31) 2)) → (mu_i H 0 13 < 0) → Ψ (.inr 2, mu_ex H)) (l4 : (v < 0) → Ψ (.inr 0, mu_ex H)) (l5 : ¬ (v < 0) → ¬ (mu_i H 0 3 = 0) → ¬ (v < (mu_i H (m + 31) 2)) → Ψ (.inr 0, mu_ex H)) : mu_MT (mu_D (d + 22)) 85 [.inr (.inr (some 0)), .inl v] H Ψ := by
  refine mu_meth (M := mu_m85) rfl rfl ?_
  refine mw_ht (mu_fn_of (show [0, 1].Nodup by decide)) ?_
  refine mw_go mu_g85 (k := 4) (f1 := (6, [(0, .inr (.inr (some 0))), (1, .inl v)], [.inr (.inr (mu_r H 0 4)), .inl v, .inr (.inr (some 0))], H)) (C := [mu_is H (some 0) 0]) rfl (show mu_is H (some 0) 0 from hg.is rfl) ?_
  rw [hm4]
  refine mw_go mu_g85 (k := 1) (f1 := (9, [(0, .inr (.inr (some 0))), (1, .inl v)], [.inr (.inr (mu_r H m 15)), .inl v, .inr (.inr (some 0))], H)) (C := [mu_is H (some m) 6]) rfl (show mu_is H (some m) 6 from (gi_im hg hm)) ?_
  rw [(show mu_r H m 15 = some (m + 31) from (gi_mr hg hm (j := 15) (by decide)).trans (congrArg some (by omega)))]
  refine mw_go mu_g85 (k := 1) (f1 := (12, [(0, .inr (.inr (some 0))), (1, .inl v)], [.inl (mu_i H (m + 31) 2), .inl v, .inr (.inr (some 0))], H)) (C := [mu_is H (some (m + 31)) 10]) rfl (show mu_is H (some (m + 31)) 10 from (hg.w (md_w15 hm)).1) ?_
  refine mw_callx (as := [.inl v, .inl (mu_i H (m + 31) 2)]) (S1 := []) rfl rfl rfl rfl (by decide) (by decide) (show mu_is H (some 0) 0 from hg.is rfl) (pv_number (d := d + 20) hg v (mu_i H (m + 31) 2)) (fun vv H1 q => ?_) rfl (fun xx H1 q => ?_)
  · -- it returns
    by_cases c2 : v < 0
    · -- yes
      rw [if_pos c2] at q
      cases q
    · -- no
      rw [if_neg c2] at q
      by_cases c3 : mu_i H 0 3 = 0
      · -- yes
        rw [if_pos c3] at q
        cases q
        refine mw_go mu_g85 (k := 1) (f1 := (16, [(0, .inr (.inr (some 0))), (1, .inl v)], [.inr (.inr (some 0))], H)) (C := []) rfl trivial ?_
        refine mw_callx (as := []) (S1 := []) rfl rfl rfl rfl (by decide) (by decide) (show mu_is H (some 0) 0 from hg.is rfl) (pv_model (d := d + 20) hg) (fun vv H1 q => ?_) rfl (fun xx H1 q => ?_)
        · -- it returns
          rw [if_pos c3] at q
          cases q
        · -- it throws
          rw [if_pos c3] at q
          cases q
          exact ⟨by decide, (l1 c2 c3)⟩
      · -- no
        rw [if_neg c3] at q
        by_cases c5 : v < (mu_i H (m + 31) 2)
        · -- yes
          rw [if_pos c5] at q
          cases q
          refine mw_go mu_g85 (k := 1) (f1 := (16, [(0, .inr (.inr (some 0))), (1, .inl v)], [.inr (.inr (some 0))], H)) (C := []) rfl trivial ?_
          refine mw_callx (as := []) (S1 := []) rfl rfl rfl rfl (by decide) (by decide) (show mu_is H (some 0) 0 from hg.is rfl) (pv_model (d := d + 20) hg) (fun vv H1 q => ?_) rfl (fun xx H1 q => ?_)
          · -- it returns
            rw [if_neg c3] at q
            cases q
            refine mw_go mu_g85 (k := 1) (f1 := (20, [(0, .inr (.inr (some 0))), (1, .inl v)], [.inr (.inr (some 0))], H)) (C := []) rfl trivial ?_
            refine mw_callx (as := []) (S1 := []) rfl rfl rfl rfl (by decide) (by decide) (show mu_is H (some 0) 0 from hg.is rfl) (pv_current (d := d + 20) hg) (fun vv H1 q => ?_) rfl (fun xx H1 q => ?_)
            · -- it returns
              by_cases c8 : mu_i H 0 13 < 0
              · -- yes
                rw [if_pos c8] at q
                cases q
              · -- no
                rw [if_neg c8] at q
                cases q
                refine mw_go mu_g85 (k := 2) (f1 := (27, [(0, .inr (.inr (some 0))), (1, .inl v)], [.inr (.inr (mu_r H 0 11))], H)) (C := [mu_is H (some 0) 0]) rfl (show mu_is H (some 0) 0 from hg.is rfl) ?_
                rw [(hg.r (p := 0) (j := 11) (q := 158) rfl)]
                refine mw_go mu_g85 (k := 3) (f1 := (32, [(0, .inr (.inr (some 0))), (1, .inl v)], [.inl (mu_i H 0 13), .inl v, .inr (.inr (some 158))], H)) (C := [mu_is H (some 0) 0]) rfl (show mu_is H (some 0) 0 from hg.is rfl) ?_
                refine mw_cI (fun _ => rfl) (show mu_is H (some 158) 8 from hg.is rfl) (hc1 c2 c3 c5 c8) (fun x1 Q1 q1 => ?_)
                have hg1 : gi Q1 := g1 x1 Q1 q1
                exact mw_of (fun _ => mu_ret rfl trivial (l2 x1 Q1 q1 c2))
            · -- it throws
              by_cases c10 : mu_i H 0 13 < 0
              · -- yes
                rw [if_pos c10] at q
                cases q
                exact ⟨by decide, (l3 c2 c3 c5 c10)⟩
              · -- no
                rw [if_neg c10] at q
                cases q
          · -- it throws
            rw [if_neg c3] at q
            cases q
        · -- no
          rw [if_neg c5] at q
          cases q
  · -- it throws
    by_cases c11 : v < 0
    · -- yes
      rw [if_pos c11] at q
      cases q
      exact ⟨by decide, (l4 c11)⟩
    · -- no
      rw [if_neg c11] at q
      by_cases c12 : mu_i H 0 3 = 0
      · -- yes
        rw [if_pos c12] at q
        cases q
      · -- no
        rw [if_neg c12] at q
        by_cases c13 : v < (mu_i H (m + 31) 2)
        · -- yes
          rw [if_pos c13] at q
          cases q
        · -- no
          rw [if_neg c13] at q
          cases q
          exact ⟨by decide, (l5 c11 c12 c13)⟩
/-- PathProver.enter(I)I -/
abbrev mu_m382 : ev_M := (2, (some .int), [], ev_b382)
theorem mu_g382 : mu_good mu_m382 := mu_goodk ev_k382
theorem pv_enterS {Ψ : mu_R → Prop} {A1 : Int32 → mu_H → Prop} (hg : gi H) (hm : m = 2 ∨ m = 41) (hm4 : mu_r H 0 4 = some m) (x : Int32) (gp14 : ¬ (x < 0) → gi (mu_si H 0 13 x)) (hc1 : ¬ (x < 0) → mu_TI (mu_D (d + 20)) 361 [.inr (.inr (some 158)), .inl x] (mu_si H 0 13 x) (A1)) (g1 : ∀ (x1 : Int32) (K : mu_H), A1 x1 K → gi K) (l1 : (x < 0) → Ψ (.inr 3, mu_ex H)) (l2 : ∀ (x1 : Int32) (K : mu_H), A1 x1 K → ¬ (x < 0) → Ψ (.inl (some (.inl x1)), K)) : mu_MT (mu_D (d + 21)) 382 [.inr (.inr (some 0)), .inl x] H Ψ := by
  refine mu_meth (M := mu_m382) rfl rfl ?_
  refine mw_ht (mu_fn_of (show [0, 1].Nodup by decide)) ?_
  refine mw_go mu_g382 (k := 1) (f1 := (1, [(0, .inr (.inr (some 0))), (1, .inl x)], [.inl x], H)) (C := []) rfl trivial ?_
  refine mw_if (P := x < 0) (a := 4) (b := 12) (fun _ => rfl) trivial (fun c1 => ?_) (fun c1 => ?_)
  · -- 4
    exact mw_of (fun _ => mu_throw rfl rfl rfl rfl (by decide) rfl (by decide) (l1 c1))
  · -- 12
    refine mw_go mu_g382 (k := 2) (f1 := (14, [(0, .inr (.inr (some 0))), (1, .inl x)], [.inl x, .inr (.inr (some 0))], H)) (C := []) rfl trivial ?_
    refine mw_go mu_g382 (k := 1) (f1 := (17, [(0, .inr (.inr (some 0))), (1, .inl x)], [], (mu_si H 0 13 x))) (C := [mu_is H (some 0) 0]) rfl (show mu_is H (some 0) 0 from hg.is rfl) ?_
    have hgp14 : gi (mu_si H 0 13 x) := gp14 c1
    refine mw_go mu_g382 (k := 2) (f1 := (21, [(0, .inr (.inr (some 0))), (1, .inl x)], [.inr (.inr (mu_r (mu_si H 0 13 x) 0 11))], (mu_si H 0 13 x))) (C := [mu_is (mu_si H 0 13 x) (some 0) 0]) rfl (show mu_is (mu_si H 0 13 x) (some 0) 0 from hgp14.is rfl) ?_
    rw [(hgp14.r (p := 0) (j := 11) (q := 158) rfl)]
    refine mw_go mu_g382 (k := 1) (f1 := (22, [(0, .inr (.inr (some 0))), (1, .inl x)], [.inl x, .inr (.inr (some 158))], (mu_si H 0 13 x))) (C := []) rfl trivial ?_
    refine mw_cI (fun _ => rfl) (show mu_is (mu_si H 0 13 x) (some 158) 8 from hgp14.is rfl) (hc1 c1) (fun x1 Q1 q1 => ?_)
    have hg1 : gi Q1 := g1 x1 Q1 q1
    exact mw_of (fun _ => mu_ret rfl trivial (l2 x1 Q1 q1 c1))
/-- PathProver.pick(I)I -/
abbrev mu_m75 : ev_M := (2, (some .int), [], ev_b75)
theorem mu_g75 : mu_good mu_m75 := mu_goodk ev_k75
theorem pv_pickS {Ψ : mu_R → Prop} (hg : gi H) (hm : m = 2 ∨ m = 41) (hm4 : mu_r H 0 4 = some m) (n : Int32) (hv29 : ¬ (n < 0) → ¬ (mu_i H 0 3 = 0) → (n < (mu_i H 158 11)) → vp_in n (mu_n H 166)) (ht6 : ¬ (n < 0) → ¬ (mu_i H 0 3 = 0) → (n < (mu_i H 158 11)) → mu_MT (mu_D (d + 21)) 382 [.inr (.inr (some 0)), .inl (mu_i H 166 n.toNatClampNeg)] H (fun r => (∃ y K1, r = (.inl (some (.inl y)), K1) ∧ Ψ r) ∨ (∃ x K1, r = (.inr x, K1) ∧ x < 4 ∧ Ψ r))) (ht7 : ¬ (n < 0) → ¬ (mu_i H 0 3 = 0) → ¬ (n < (mu_i H 158 11)) → mu_MT (mu_D (d + 21)) 382 [.inr (.inr (some 0)), .inl (-1 : Int32)] H (fun r => (∃ y K1, r = (.inl (some (.inl y)), K1) ∧ Ψ r) ∨ (∃ x K1, r = (.inr x, K1) ∧ x < 4 ∧ Ψ r))) (l1 : ¬ (n < 0) → (mu_i H 0 3 = 0) → Ψ (.inr 1, mu_ex H)) (l2 : (n < 0) → Ψ (.inr 0, mu_ex H)) : mu_MT (mu_D (d + 22)) 75 [.inr (.inr (some 0)), .inl n] H Ψ := by
  refine mu_meth (M := mu_m75) rfl rfl ?_
  refine mw_ht (mu_fn_of (show [0, 1].Nodup by decide)) ?_
  refine mw_go mu_g75 (k := 2) (f1 := (2, [(0, .inr (.inr (some 0))), (1, .inl n)], [.inl n, .inr (.inr (some 0))], H)) (C := []) rfl trivial ?_
  refine mw_callx (as := [.inl n]) (S1 := []) rfl rfl rfl rfl (by decide) (by decide) (show mu_is H (some 0) 0 from hg.is rfl) (pv_plain (d := d + 20) hg n) (fun vv H1 q => ?_) rfl (fun xx H1 q => ?_)
  · -- it returns
    by_cases c2 : n < 0
    · -- yes
      rw [if_pos c2] at q
      cases q
    · -- no
      rw [if_neg c2] at q
      cases q
      refine mw_go mu_g75 (k := 1) (f1 := (6, [(0, .inr (.inr (some 0))), (1, .inl n)], [.inr (.inr (some 0))], H)) (C := []) rfl trivial ?_
      refine mw_callx (as := []) (S1 := []) rfl rfl rfl rfl (by decide) (by decide) (show mu_is H (some 0) 0 from hg.is rfl) (pv_model (d := d + 20) hg) (fun vv H1 q => ?_) rfl (fun xx H1 q => ?_)
      · -- it returns
        by_cases c4 : mu_i H 0 3 = 0
        · -- yes
          rw [if_pos c4] at q
          cases q
        · -- no
          rw [if_neg c4] at q
          cases q
          refine mw_go mu_g75 (k := 4) (f1 := (15, [(0, .inr (.inr (some 0))), (1, .inl n)], [.inr (.inr (mu_r H 0 11)), .inl n, .inr (.inr (some 0))], H)) (C := [mu_is H (some 0) 0]) rfl (show mu_is H (some 0) 0 from hg.is rfl) ?_
          rw [(hg.r (p := 0) (j := 11) (q := 158) rfl)]
          refine mw_go mu_g75 (k := 1) (f1 := (18, [(0, .inr (.inr (some 0))), (1, .inl n)], [.inl (mu_i H 158 11), .inl n, .inr (.inr (some 0))], H)) (C := [mu_is H (some 158) 8]) rfl (show mu_is H (some 158) 8 from hg.is rfl) ?_
          refine mw_if (P := n < (mu_i H 158 11)) (a := 21) (b := 33) (fun _ => rfl) trivial (fun c5 => ?_) (fun c5 => ?_)
          · -- 21
            refine mw_go mu_g75 (k := 2) (f1 := (25, [(0, .inr (.inr (some 0))), (1, .inl n)], [.inr (.inr (mu_r H 0 11)), .inr (.inr (some 0))], H)) (C := [mu_is H (some 0) 0]) rfl (show mu_is H (some 0) 0 from hg.is rfl) ?_
            rw [(hg.r (p := 0) (j := 11) (q := 158) rfl)]
            refine mw_go mu_g75 (k := 1) (f1 := (28, [(0, .inr (.inr (some 0))), (1, .inl n)], [.inr (.inr (mu_r H 158 9)), .inr (.inr (some 0))], H)) (C := [mu_is H (some 158) 8]) rfl (show mu_is H (some 158) 8 from hg.is rfl) ?_
            rw [(hg.r (p := 158) (j := 9) (q := 166) rfl)]
            refine mw_go mu_g75 (k := 1) (f1 := (29, [(0, .inr (.inr (some 0))), (1, .inl n)], [.inl n, .inr (.inr (some 166)), .inr (.inr (some 0))], H)) (C := []) rfl trivial ?_
            refine mw_go mu_g75 (k := 1) (f1 := (30, [(0, .inr (.inr (some 0))), (1, .inl n)], [.inl (mu_i H 166 n.toNatClampNeg), .inr (.inr (some 0))], H)) (C := [mu_isr H (some 166) 100, vp_in n (mu_n H 166)]) rfl (show (mu_isr H (some 166) 100) ∧ (vp_in n (mu_n H 166)) from ⟨((hg.a (p := 166) (x := (100, 2000)) rfl).1).r, hv29 c2 c4 c5⟩) ?_
            refine mw_go mu_g75 (k := 1) (f1 := (34, [(0, .inr (.inr (some 0))), (1, .inl n)], [.inl (mu_i H 166 n.toNatClampNeg), .inr (.inr (some 0))], H)) (C := []) rfl trivial ?_
            refine mw_callx (as := [.inl (mu_i H 166 n.toNatClampNeg)]) (S1 := []) rfl rfl rfl rfl (by decide) (by decide) (show mu_is H (some 0) 0 from hg.is rfl) (ht6 c2 c4 c5) (fun vv H1 q => ?_) rfl (fun xx H1 q => ?_)
            · rcases q with ⟨y, K1, e1, q⟩ | ⟨x, K1, e1, -, -⟩
              · cases e1
                exact mw_of (fun _ => mu_ret rfl trivial q)
              · cases e1
            · rcases q with ⟨y, K1, e1, -⟩ | ⟨x, K1, e1, hx, q⟩
              · cases e1
              · cases e1
                exact ⟨hx, q⟩
          · -- 33
            refine mw_go mu_g75 (k := 1) (f1 := (34, [(0, .inr (.inr (some 0))), (1, .inl n)], [.inl (-1 : Int32), .inr (.inr (some 0))], H)) (C := []) rfl trivial ?_
            refine mw_callx (as := [.inl (-1 : Int32)]) (S1 := []) rfl rfl rfl rfl (by decide) (by decide) (show mu_is H (some 0) 0 from hg.is rfl) (ht7 c2 c4 c5) (fun vv H1 q => ?_) rfl (fun xx H1 q => ?_)
            · rcases q with ⟨y, K1, e1, q⟩ | ⟨x, K1, e1, -, -⟩
              · cases e1
                exact mw_of (fun _ => mu_ret rfl trivial q)
              · cases e1
            · rcases q with ⟨y, K1, e1, -⟩ | ⟨x, K1, e1, hx, q⟩
              · cases e1
              · cases e1
                exact ⟨hx, q⟩
      · -- it throws
        by_cases c8 : mu_i H 0 3 = 0
        · -- yes
          rw [if_pos c8] at q
          cases q
          exact ⟨by decide, (l1 c2 c8)⟩
        · -- no
          rw [if_neg c8] at q
          cases q
  · -- it throws
    by_cases c9 : n < 0
    · -- yes
      rw [if_pos c9] at q
      cases q
      exact ⟨by decide, (l2 c9)⟩
    · -- no
      rw [if_neg c9] at q
      cases q
/-- PathProver.count(I)I -/
abbrev mu_m69 : ev_M := (2, (some .int), [], ev_b69)
theorem mu_g69 : mu_good mu_m69 := mu_goodk ev_k69
theorem pv_countS {Ψ : mu_R → Prop} {A1 : Int32 → mu_H → Prop} (hg : gi H) (hm : m = 2 ∨ m = 41) (hm4 : mu_r H 0 4 = some m) (w : Int32) (hc1 : ¬ (w < 0) → ¬ ((7 : Int32) < w) → ¬ (mu_i H 0 3 = 0) → (w = (1 : Int32)) → mu_TI (mu_D (d + 21)) 131 [.inr (.inr (some m))] H (A1)) (g1 : ∀ (x1 : Int32) (K : mu_H), A1 x1 K → gi K) (l1 : (w < 0) → Ψ (.inr 0, mu_ex H)) (l2 : ¬ (w < 0) → ((7 : Int32) < w) → Ψ (.inr 0, mu_ex H)) (l3 : ¬ (w < 0) → ¬ ((7 : Int32) < w) → ¬ (mu_i H 0 3 = 0) → (w.toInt < 0 ∨ 6 < w.toInt) → ((mu_i H 0 13) < 0) → Ψ (.inl (some (.inl (0 : Int32))), H)) (l4 : ¬ (w < 0) → ¬ ((7 : Int32) < w) → ¬ (mu_i H 0 3 = 0) → (w.toInt < 0 ∨ 6 < w.toInt) → ¬ ((mu_i H 0 13) < 0) → Ψ (.inl (some (.inl (1 : Int32))), H)) (l5 : ¬ (w < 0) → ¬ ((7 : Int32) < w) → ¬ (mu_i H 0 3 = 0) → (w = (0 : Int32)) → Ψ (.inl (some (.inl (mu_i H (m + 31) 2))), H)) (l6 : ∀ (x1 : Int32) (K : mu_H), A1 x1 K → ¬ (w < 0) → ¬ ((7 : Int32) < w) → (w = (1 : Int32)) → Ψ (.inl (some (.inl x1)), K)) (l7 : ¬ (w < 0) → ¬ ((7 : Int32) < w) → ¬ (mu_i H 0 3 = 0) → (w = (2 : Int32)) → Ψ (.inl (some (.inl (mu_i H (m + 23) 2))), H)) (l8 : ¬ (w < 0) → ¬ ((7 : Int32) < w) → ¬ (mu_i H 0 3 = 0) → (w = (3 : Int32)) → Ψ (.inl (some (.inl (mu_i H (m + 35) 2))), H)) (l9 : ¬ (w < 0) → ¬ ((7 : Int32) < w) → ¬ (mu_i H 0 3 = 0) → (w = (4 : Int32)) → Ψ (.inl (some (.inl (mu_i H (m + 33) 2))), H)) (l10 : ¬ (w < 0) → ¬ ((7 : Int32) < w) → ¬ (mu_i H 0 3 = 0) → (w = (5 : Int32)) → Ψ (.inl (some (.inl (mu_i H 158 11))), H)) (l11 : ¬ (w < 0) → ¬ ((7 : Int32) < w) → ¬ (mu_i H 0 3 = 0) → (w = (6 : Int32)) → Ψ (.inl (some (.inl (mu_i H 158 12))), H)) (l12 : ¬ (w < 0) → ¬ ((7 : Int32) < w) → (mu_i H 0 3 = 0) → Ψ (.inr 1, mu_ex H)) : mu_MT (mu_D (d + 22)) 69 [.inr (.inr (some 0)), .inl w] H Ψ := by
  refine mu_meth (M := mu_m69) rfl rfl ?_
  refine mw_ht (mu_fn_of (show [0, 1].Nodup by decide)) ?_
  refine mw_go mu_g69 (k := 1) (f1 := (1, [(0, .inr (.inr (some 0))), (1, .inl w)], [.inl w], H)) (C := []) rfl trivial ?_
  refine mw_if (P := w < 0) (a := 10) (b := 4) (fun _ => rfl) trivial (fun c1 => ?_) (fun c1 => ?_)
  · -- 10
    exact mw_of (fun _ => mu_throw rfl rfl rfl rfl (by decide) rfl (by decide) (l1 c1))
  · -- 4
    refine mw_go mu_g69 (k := 2) (f1 := (7, [(0, .inr (.inr (some 0))), (1, .inl w)], [.inl (7 : Int32), .inl w], H)) (C := []) rfl trivial ?_
    refine mw_if (P := (7 : Int32) < w) (a := 10) (b := 18) (fun _ => rfl) trivial (fun c2 => ?_) (fun c2 => ?_)
    · -- 10
      exact mw_of (fun _ => mu_throw rfl rfl rfl rfl (by decide) rfl (by decide) (l2 c1 c2))
    · -- 18
      refine mw_go mu_g69 (k := 1) (f1 := (19, [(0, .inr (.inr (some 0))), (1, .inl w)], [.inr (.inr (some 0))], H)) (C := []) rfl trivial ?_
      refine mw_callx (as := []) (S1 := []) rfl rfl rfl rfl (by decide) (by decide) (show mu_is H (some 0) 0 from hg.is rfl) (pv_model (d := d + 20) hg) (fun vv H1 q => ?_) rfl (fun xx H1 q => ?_)
      · -- it returns
        by_cases c4 : mu_i H 0 3 = 0
        · -- yes
          rw [if_pos c4] at q
          cases q
        · -- no
          rw [if_neg c4] at q
          cases q
          refine mw_go mu_g69 (k := 1) (f1 := (23, [(0, .inr (.inr (some 0))), (1, .inl w)], [.inl w], H)) (C := []) rfl trivial ?_
          refine mw_tsw2 rfl (by decide) (fun hx => ?_) ⟨fun z => ?_, fun z => ?_, fun z => ?_, fun z => ?_, fun z => ?_, fun z => ?_, fun z => ?_, trivial⟩
          · -- None
            refine mw_go mu_g69 (k := 2) (f1 := (136, [(0, .inr (.inr (some 0))), (1, .inl w)], [.inl (mu_i H 0 13)], H)) (C := [mu_is H (some 0) 0]) rfl (show mu_is H (some 0) 0 from hg.is rfl) ?_
            refine mw_if (P := (mu_i H 0 13) < 0) (a := 143) (b := 139) (fun _ => rfl) trivial (fun c6 => ?_) (fun c6 => ?_)
            · -- 143
              refine mw_go mu_g69 (k := 1) (f1 := (144, [(0, .inr (.inr (some 0))), (1, .inl w)], [.inl (0 : Int32)], H)) (C := []) rfl trivial ?_
              exact mw_of (fun _ => mu_ret rfl trivial (l3 c1 c2 c4 hx c6))
            · -- 139
              refine mw_go mu_g69 (k := 2) (f1 := (144, [(0, .inr (.inr (some 0))), (1, .inl w)], [.inl (1 : Int32)], H)) (C := []) rfl trivial ?_
              exact mw_of (fun _ => mu_ret rfl trivial (l4 c1 c2 c4 hx c6))
          · -- 0
            have c7 : w = (0 : Int32) := Int32.toInt_inj.mp (z.trans (by decide))
            refine mw_go mu_g69 (k := 2) (f1 := (68, [(0, .inr (.inr (some 0))), (1, .inl w)], [.inr (.inr (mu_r H 0 4))], H)) (C := [mu_is H (some 0) 0]) rfl (show mu_is H (some 0) 0 from hg.is rfl) ?_
            rw [hm4]
            refine mw_go mu_g69 (k := 1) (f1 := (71, [(0, .inr (.inr (some 0))), (1, .inl w)], [.inr (.inr (mu_r H m 15))], H)) (C := [mu_is H (some m) 6]) rfl (show mu_is H (some m) 6 from (gi_im hg hm)) ?_
            rw [(show mu_r H m 15 = some (m + 31) from (gi_mr hg hm (j := 15) (by decide)).trans (congrArg some (by omega)))]
            refine mw_go mu_g69 (k := 1) (f1 := (74, [(0, .inr (.inr (some 0))), (1, .inl w)], [.inl (mu_i H (m + 31) 2)], H)) (C := [mu_is H (some (m + 31)) 10]) rfl (show mu_is H (some (m + 31)) 10 from (hg.w (md_w15 hm)).1) ?_
            exact mw_of (fun _ => mu_ret rfl trivial (l5 c1 c2 c4 c7))
          · -- 1
            have c8 : w = (1 : Int32) := Int32.toInt_inj.mp (z.trans (by decide))
            refine mw_go mu_g69 (k := 2) (f1 := (79, [(0, .inr (.inr (some 0))), (1, .inl w)], [.inr (.inr (mu_r H 0 4))], H)) (C := [mu_is H (some 0) 0]) rfl (show mu_is H (some 0) 0 from hg.is rfl) ?_
            rw [hm4]
            refine mw_cI (fun _ => rfl) (show mu_is H (some m) 6 from (gi_im hg hm)) (hc1 c1 c2 c4 c8) (fun x1 Q1 q1 => ?_)
            have hg1 : gi Q1 := g1 x1 Q1 q1
            exact mw_of (fun _ => mu_ret rfl trivial (l6 x1 Q1 q1 c1 c2 c8))
          · -- 2
            have c10 : w = (2 : Int32) := Int32.toInt_inj.mp (z.trans (by decide))
            refine mw_go mu_g69 (k := 2) (f1 := (87, [(0, .inr (.inr (some 0))), (1, .inl w)], [.inr (.inr (mu_r H 0 4))], H)) (C := [mu_is H (some 0) 0]) rfl (show mu_is H (some 0) 0 from hg.is rfl) ?_
            rw [hm4]
            refine mw_go mu_g69 (k := 1) (f1 := (90, [(0, .inr (.inr (some 0))), (1, .inl w)], [.inr (.inr (mu_r H m 11))], H)) (C := [mu_is H (some m) 6]) rfl (show mu_is H (some m) 6 from (gi_im hg hm)) ?_
            rw [(show mu_r H m 11 = some (m + 23) from (gi_mr hg hm (j := 11) (by decide)).trans (congrArg some (by omega)))]
            refine mw_go mu_g69 (k := 1) (f1 := (93, [(0, .inr (.inr (some 0))), (1, .inl w)], [.inl (mu_i H (m + 23) 2)], H)) (C := [mu_is H (some (m + 23)) 10]) rfl (show mu_is H (some (m + 23)) 10 from (hg.w (md_w11 hm)).1) ?_
            exact mw_of (fun _ => mu_ret rfl trivial (l7 c1 c2 c4 c10))
          · -- 3
            have c11 : w = (3 : Int32) := Int32.toInt_inj.mp (z.trans (by decide))
            refine mw_go mu_g69 (k := 2) (f1 := (98, [(0, .inr (.inr (some 0))), (1, .inl w)], [.inr (.inr (mu_r H 0 4))], H)) (C := [mu_is H (some 0) 0]) rfl (show mu_is H (some 0) 0 from hg.is rfl) ?_
            rw [hm4]
            refine mw_go mu_g69 (k := 1) (f1 := (101, [(0, .inr (.inr (some 0))), (1, .inl w)], [.inr (.inr (mu_r H m 17))], H)) (C := [mu_is H (some m) 6]) rfl (show mu_is H (some m) 6 from (gi_im hg hm)) ?_
            rw [(show mu_r H m 17 = some (m + 35) from (gi_mr hg hm (j := 17) (by decide)).trans (congrArg some (by omega)))]
            refine mw_go mu_g69 (k := 1) (f1 := (104, [(0, .inr (.inr (some 0))), (1, .inl w)], [.inl (mu_i H (m + 35) 2)], H)) (C := [mu_is H (some (m + 35)) 10]) rfl (show mu_is H (some (m + 35)) 10 from (hg.w (md_w17 hm)).1) ?_
            exact mw_of (fun _ => mu_ret rfl trivial (l8 c1 c2 c4 c11))
          · -- 4
            have c12 : w = (4 : Int32) := Int32.toInt_inj.mp (z.trans (by decide))
            refine mw_go mu_g69 (k := 2) (f1 := (109, [(0, .inr (.inr (some 0))), (1, .inl w)], [.inr (.inr (mu_r H 0 4))], H)) (C := [mu_is H (some 0) 0]) rfl (show mu_is H (some 0) 0 from hg.is rfl) ?_
            rw [hm4]
            refine mw_go mu_g69 (k := 1) (f1 := (112, [(0, .inr (.inr (some 0))), (1, .inl w)], [.inr (.inr (mu_r H m 16))], H)) (C := [mu_is H (some m) 6]) rfl (show mu_is H (some m) 6 from (gi_im hg hm)) ?_
            rw [(show mu_r H m 16 = some (m + 33) from (gi_mr hg hm (j := 16) (by decide)).trans (congrArg some (by omega)))]
            refine mw_go mu_g69 (k := 1) (f1 := (115, [(0, .inr (.inr (some 0))), (1, .inl w)], [.inl (mu_i H (m + 33) 2)], H)) (C := [mu_is H (some (m + 33)) 10]) rfl (show mu_is H (some (m + 33)) 10 from (hg.w (md_w16 hm)).1) ?_
            exact mw_of (fun _ => mu_ret rfl trivial (l9 c1 c2 c4 c12))
          · -- 5
            have c13 : w = (5 : Int32) := Int32.toInt_inj.mp (z.trans (by decide))
            refine mw_go mu_g69 (k := 2) (f1 := (120, [(0, .inr (.inr (some 0))), (1, .inl w)], [.inr (.inr (mu_r H 0 11))], H)) (C := [mu_is H (some 0) 0]) rfl (show mu_is H (some 0) 0 from hg.is rfl) ?_
            rw [(hg.r (p := 0) (j := 11) (q := 158) rfl)]
            refine mw_go mu_g69 (k := 1) (f1 := (123, [(0, .inr (.inr (some 0))), (1, .inl w)], [.inl (mu_i H 158 11)], H)) (C := [mu_is H (some 158) 8]) rfl (show mu_is H (some 158) 8 from hg.is rfl) ?_
            exact mw_of (fun _ => mu_ret rfl trivial (l10 c1 c2 c4 c13))
          · -- 6
            have c14 : w = (6 : Int32) := Int32.toInt_inj.mp (z.trans (by decide))
            refine mw_go mu_g69 (k := 2) (f1 := (128, [(0, .inr (.inr (some 0))), (1, .inl w)], [.inr (.inr (mu_r H 0 11))], H)) (C := [mu_is H (some 0) 0]) rfl (show mu_is H (some 0) 0 from hg.is rfl) ?_
            rw [(hg.r (p := 0) (j := 11) (q := 158) rfl)]
            refine mw_go mu_g69 (k := 1) (f1 := (131, [(0, .inr (.inr (some 0))), (1, .inl w)], [.inl (mu_i H 158 12)], H)) (C := [mu_is H (some 158) 8]) rfl (show mu_is H (some 158) 8 from hg.is rfl) ?_
            exact mw_of (fun _ => mu_ret rfl trivial (l11 c1 c2 c4 c14))
      · -- it throws
        by_cases c15 : mu_i H 0 3 = 0
        · -- yes
          rw [if_pos c15] at q
          cases q
          exact ⟨by decide, (l12 c1 c2 c15)⟩
        · -- no
          rw [if_neg c15] at q
          cases q
theorem pv_readyR {Ψ : mu_R → Prop} (hg : gi H) (hrd : ¬ (mu_i H 0 12) = 0)  (l1 : ¬ ((mu_i H 0 12) = 0) → Ψ (.inl none, H)) : mu_MT (mu_D (d + 21)) 383 [.inr (.inr (some 0))] H Ψ := by
  refine mu_meth (M := mu_m383) rfl rfl ?_
  refine mw_ht (mu_fn_of (show [0].Nodup by decide)) ?_
  refine mw_go mu_g383 (k := 2) (f1 := (4, [(0, .inr (.inr (some 0)))], [.inl (mu_i H 0 12)], H)) (C := [mu_is H (some 0) 0]) rfl (show mu_is H (some 0) 0 from hg.is rfl) ?_
  refine mw_if (P := (mu_i H 0 12) = 0) (a := 8) (b := 7) (fun _ => rfl) trivial (fun z => absurd z hrd) (fun _ => ?_)
  exact mw_of (fun _ => mu_ret rfl trivial (l1 hrd))
end Calls
