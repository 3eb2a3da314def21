/-! The reference: formula, where no paths are spoken of -/
/-- PathProverModel.formula(LPathProverModel$Node;LPathProverModel$Instance;LPathProverModel$Bits;)V -/
abbrev mu_m408 : ev_M := (6, none, [], ev_b408)
theorem mu_g408 : mu_good mu_m408 := mu_goodk ev_k408
theorem rp_fm0 {tr : Prop} {Hb H0 : mu_H} {D : MD} {ph pt pk pa mm st f F j q dd : Nat} {c : Tre} (hb : mdb D) (hy : mdy D) (hmd : mdn D) (hNS : prd D (D.pr 1).length ≤ 16384) (hval : valk tr Hb D ph pt pk pa f) (hF : f + 914 ≤ F) (hj : j < D.n) (hn : nd Hb D.G dd q c) (hc : vcq tr D j c) {qo ro : Nat} : ∀ m_ s H, s + m_ = (prd D (D.pr 1).length) → sst tr Hb D ph pt pk pa mm st H → gos D st H → btk D ph pt pk st H qo ro → zfr D ph pt pk pa mm st (fun p => p = ro) H0 H → mu_W (mu_D F) mu_m408 (12, [(4, .inl (nI s)), (3, .inr (.inr (some qo))), (2, .inr (.inr (some (D.ip j)))), (1, .inr (.inr (some q))), (0, .inr (.inr (some 169)))], [], H) (fun r => ∃ H1, r = (.inl none, H1) ∧ sst tr Hb D ph pt pk pa mm st H1 ∧ gos D st H1 ∧ zfr D ph pt pk pa mm st (fun p => p = ro) H0 H1)
  | 0, s, H, hm_, hs, hg, hq, hf => by
    refine mw_go mu_g408 (k := 3) (f1 := (18, [(4, .inl (nI s)), (3, .inr (.inr (some qo))), (2, .inr (.inr (some (D.ip j)))), (1, .inr (.inr (some q))), (0, .inr (.inr (some 169)))], [.inl (mu_i H 169 28), .inl (nI s)], H)) (C := [mu_is H (some 169) 1]) rfl (show mu_is H (some 169) 1 from hs.1.1.2.2.1.1) ?_
    refine mw_fr (f' := (18, [(4, .inl (nI s)), (3, .inr (.inr (some qo))), (2, .inr (.inr (some (D.ip j)))), (1, .inr (.inr (some q))), (0, .inr (.inr (some 169)))], [.inl (nI (prd D (D.pr 1).length)), .inl (nI s)], H)) (by first | (rw [hs.2.2.1.2]; done) | (rw [hs.2.2.1.2]; rfl)) ?_
    refine mw_if (P := (nI s) < (nI (prd D (D.pr 1).length))) (a := 21) (b := 78) (fun _ => rfl) trivial (fun h1 => absurd h1 (by rw [show s = (prd D (D.pr 1).length) by omega]; exact Int32.lt_irrefl)) (fun h1 => ?_)
    exact mw_of (fun _ => mu_ret rfl trivial ⟨_, rfl, hs, hg, hf⟩)
  | m_ + 1, s, H, hm_, hs, hg, hq, hf => by
    have sl : s < (prd D (D.pr 1).length) := by omega
    have s14 : s < 16384 := by omega
    refine mw_go mu_g408 (k := 3) (f1 := (18, [(4, .inl (nI s)), (3, .inr (.inr (some qo))), (2, .inr (.inr (some (D.ip j)))), (1, .inr (.inr (some q))), (0, .inr (.inr (some 169)))], [.inl (mu_i H 169 28), .inl (nI s)], H)) (C := [mu_is H (some 169) 1]) rfl (show mu_is H (some 169) 1 from hs.1.1.2.2.1.1) ?_
    refine mw_fr (f' := (18, [(4, .inl (nI s)), (3, .inr (.inr (some qo))), (2, .inr (.inr (some (D.ip j)))), (1, .inr (.inr (some q))), (0, .inr (.inr (some 169)))], [.inl (nI (prd D (D.pr 1).length)), .inl (nI s)], H)) (by first | (rw [hs.2.2.1.2]; done) | (rw [hs.2.2.1.2]; rfl)) ?_
    refine mw_if (P := (nI s) < (nI (prd D (D.pr 1).length))) (a := 21) (b := 78) (fun _ => rfl) trivial (fun h1 => ?_) (fun h1 => absurd (nI_lt sl (by omega)) h1)
    refine mw_go mu_g408 (k := 2) (f1 := (25, [(4, .inl (nI s)), (3, .inr (.inr (some qo))), (2, .inr (.inr (some (D.ip j)))), (1, .inr (.inr (some q))), (0, .inr (.inr (some 169)))], [.inr (.inr (mu_r H 169 32))], H)) (C := [mu_is H (some 169) 1]) rfl (show mu_is H (some 169) 1 from hs.1.1.2.2.1.1) ?_
    refine mw_fr (f' := (25, [(4, .inl (nI s)), (3, .inr (.inr (some qo))), (2, .inr (.inr (some (D.ip j)))), (1, .inr (.inr (some q))), (0, .inr (.inr (some 169)))], [.inr (.inr (some 183))], H)) (by first | (rw [(show mu_r H 169 32 = some 183 from (rgd_bt (k := 0) hs.2.2.1.1 (by decide)).1)]; done) | (rw [(show mu_r H 169 32 = some 183 from (rgd_bt (k := 0) hs.2.2.1.1 (by decide)).1)]; rfl)) ?_
    refine mw_go mu_g408 (k := 1) (f1 := (27, [(4, .inl (nI s)), (3, .inr (.inr (some qo))), (2, .inr (.inr (some (D.ip j)))), (1, .inr (.inr (some q))), (0, .inr (.inr (some 169)))], [.inl (nI s), .inr (.inr (some 183))], H)) (C := []) rfl trivial ?_
    refine mw_cIe (fun _ => rfl) (show mu_is H (some 183) 14 from (rgd_bt (k := 0) hs.2.2.1.1 (by decide)).2.1) (mu_TI.up (show f + 913 ≤ F by omega) (rp_has (d := f + 912) (show btr H 183 184 from (rgd_bt (k := 0) hs.2.2.1.1 (by decide)).2) s14)) ?_
    refine mw_if (P := (bI (bst H 184 s)) = 0) (a := 39) (b := 33) (fun _ => rfl) trivial (fun h2 => ?_) (fun h2 => ?_)
    · -- 39
      refine mw_go mu_g408 (k := 4) (f1 := (46, [(4, .inl (nI s)), (3, .inr (.inr (some qo))), (2, .inr (.inr (some (D.ip j)))), (1, .inr (.inr (some q))), (0, .inr (.inr (some 169)))], [.inr (.inr (mu_r H 169 32)), .inl (nI s), .inr (.inr (some qo))], H)) (C := [mu_is H (some 169) 1]) rfl (show mu_is H (some 169) 1 from hs.1.1.2.2.1.1) ?_
      refine mw_fr (f' := (46, [(4, .inl (nI s)), (3, .inr (.inr (some qo))), (2, .inr (.inr (some (D.ip j)))), (1, .inr (.inr (some q))), (0, .inr (.inr (some 169)))], [.inr (.inr (some 183)), .inl (nI s), .inr (.inr (some qo))], H)) (by first | (rw [(show mu_r H 169 32 = some 183 from (rgd_bt (k := 0) hs.2.2.1.1 (by decide)).1)]; done) | (rw [(show mu_r H 169 32 = some 183 from (rgd_bt (k := 0) hs.2.2.1.1 (by decide)).1)]; rfl)) ?_
      refine mw_go mu_g408 (k := 1) (f1 := (48, [(4, .inl (nI s)), (3, .inr (.inr (some qo))), (2, .inr (.inr (some (D.ip j)))), (1, .inr (.inr (some q))), (0, .inr (.inr (some 169)))], [.inl (nI s), .inr (.inr (some 183)), .inl (nI s), .inr (.inr (some qo))], H)) (C := []) rfl trivial ?_
      refine mw_cIe (fun _ => rfl) (show mu_is H (some 183) 14 from (rgd_bt (k := 0) hs.2.2.1.1 (by decide)).2.1) (mu_TI.up (show f + 913 ≤ F by omega) (rp_has (d := f + 912) (show btr H 183 184 from (rgd_bt (k := 0) hs.2.2.1.1 (by decide)).2) s14)) ?_
      refine mw_if (P := (bI (bst H 184 s)) = 0) (a := 68) (b := 54) (fun _ => rfl) trivial (fun h4 => ?_) (fun h4 => ?_)
      · -- 68
        refine mw_go mu_g408 (k := 1) (f1 := (69, [(4, .inl (nI s)), (3, .inr (.inr (some qo))), (2, .inr (.inr (some (D.ip j)))), (1, .inr (.inr (some q))), (0, .inr (.inr (some 169)))], [.inl (0 : Int32), .inl (nI s), .inr (.inr (some qo))], H)) (C := []) rfl trivial ?_
        refine mw_fr (f' := (69, [(4, .inl (nI s)), (3, .inr (.inr (some qo))), (2, .inr (.inr (some (D.ip j)))), (1, .inr (.inr (some q))), (0, .inr (.inr (some 169)))], [.inl (bI false), .inl (nI s), .inr (.inr (some qo))], H)) (rfl) ?_
        refine mw_cV (fun _ => rfl) (show mu_is H (some qo) 14 from hq.1.1) (mu_TV.up (show f + 913 ≤ F by omega) (rp_put (d := f + 911) (v := false) hq.1 s14)) (fun H1 q1 => ?_)
        obtain ⟨s1_1, g1_1, gz1⟩ := sst.put (R := (fun p => p = ro)) hs hg hq q1 rfl
        have hf1 := zfr.tr2 hf gz1
        have ho1 := gz1.2.2.1 _ _ hq
        refine mw_go mu_g408 (k := 2) (f1 := (12, [(4, .inl ((nI s) + 1)), (3, .inr (.inr (some qo))), (2, .inr (.inr (some (D.ip j)))), (1, .inr (.inr (some q))), (0, .inr (.inr (some 169)))], [], H1)) (C := []) rfl trivial ?_
        refine mw_sub (L' := [(4, .inl (nI (s + 1))), (3, .inr (.inr (some qo))), (2, .inr (.inr (some (D.ip j)))), (1, .inr (.inr (some q))), (0, .inr (.inr (some 169)))]) (by intro x hx; simp only [List.mem_cons, List.not_mem_nil, or_false] at hx ⊢; rcases hx with rfl | rfl | rfl | rfl | rfl <;> first | (simp [nI_add, show (1 : Int32) = nI 1 from rfl]; done) | simp [nI]) ?_
        exact rp_fm0 hb hy hmd hNS hval hF hj hn hc m_ (s + 1) _ (by omega) s1_1 g1_1 ho1 hf1
      · -- 54
        refine mw_go mu_g408 (k := 3) (f1 := (57, [(4, .inl (nI s)), (3, .inr (.inr (some qo))), (2, .inr (.inr (some (D.ip j)))), (1, .inr (.inr (some q))), (0, .inr (.inr (some 169)))], [.inr (.inr (some (D.ip j))), .inr (.inr (some q)), .inr (.inr (some 169)), .inl (nI s), .inr (.inr (some qo))], H)) (C := []) rfl trivial ?_
        refine mw_cI (fun _ => rfl) (show mu_is H (some 169) 1 from hs.1.1.2.2.1.1) (mu_TI.up (show f ≤ F by omega) (hval _ _ _ _ _ hj hs.1 hn hc)) (fun x2 H2 q2 => ?_)
        obtain ⟨e3_2, e4_2⟩ := q2
        obtain ⟨hw_2, _⟩ := hs.2.1.vk hs.1 e4_2
        obtain ⟨hs_2, gf_2⟩ := hs.tf (vfk.tf e4_2) e3_2 hw_2
        have hg_2 := hg.tf hs (vfk.tf e4_2)
        have gz_2 := gfr.zf (R := (fun p => p = ro)) gf_2 hs
        have hf_2 := zfr.tr2 hf gz_2
        have ho_2 := gz_2.2.2.1 _ _ hq
        refine mw_go mu_g408 (k := 1) (f1 := (61, [(4, .inl (nI s)), (3, .inr (.inr (some qo))), (2, .inr (.inr (some (D.ip j)))), (1, .inr (.inr (some q))), (0, .inr (.inr (some 169)))], [.inl (1 : Int32), .inl x2, .inl (nI s), .inr (.inr (some qo))], H2)) (C := []) rfl trivial ?_
        refine mw_if (P := x2 = (1 : Int32)) (a := 64) (b := 68) (fun _ => rfl) trivial (fun h5 => ?_) (fun h5 => ?_)
        · -- 64
          refine mw_go mu_g408 (k := 2) (f1 := (69, [(4, .inl (nI s)), (3, .inr (.inr (some qo))), (2, .inr (.inr (some (D.ip j)))), (1, .inr (.inr (some q))), (0, .inr (.inr (some 169)))], [.inl (1 : Int32), .inl (nI s), .inr (.inr (some qo))], H2)) (C := []) rfl trivial ?_
          refine mw_fr (f' := (69, [(4, .inl (nI s)), (3, .inr (.inr (some qo))), (2, .inr (.inr (some (D.ip j)))), (1, .inr (.inr (some q))), (0, .inr (.inr (some 169)))], [.inl (bI true), .inl (nI s), .inr (.inr (some qo))], H2)) (rfl) ?_
          refine mw_cV (fun _ => rfl) (show mu_is H2 (some qo) 14 from ho_2.1.1) (mu_TV.up (show f + 913 ≤ F by omega) (rp_put (d := f + 911) (v := true) ho_2.1 s14)) (fun H3 q3 => ?_)
          obtain ⟨s1_3, g1_3, gz3⟩ := sst.put (R := (fun p => p = ro)) hs_2 hg_2 ho_2 q3 rfl
          have hf3 := zfr.tr2 hf_2 gz3
          have ho3 := gz3.2.2.1 _ _ ho_2
          refine mw_go mu_g408 (k := 2) (f1 := (12, [(4, .inl ((nI s) + 1)), (3, .inr (.inr (some qo))), (2, .inr (.inr (some (D.ip j)))), (1, .inr (.inr (some q))), (0, .inr (.inr (some 169)))], [], H3)) (C := []) rfl trivial ?_
          refine mw_sub (L' := [(4, .inl (nI (s + 1))), (3, .inr (.inr (some qo))), (2, .inr (.inr (some (D.ip j)))), (1, .inr (.inr (some q))), (0, .inr (.inr (some 169)))]) (by intro x hx; simp only [List.mem_cons, List.not_mem_nil, or_false] at hx ⊢; rcases hx with rfl | rfl | rfl | rfl | rfl <;> first | (simp [nI_add, show (1 : Int32) = nI 1 from rfl]; done) | simp [nI]) ?_
          exact rp_fm0 hb hy hmd hNS hval hF hj hn hc m_ (s + 1) _ (by omega) s1_3 g1_3 ho3 hf3
        · -- 68
          refine mw_go mu_g408 (k := 1) (f1 := (69, [(4, .inl (nI s)), (3, .inr (.inr (some qo))), (2, .inr (.inr (some (D.ip j)))), (1, .inr (.inr (some q))), (0, .inr (.inr (some 169)))], [.inl (0 : Int32), .inl (nI s), .inr (.inr (some qo))], H2)) (C := []) rfl trivial ?_
          refine mw_fr (f' := (69, [(4, .inl (nI s)), (3, .inr (.inr (some qo))), (2, .inr (.inr (some (D.ip j)))), (1, .inr (.inr (some q))), (0, .inr (.inr (some 169)))], [.inl (bI false), .inl (nI s), .inr (.inr (some qo))], H2)) (rfl) ?_
          refine mw_cV (fun _ => rfl) (show mu_is H2 (some qo) 14 from ho_2.1.1) (mu_TV.up (show f + 913 ≤ F by omega) (rp_put (d := f + 911) (v := false) ho_2.1 s14)) (fun H4 q4 => ?_)
          obtain ⟨s1_4, g1_4, gz4⟩ := sst.put (R := (fun p => p = ro)) hs_2 hg_2 ho_2 q4 rfl
          have hf4 := zfr.tr2 hf_2 gz4
          have ho4 := gz4.2.2.1 _ _ ho_2
          refine mw_go mu_g408 (k := 2) (f1 := (12, [(4, .inl ((nI s) + 1)), (3, .inr (.inr (some qo))), (2, .inr (.inr (some (D.ip j)))), (1, .inr (.inr (some q))), (0, .inr (.inr (some 169)))], [], H4)) (C := []) rfl trivial ?_
          refine mw_sub (L' := [(4, .inl (nI (s + 1))), (3, .inr (.inr (some qo))), (2, .inr (.inr (some (D.ip j)))), (1, .inr (.inr (some q))), (0, .inr (.inr (some 169)))]) (by intro x hx; simp only [List.mem_cons, List.not_mem_nil, or_false] at hx ⊢; rcases hx with rfl | rfl | rfl | rfl | rfl <;> first | (simp [nI_add, show (1 : Int32) = nI 1 from rfl]; done) | simp [nI]) ?_
          exact rp_fm0 hb hy hmd hNS hval hF hj hn hc m_ (s + 1) _ (by omega) s1_4 g1_4 ho4 hf4
    · -- 33
      refine mw_go mu_g408 (k := 2) (f1 := (36, [(4, .inl (nI s)), (3, .inr (.inr (some qo))), (2, .inr (.inr (some (D.ip j)))), (1, .inr (.inr (some q))), (0, .inr (.inr (some 169)))], [.inl (nI s), .inr (.inr (some 169))], H)) (C := []) rfl trivial ?_
      refine mw_cV (fun _ => rfl) (show mu_is H (some 169) 1 from hs.1.1.2.2.1.1) (mu_TV.up (show f + 6 ≤ F by omega) (rp_enter (d := f) hb hy hmd (show s < 2147483648 by omega) (vsta.z hs.1 hs.2.2.2.2.1))) (fun H5 q5 => ?_)
      obtain ⟨e1, e2⟩ := q5
      obtain ⟨hs7, gf7⟩ := hs.dh e2 e1
      have hg7 := hg.dh hs e2
      have gz7 := gfr.zf (R := (fun p => p = ro)) gf7 hs
      have hf7 := zfr.tr2 hf gz7
      have ho7 := gz7.2.2.1 _ _ hq
      refine mw_go mu_g408 (k := 4) (f1 := (46, [(4, .inl (nI s)), (3, .inr (.inr (some qo))), (2, .inr (.inr (some (D.ip j)))), (1, .inr (.inr (some q))), (0, .inr (.inr (some 169)))], [.inr (.inr (mu_r H5 169 32)), .inl (nI s), .inr (.inr (some qo))], H5)) (C := [mu_is H5 (some 169) 1]) rfl (show mu_is H5 (some 169) 1 from hs7.1.1.2.2.1.1) ?_
      refine mw_fr (f' := (46, [(4, .inl (nI s)), (3, .inr (.inr (some qo))), (2, .inr (.inr (some (D.ip j)))), (1, .inr (.inr (some q))), (0, .inr (.inr (some 169)))], [.inr (.inr (some 183)), .inl (nI s), .inr (.inr (some qo))], H5)) (by first | (rw [(show mu_r H5 169 32 = some 183 from (rgd_bt (k := 0) hs7.2.2.1.1 (by decide)).1)]; done) | (rw [(show mu_r H5 169 32 = some 183 from (rgd_bt (k := 0) hs7.2.2.1.1 (by decide)).1)]; rfl)) ?_
      refine mw_go mu_g408 (k := 1) (f1 := (48, [(4, .inl (nI s)), (3, .inr (.inr (some qo))), (2, .inr (.inr (some (D.ip j)))), (1, .inr (.inr (some q))), (0, .inr (.inr (some 169)))], [.inl (nI s), .inr (.inr (some 183)), .inl (nI s), .inr (.inr (some qo))], H5)) (C := []) rfl trivial ?_
      refine mw_cIe (fun _ => rfl) (show mu_is H5 (some 183) 14 from (rgd_bt (k := 0) hs7.2.2.1.1 (by decide)).2.1) (mu_TI.up (show f + 913 ≤ F by omega) (rp_has (d := f + 912) (show btr H5 183 184 from (rgd_bt (k := 0) hs7.2.2.1.1 (by decide)).2) s14)) ?_
      refine mw_if (P := (bI (bst H5 184 s)) = 0) (a := 68) (b := 54) (fun _ => rfl) trivial (fun h4 => ?_) (fun h4 => ?_)
      · -- 68
        refine mw_go mu_g408 (k := 1) (f1 := (69, [(4, .inl (nI s)), (3, .inr (.inr (some qo))), (2, .inr (.inr (some (D.ip j)))), (1, .inr (.inr (some q))), (0, .inr (.inr (some 169)))], [.inl (0 : Int32), .inl (nI s), .inr (.inr (some qo))], H5)) (C := []) rfl trivial ?_
        refine mw_fr (f' := (69, [(4, .inl (nI s)), (3, .inr (.inr (some qo))), (2, .inr (.inr (some (D.ip j)))), (1, .inr (.inr (some q))), (0, .inr (.inr (some 169)))], [.inl (bI false), .inl (nI s), .inr (.inr (some qo))], H5)) (rfl) ?_
        refine mw_cV (fun _ => rfl) (show mu_is H5 (some qo) 14 from ho7.1.1) (mu_TV.up (show f + 913 ≤ F by omega) (rp_put (d := f + 911) (v := false) ho7.1 s14)) (fun H6 q6 => ?_)
        obtain ⟨s1_6, g1_6, gz6⟩ := sst.put (R := (fun p => p = ro)) hs7 hg7 ho7 q6 rfl
        have hf6 := zfr.tr2 hf7 gz6
        have ho6 := gz6.2.2.1 _ _ ho7
        refine mw_go mu_g408 (k := 2) (f1 := (12, [(4, .inl ((nI s) + 1)), (3, .inr (.inr (some qo))), (2, .inr (.inr (some (D.ip j)))), (1, .inr (.inr (some q))), (0, .inr (.inr (some 169)))], [], H6)) (C := []) rfl trivial ?_
        refine mw_sub (L' := [(4, .inl (nI (s + 1))), (3, .inr (.inr (some qo))), (2, .inr (.inr (some (D.ip j)))), (1, .inr (.inr (some q))), (0, .inr (.inr (some 169)))]) (by intro x hx; simp only [List.mem_cons, List.not_mem_nil, or_false] at hx ⊢; rcases hx with rfl | rfl | rfl | rfl | rfl <;> first | (simp [nI_add, show (1 : Int32) = nI 1 from rfl]; done) | simp [nI]) ?_
        exact rp_fm0 hb hy hmd hNS hval hF hj hn hc m_ (s + 1) _ (by omega) s1_6 g1_6 ho6 hf6
      · -- 54
        refine mw_go mu_g408 (k := 3) (f1 := (57, [(4, .inl (nI s)), (3, .inr (.inr (some qo))), (2, .inr (.inr (some (D.ip j)))), (1, .inr (.inr (some q))), (0, .inr (.inr (some 169)))], [.inr (.inr (some (D.ip j))), .inr (.inr (some q)), .inr (.inr (some 169)), .inl (nI s), .inr (.inr (some qo))], H5)) (C := []) rfl trivial ?_
        refine mw_cI (fun _ => rfl) (show mu_is H5 (some 169) 1 from hs7.1.1.2.2.1.1) (mu_TI.up (show f ≤ F by omega) (hval _ _ _ _ _ hj hs7.1 hn hc)) (fun x7 H7 q7 => ?_)
        obtain ⟨e3_7, e4_7⟩ := q7
        obtain ⟨hw_7, _⟩ := hs7.2.1.vk hs7.1 e4_7
        obtain ⟨hs_7, gf_7⟩ := hs7.tf (vfk.tf e4_7) e3_7 hw_7
        have hg_7 := hg7.tf hs7 (vfk.tf e4_7)
        have gz_7 := gfr.zf (R := (fun p => p = ro)) gf_7 hs7
        have hf_7 := zfr.tr2 hf7 gz_7
        have ho_7 := gz_7.2.2.1 _ _ ho7
        refine mw_go mu_g408 (k := 1) (f1 := (61, [(4, .inl (nI s)), (3, .inr (.inr (some qo))), (2, .inr (.inr (some (D.ip j)))), (1, .inr (.inr (some q))), (0, .inr (.inr (some 169)))], [.inl (1 : Int32), .inl x7, .inl (nI s), .inr (.inr (some qo))], H7)) (C := []) rfl trivial ?_
        refine mw_if (P := x7 = (1 : Int32)) (a := 64) (b := 68) (fun _ => rfl) trivial (fun h5 => ?_) (fun h5 => ?_)
        · -- 64
          refine mw_go mu_g408 (k := 2) (f1 := (69, [(4, .inl (nI s)), (3, .inr (.inr (some qo))), (2, .inr (.inr (some (D.ip j)))), (1, .inr (.inr (some q))), (0, .inr (.inr (some 169)))], [.inl (1 : Int32), .inl (nI s), .inr (.inr (some qo))], H7)) (C := []) rfl trivial ?_
          refine mw_fr (f' := (69, [(4, .inl (nI s)), (3, .inr (.inr (some qo))), (2, .inr (.inr (some (D.ip j)))), (1, .inr (.inr (some q))), (0, .inr (.inr (some 169)))], [.inl (bI true), .inl (nI s), .inr (.inr (some qo))], H7)) (rfl) ?_
          refine mw_cV (fun _ => rfl) (show mu_is H7 (some qo) 14 from ho_7.1.1) (mu_TV.up (show f + 913 ≤ F by omega) (rp_put (d := f + 911) (v := true) ho_7.1 s14)) (fun H8 q8 => ?_)
          obtain ⟨s1_8, g1_8, gz8⟩ := sst.put (R := (fun p => p = ro)) hs_7 hg_7 ho_7 q8 rfl
          have hf8 := zfr.tr2 hf_7 gz8
          have ho8 := gz8.2.2.1 _ _ ho_7
          refine mw_go mu_g408 (k := 2) (f1 := (12, [(4, .inl ((nI s) + 1)), (3, .inr (.inr (some qo))), (2, .inr (.inr (some (D.ip j)))), (1, .inr (.inr (some q))), (0, .inr (.inr (some 169)))], [], H8)) (C := []) rfl trivial ?_
          refine mw_sub (L' := [(4, .inl (nI (s + 1))), (3, .inr (.inr (some qo))), (2, .inr (.inr (some (D.ip j)))), (1, .inr (.inr (some q))), (0, .inr (.inr (some 169)))]) (by intro x hx; simp only [List.mem_cons, List.not_mem_nil, or_false] at hx ⊢; rcases hx with rfl | rfl | rfl | rfl | rfl <;> first | (simp [nI_add, show (1 : Int32) = nI 1 from rfl]; done) | simp [nI]) ?_
          exact rp_fm0 hb hy hmd hNS hval hF hj hn hc m_ (s + 1) _ (by omega) s1_8 g1_8 ho8 hf8
        · -- 68
          refine mw_go mu_g408 (k := 1) (f1 := (69, [(4, .inl (nI s)), (3, .inr (.inr (some qo))), (2, .inr (.inr (some (D.ip j)))), (1, .inr (.inr (some q))), (0, .inr (.inr (some 169)))], [.inl (0 : Int32), .inl (nI s), .inr (.inr (some qo))], H7)) (C := []) rfl trivial ?_
          refine mw_fr (f' := (69, [(4, .inl (nI s)), (3, .inr (.inr (some qo))), (2, .inr (.inr (some (D.ip j)))), (1, .inr (.inr (some q))), (0, .inr (.inr (some 169)))], [.inl (bI false), .inl (nI s), .inr (.inr (some qo))], H7)) (rfl) ?_
          refine mw_cV (fun _ => rfl) (show mu_is H7 (some qo) 14 from ho_7.1.1) (mu_TV.up (show f + 913 ≤ F by omega) (rp_put (d := f + 911) (v := false) ho_7.1 s14)) (fun H9 q9 => ?_)
          obtain ⟨s1_9, g1_9, gz9⟩ := sst.put (R := (fun p => p = ro)) hs_7 hg_7 ho_7 q9 rfl
          have hf9 := zfr.tr2 hf_7 gz9
          have ho9 := gz9.2.2.1 _ _ ho_7
          refine mw_go mu_g408 (k := 2) (f1 := (12, [(4, .inl ((nI s) + 1)), (3, .inr (.inr (some qo))), (2, .inr (.inr (some (D.ip j)))), (1, .inr (.inr (some q))), (0, .inr (.inr (some 169)))], [], H9)) (C := []) rfl trivial ?_
          refine mw_sub (L' := [(4, .inl (nI (s + 1))), (3, .inr (.inr (some qo))), (2, .inr (.inr (some (D.ip j)))), (1, .inr (.inr (some q))), (0, .inr (.inr (some 169)))]) (by intro x hx; simp only [List.mem_cons, List.not_mem_nil, or_false] at hx ⊢; rcases hx with rfl | rfl | rfl | rfl | rfl <;> first | (simp [nI_add, show (1 : Int32) = nI 1 from rfl]; done) | simp [nI]) ?_
          exact rp_fm0 hb hy hmd hNS hval hF hj hn hc m_ (s + 1) _ (by omega) s1_9 g1_9 ho9 hf9
