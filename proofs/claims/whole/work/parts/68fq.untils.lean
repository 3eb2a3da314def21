/-! The reference: untils, its loops -/
/-- PathProverModel.untils(LPathProverModel$Node;LPathProverModel$Instance;LPathProverModel$Bits;LPathProverModel$Bits;)V -/
abbrev mu_m417 : ev_M := (9, none, [], ev_b417)
theorem mu_g417 : mu_good mu_m417 := mu_goodk ev_k417
theorem rp_ut0 {tr : Prop} {Hb H0 : mu_H} {D : MD} {ph pt pk pa mm st f F qp rp qo ro qb rb qg rg qh rh : Nat} {Φ : mu_R → Prop} (hNS : prd D (D.pr 1).length ≤ 16384) (hF : f + 914 ≤ F) (hnx : ∀ H, sst tr Hb D ph pt pk pa mm st H → gos D st H → btk D ph pt pk st H qp rp → btk D ph pt pk st H qo ro → btk D ph pt pk st H qb rb → btk D ph pt pk st H qg rg → btk D ph pt pk st H qh rh → zfr D ph pt pk pa mm st (fun p => p = rg) H0 H → mu_W (mu_D F) mu_m417 (107, [(7, .inr (.inr (some qh))), (6, .inr (.inr (some qg))), (5, .inr (.inr (some qb))), (4, .inr (.inr (some qo))), (3, .inr (.inr (some qp))), (0, .inr (.inr (some 169)))], [], H) Φ) : ∀ m_ s H, s + m_ = (prd D (D.pr 1).length) → sst tr Hb D ph pt pk pa mm st H → gos D st H → btk D ph pt pk st H qp rp → btk D ph pt pk st H qo ro → btk D ph pt pk st H qb rb → btk D ph pt pk st H qg rg → btk D ph pt pk st H qh rh → zfr D ph pt pk pa mm st (fun p => p = rg) H0 H → mu_W (mu_D F) mu_m417 (61, [(8, .inl (nI s)), (7, .inr (.inr (some qh))), (6, .inr (.inr (some qg))), (5, .inr (.inr (some qb))), (4, .inr (.inr (some qo))), (3, .inr (.inr (some qp))), (0, .inr (.inr (some 169)))], [], H) Φ
  | 0, s, H, hm_, hs, hg, hp, hq, hB, hG, hh, hf => by
    refine mw_go mu_g417 (k := 3) (f1 := (67, [(8, .inl (nI s)), (7, .inr (.inr (some qh))), (6, .inr (.inr (some qg))), (5, .inr (.inr (some qb))), (4, .inr (.inr (some qo))), (3, .inr (.inr (some qp))), (0, .inr (.inr (some 169)))], [.inl (mu_i H 169 28), .inl (nI s)], H)) (C := [mu_is H (some 169) 1]) rfl (show mu_is H (some 169) 1 from hs.1.1.2.2.1.1) ?_
    refine mw_fr (f' := (67, [(8, .inl (nI s)), (7, .inr (.inr (some qh))), (6, .inr (.inr (some qg))), (5, .inr (.inr (some qb))), (4, .inr (.inr (some qo))), (3, .inr (.inr (some qp))), (0, .inr (.inr (some 169)))], [.inl (nI (prd D (D.pr 1).length)), .inl (nI s)], H)) (by first | (rw [hs.2.2.1.2]; done) | (rw [hs.2.2.1.2]; rfl)) ?_
    refine mw_if (P := (nI s) < (nI (prd D (D.pr 1).length))) (a := 70) (b := 107) (fun _ => rfl) trivial (fun h1 => absurd h1 (by rw [show s = (prd D (D.pr 1).length) by omega]; exact Int32.lt_irrefl)) (fun h1 => ?_)
    refine mw_sub (L' := [(7, .inr (.inr (some qh))), (6, .inr (.inr (some qg))), (5, .inr (.inr (some qb))), (4, .inr (.inr (some qo))), (3, .inr (.inr (some qp))), (0, .inr (.inr (some 169)))]) (by simp) ?_
    exact hnx _ hs hg hp hq hB hG hh hf
  | m_ + 1, s, H, hm_, hs, hg, hp, hq, hB, hG, hh, hf => by
    have sl : s < (prd D (D.pr 1).length) := by omega
    have s14 : s < 16384 := by omega
    refine mw_go mu_g417 (k := 3) (f1 := (67, [(8, .inl (nI s)), (7, .inr (.inr (some qh))), (6, .inr (.inr (some qg))), (5, .inr (.inr (some qb))), (4, .inr (.inr (some qo))), (3, .inr (.inr (some qp))), (0, .inr (.inr (some 169)))], [.inl (mu_i H 169 28), .inl (nI s)], H)) (C := [mu_is H (some 169) 1]) rfl (show mu_is H (some 169) 1 from hs.1.1.2.2.1.1) ?_
    refine mw_fr (f' := (67, [(8, .inl (nI s)), (7, .inr (.inr (some qh))), (6, .inr (.inr (some qg))), (5, .inr (.inr (some qb))), (4, .inr (.inr (some qo))), (3, .inr (.inr (some qp))), (0, .inr (.inr (some 169)))], [.inl (nI (prd D (D.pr 1).length)), .inl (nI s)], H)) (by first | (rw [hs.2.2.1.2]; done) | (rw [hs.2.2.1.2]; rfl)) ?_
    refine mw_if (P := (nI s) < (nI (prd D (D.pr 1).length))) (a := 70) (b := 107) (fun _ => rfl) trivial (fun h1 => ?_) (fun h1 => absurd (nI_lt sl (by omega)) h1)
    refine mw_go mu_g417 (k := 4) (f1 := (78, [(8, .inl (nI s)), (7, .inr (.inr (some qh))), (6, .inr (.inr (some qg))), (5, .inr (.inr (some qb))), (4, .inr (.inr (some qo))), (3, .inr (.inr (some qp))), (0, .inr (.inr (some 169)))], [.inl (nI s), .inr (.inr (some qb)), .inl (nI s), .inr (.inr (some qg))], H)) (C := []) rfl trivial ?_
    refine mw_cIe (fun _ => rfl) (show mu_is H (some qb) 14 from hB.1.1) (mu_TI.up (show f + 913 ≤ F by omega) (rp_has (d := f + 912) hB.1 s14)) ?_
    refine mw_if (P := (bI (bst H rb s)) = 0) (a := 97) (b := 84) (fun _ => rfl) trivial (fun h2 => ?_) (fun h2 => ?_)
    · -- 97
      refine mw_go mu_g417 (k := 1) (f1 := (98, [(8, .inl (nI s)), (7, .inr (.inr (some qh))), (6, .inr (.inr (some qg))), (5, .inr (.inr (some qb))), (4, .inr (.inr (some qo))), (3, .inr (.inr (some qp))), (0, .inr (.inr (some 169)))], [.inl (0 : Int32), .inl (nI s), .inr (.inr (some qg))], H)) (C := []) rfl trivial ?_
      refine mw_fr (f' := (98, [(8, .inl (nI s)), (7, .inr (.inr (some qh))), (6, .inr (.inr (some qg))), (5, .inr (.inr (some qb))), (4, .inr (.inr (some qo))), (3, .inr (.inr (some qp))), (0, .inr (.inr (some 169)))], [.inl (bI false), .inl (nI s), .inr (.inr (some qg))], H)) (rfl) ?_
      refine mw_cV (fun _ => rfl) (show mu_is H (some qg) 14 from hG.1.1) (mu_TV.up (show f + 913 ≤ F by omega) (rp_put (d := f + 911) (v := false) hG.1 s14)) (fun H1 q1 => ?_)
      obtain ⟨s1_1, g1_1, gz1⟩ := sst.put (R := (fun p => p = rg)) hs hg hG q1 rfl
      have hf1 := zfr.tr2 hf gz1
      have k1_0 := gz1.2.2.1 _ _ hp
      have k1_1 := gz1.2.2.1 _ _ hq
      have k1_2 := gz1.2.2.1 _ _ hB
      have k1_3 := gz1.2.2.1 _ _ hG
      have k1_4 := gz1.2.2.1 _ _ hh
      refine mw_go mu_g417 (k := 2) (f1 := (61, [(8, .inl ((nI s) + 1)), (7, .inr (.inr (some qh))), (6, .inr (.inr (some qg))), (5, .inr (.inr (some qb))), (4, .inr (.inr (some qo))), (3, .inr (.inr (some qp))), (0, .inr (.inr (some 169)))], [], H1)) (C := []) rfl trivial ?_
      refine mw_sub (L' := [(8, .inl (nI (s + 1))), (7, .inr (.inr (some qh))), (6, .inr (.inr (some qg))), (5, .inr (.inr (some qb))), (4, .inr (.inr (some qo))), (3, .inr (.inr (some qp))), (0, .inr (.inr (some 169)))]) (by intro x hx; simp only [List.mem_cons, List.not_mem_nil, or_false] at hx ⊢; rcases hx with rfl | rfl | rfl | rfl | rfl | rfl | rfl <;> first | (simp [nI_add, show (1 : Int32) = nI 1 from rfl]; done) | simp [nI]) ?_
      exact rp_ut0 hNS hF hnx m_ (s + 1) _ (by omega) s1_1 g1_1 k1_0 k1_1 k1_2 k1_3 k1_4 hf1
    · -- 84
      refine mw_go mu_g417 (k := 2) (f1 := (87, [(8, .inl (nI s)), (7, .inr (.inr (some qh))), (6, .inr (.inr (some qg))), (5, .inr (.inr (some qb))), (4, .inr (.inr (some qo))), (3, .inr (.inr (some qp))), (0, .inr (.inr (some 169)))], [.inl (nI s), .inr (.inr (some qp)), .inl (nI s), .inr (.inr (some qg))], H)) (C := []) rfl trivial ?_
      refine mw_cIe (fun _ => rfl) (show mu_is H (some qp) 14 from hp.1.1) (mu_TI.up (show f + 913 ≤ F by omega) (rp_has (d := f + 912) hp.1 s14)) ?_
      refine mw_if (P := (bI (bst H rp s)) = 0) (a := 93) (b := 97) (fun _ => rfl) trivial (fun h3 => ?_) (fun h3 => ?_)
      · -- 93
        refine mw_go mu_g417 (k := 2) (f1 := (98, [(8, .inl (nI s)), (7, .inr (.inr (some qh))), (6, .inr (.inr (some qg))), (5, .inr (.inr (some qb))), (4, .inr (.inr (some qo))), (3, .inr (.inr (some qp))), (0, .inr (.inr (some 169)))], [.inl (1 : Int32), .inl (nI s), .inr (.inr (some qg))], H)) (C := []) rfl trivial ?_
        refine mw_fr (f' := (98, [(8, .inl (nI s)), (7, .inr (.inr (some qh))), (6, .inr (.inr (some qg))), (5, .inr (.inr (some qb))), (4, .inr (.inr (some qo))), (3, .inr (.inr (some qp))), (0, .inr (.inr (some 169)))], [.inl (bI true), .inl (nI s), .inr (.inr (some qg))], H)) (rfl) ?_
        refine mw_cV (fun _ => rfl) (show mu_is H (some qg) 14 from hG.1.1) (mu_TV.up (show f + 913 ≤ F by omega) (rp_put (d := f + 911) (v := true) hG.1 s14)) (fun H2 q2 => ?_)
        obtain ⟨s1_2, g1_2, gz2⟩ := sst.put (R := (fun p => p = rg)) hs hg hG q2 rfl
        have hf2 := zfr.tr2 hf gz2
        have k2_0 := gz2.2.2.1 _ _ hp
        have k2_1 := gz2.2.2.1 _ _ hq
        have k2_2 := gz2.2.2.1 _ _ hB
        have k2_3 := gz2.2.2.1 _ _ hG
        have k2_4 := gz2.2.2.1 _ _ hh
        refine mw_go mu_g417 (k := 2) (f1 := (61, [(8, .inl ((nI s) + 1)), (7, .inr (.inr (some qh))), (6, .inr (.inr (some qg))), (5, .inr (.inr (some qb))), (4, .inr (.inr (some qo))), (3, .inr (.inr (some qp))), (0, .inr (.inr (some 169)))], [], H2)) (C := []) rfl trivial ?_
        refine mw_sub (L' := [(8, .inl (nI (s + 1))), (7, .inr (.inr (some qh))), (6, .inr (.inr (some qg))), (5, .inr (.inr (some qb))), (4, .inr (.inr (some qo))), (3, .inr (.inr (some qp))), (0, .inr (.inr (some 169)))]) (by intro x hx; simp only [List.mem_cons, List.not_mem_nil, or_false] at hx ⊢; rcases hx with rfl | rfl | rfl | rfl | rfl | rfl | rfl <;> first | (simp [nI_add, show (1 : Int32) = nI 1 from rfl]; done) | simp [nI]) ?_
        exact rp_ut0 hNS hF hnx m_ (s + 1) _ (by omega) s1_2 g1_2 k2_0 k2_1 k2_2 k2_3 k2_4 hf2
      · -- 97
        refine mw_go mu_g417 (k := 1) (f1 := (98, [(8, .inl (nI s)), (7, .inr (.inr (some qh))), (6, .inr (.inr (some qg))), (5, .inr (.inr (some qb))), (4, .inr (.inr (some qo))), (3, .inr (.inr (some qp))), (0, .inr (.inr (some 169)))], [.inl (0 : Int32), .inl (nI s), .inr (.inr (some qg))], H)) (C := []) rfl trivial ?_
        refine mw_fr (f' := (98, [(8, .inl (nI s)), (7, .inr (.inr (some qh))), (6, .inr (.inr (some qg))), (5, .inr (.inr (some qb))), (4, .inr (.inr (some qo))), (3, .inr (.inr (some qp))), (0, .inr (.inr (some 169)))], [.inl (bI false), .inl (nI s), .inr (.inr (some qg))], H)) (rfl) ?_
        refine mw_cV (fun _ => rfl) (show mu_is H (some qg) 14 from hG.1.1) (mu_TV.up (show f + 913 ≤ F by omega) (rp_put (d := f + 911) (v := false) hG.1 s14)) (fun H3 q3 => ?_)
        obtain ⟨s1_3, g1_3, gz3⟩ := sst.put (R := (fun p => p = rg)) hs hg hG q3 rfl
        have hf3 := zfr.tr2 hf gz3
        have k3_0 := gz3.2.2.1 _ _ hp
        have k3_1 := gz3.2.2.1 _ _ hq
        have k3_2 := gz3.2.2.1 _ _ hB
        have k3_3 := gz3.2.2.1 _ _ hG
        have k3_4 := gz3.2.2.1 _ _ hh
        refine mw_go mu_g417 (k := 2) (f1 := (61, [(8, .inl ((nI s) + 1)), (7, .inr (.inr (some qh))), (6, .inr (.inr (some qg))), (5, .inr (.inr (some qb))), (4, .inr (.inr (some qo))), (3, .inr (.inr (some qp))), (0, .inr (.inr (some 169)))], [], H3)) (C := []) rfl trivial ?_
        refine mw_sub (L' := [(8, .inl (nI (s + 1))), (7, .inr (.inr (some qh))), (6, .inr (.inr (some qg))), (5, .inr (.inr (some qb))), (4, .inr (.inr (some qo))), (3, .inr (.inr (some qp))), (0, .inr (.inr (some 169)))]) (by intro x hx; simp only [List.mem_cons, List.not_mem_nil, or_false] at hx ⊢; rcases hx with rfl | rfl | rfl | rfl | rfl | rfl | rfl <;> first | (simp [nI_add, show (1 : Int32) = nI 1 from rfl]; done) | simp [nI]) ?_
        exact rp_ut0 hNS hF hnx m_ (s + 1) _ (by omega) s1_3 g1_3 k3_0 k3_1 k3_2 k3_3 k3_4 hf3
theorem rp_ut1 {tr : Prop} {Hb H0 : mu_H} {D : MD} {ph pt pk pa mm st f F qo ro qh rh : Nat} {Φ : mu_R → Prop} (hNS : prd D (D.pr 1).length ≤ 16384) (hF : f + 914 ≤ F) (hnx : ∀ H, sst tr Hb D ph pt pk pa mm st H → gos D st H → btk D ph pt pk st H qo ro → btk D ph pt pk st H qh rh → zfr D ph pt pk pa mm st (fun p => p = ro) H0 H → mu_W (mu_D F) mu_m417 (187, [(0, .inr (.inr (some 169)))], [], H) Φ) : ∀ m_ s H, s + m_ = (prd D (D.pr 1).length) → sst tr Hb D ph pt pk pa mm st H → gos D st H → btk D ph pt pk st H qo ro → btk D ph pt pk st H qh rh → zfr D ph pt pk pa mm st (fun p => p = ro) H0 H → mu_W (mu_D F) mu_m417 (128, [(8, .inl (nI s)), (7, .inr (.inr (some qh))), (4, .inr (.inr (some qo))), (0, .inr (.inr (some 169)))], [], H) Φ
  | 0, s, H, hm_, hs, hg, hq, hh, hf => by
    refine mw_go mu_g417 (k := 3) (f1 := (134, [(8, .inl (nI s)), (7, .inr (.inr (some qh))), (4, .inr (.inr (some qo))), (0, .inr (.inr (some 169)))], [.inl (mu_i H 169 28), .inl (nI s)], H)) (C := [mu_is H (some 169) 1]) rfl (show mu_is H (some 169) 1 from hs.1.1.2.2.1.1) ?_
    refine mw_fr (f' := (134, [(8, .inl (nI s)), (7, .inr (.inr (some qh))), (4, .inr (.inr (some qo))), (0, .inr (.inr (some 169)))], [.inl (nI (prd D (D.pr 1).length)), .inl (nI s)], H)) (by first | (rw [hs.2.2.1.2]; done) | (rw [hs.2.2.1.2]; rfl)) ?_
    refine mw_if (P := (nI s) < (nI (prd D (D.pr 1).length))) (a := 137) (b := 187) (fun _ => rfl) trivial (fun h1 => absurd h1 (by rw [show s = (prd D (D.pr 1).length) by omega]; exact Int32.lt_irrefl)) (fun h1 => ?_)
    refine mw_sub (L' := [(0, .inr (.inr (some 169)))]) (by simp) ?_
    exact hnx _ hs hg hq hh hf
  | m_ + 1, s, H, hm_, hs, hg, hq, hh, hf => by
    have sl : s < (prd D (D.pr 1).length) := by omega
    have s14 : s < 16384 := by omega
    refine mw_go mu_g417 (k := 3) (f1 := (134, [(8, .inl (nI s)), (7, .inr (.inr (some qh))), (4, .inr (.inr (some qo))), (0, .inr (.inr (some 169)))], [.inl (mu_i H 169 28), .inl (nI s)], H)) (C := [mu_is H (some 169) 1]) rfl (show mu_is H (some 169) 1 from hs.1.1.2.2.1.1) ?_
    refine mw_fr (f' := (134, [(8, .inl (nI s)), (7, .inr (.inr (some qh))), (4, .inr (.inr (some qo))), (0, .inr (.inr (some 169)))], [.inl (nI (prd D (D.pr 1).length)), .inl (nI s)], H)) (by first | (rw [hs.2.2.1.2]; done) | (rw [hs.2.2.1.2]; rfl)) ?_
    refine mw_if (P := (nI s) < (nI (prd D (D.pr 1).length))) (a := 137) (b := 187) (fun _ => rfl) trivial (fun h1 => ?_) (fun h1 => absurd (nI_lt sl (by omega)) h1)
    refine mw_go mu_g417 (k := 4) (f1 := (145, [(8, .inl (nI s)), (7, .inr (.inr (some qh))), (4, .inr (.inr (some qo))), (0, .inr (.inr (some 169)))], [.inr (.inr (mu_r H 169 32)), .inl (nI s), .inr (.inr (some qo))], H)) (C := [mu_is H (some 169) 1]) rfl (show mu_is H (some 169) 1 from hs.1.1.2.2.1.1) ?_
    refine mw_fr (f' := (145, [(8, .inl (nI s)), (7, .inr (.inr (some qh))), (4, .inr (.inr (some qo))), (0, .inr (.inr (some 169)))], [.inr (.inr (some 183)), .inl (nI s), .inr (.inr (some qo))], H)) (by first | (rw [(show mu_r H 169 32 = some 183 from (rgd_bt (k := 0) hs.2.2.1.1 (by decide)).1)]; done) | (rw [(show mu_r H 169 32 = some 183 from (rgd_bt (k := 0) hs.2.2.1.1 (by decide)).1)]; rfl)) ?_
    refine mw_go mu_g417 (k := 1) (f1 := (147, [(8, .inl (nI s)), (7, .inr (.inr (some qh))), (4, .inr (.inr (some qo))), (0, .inr (.inr (some 169)))], [.inl (nI s), .inr (.inr (some 183)), .inl (nI s), .inr (.inr (some qo))], H)) (C := []) rfl trivial ?_
    refine mw_cIe (fun _ => rfl) (show mu_is H (some 183) 14 from (rgd_bt (k := 0) hs.2.2.1.1 (by decide)).2.1) (mu_TI.up (show f + 913 ≤ F by omega) (rp_has (d := f + 912) (show btr H 183 184 from (rgd_bt (k := 0) hs.2.2.1.1 (by decide)).2) s14)) ?_
    refine mw_if (P := (bI (bst H 184 s)) = 0) (a := 177) (b := 153) (fun _ => rfl) trivial (fun h2 => ?_) (fun h2 => ?_)
    · -- 177
      refine mw_go mu_g417 (k := 1) (f1 := (178, [(8, .inl (nI s)), (7, .inr (.inr (some qh))), (4, .inr (.inr (some qo))), (0, .inr (.inr (some 169)))], [.inl (0 : Int32), .inl (nI s), .inr (.inr (some qo))], H)) (C := []) rfl trivial ?_
      refine mw_fr (f' := (178, [(8, .inl (nI s)), (7, .inr (.inr (some qh))), (4, .inr (.inr (some qo))), (0, .inr (.inr (some 169)))], [.inl (bI false), .inl (nI s), .inr (.inr (some qo))], H)) (rfl) ?_
      refine mw_cV (fun _ => rfl) (show mu_is H (some qo) 14 from hq.1.1) (mu_TV.up (show f + 913 ≤ F by omega) (rp_put (d := f + 911) (v := false) hq.1 s14)) (fun H1 q1 => ?_)
      obtain ⟨s1_1, g1_1, gz1⟩ := sst.put (R := (fun p => p = ro)) hs hg hq q1 rfl
      have hf1 := zfr.tr2 hf gz1
      have k1_0 := gz1.2.2.1 _ _ hq
      have k1_1 := gz1.2.2.1 _ _ hh
      refine mw_go mu_g417 (k := 2) (f1 := (128, [(8, .inl ((nI s) + 1)), (7, .inr (.inr (some qh))), (4, .inr (.inr (some qo))), (0, .inr (.inr (some 169)))], [], H1)) (C := []) rfl trivial ?_
      refine mw_sub (L' := [(8, .inl (nI (s + 1))), (7, .inr (.inr (some qh))), (4, .inr (.inr (some qo))), (0, .inr (.inr (some 169)))]) (by intro x hx; simp only [List.mem_cons, List.not_mem_nil, or_false] at hx ⊢; rcases hx with rfl | rfl | rfl | rfl <;> first | (simp [nI_add, show (1 : Int32) = nI 1 from rfl]; done) | simp [nI]) ?_
      exact rp_ut1 hNS hF hnx m_ (s + 1) _ (by omega) s1_1 g1_1 k1_0 k1_1 hf1
    · -- 153
      refine mw_go mu_g417 (k := 2) (f1 := (157, [(8, .inl (nI s)), (7, .inr (.inr (some qh))), (4, .inr (.inr (some qo))), (0, .inr (.inr (some 169)))], [.inl (nI s), .inr (.inr (some qo)), .inl (nI s), .inr (.inr (some qo))], H)) (C := []) rfl trivial ?_
      refine mw_cIe (fun _ => rfl) (show mu_is H (some qo) 14 from hq.1.1) (mu_TI.up (show f + 913 ≤ F by omega) (rp_has (d := f + 912) hq.1 s14)) ?_
      refine mw_if (P := (bI (bst H ro s)) = 0) (a := 163) (b := 177) (fun _ => rfl) trivial (fun h3 => ?_) (fun h3 => ?_)
      · -- 163
        refine mw_go mu_g417 (k := 2) (f1 := (167, [(8, .inl (nI s)), (7, .inr (.inr (some qh))), (4, .inr (.inr (some qo))), (0, .inr (.inr (some 169)))], [.inl (nI s), .inr (.inr (some qh)), .inl (nI s), .inr (.inr (some qo))], H)) (C := []) rfl trivial ?_
        refine mw_cIe (fun _ => rfl) (show mu_is H (some qh) 14 from hh.1.1) (mu_TI.up (show f + 913 ≤ F by omega) (rp_has (d := f + 912) hh.1 s14)) ?_
        refine mw_if (P := (bI (bst H rh s)) = 0) (a := 173) (b := 177) (fun _ => rfl) trivial (fun h4 => ?_) (fun h4 => ?_)
        · -- 173
          refine mw_go mu_g417 (k := 2) (f1 := (178, [(8, .inl (nI s)), (7, .inr (.inr (some qh))), (4, .inr (.inr (some qo))), (0, .inr (.inr (some 169)))], [.inl (1 : Int32), .inl (nI s), .inr (.inr (some qo))], H)) (C := []) rfl trivial ?_
          refine mw_fr (f' := (178, [(8, .inl (nI s)), (7, .inr (.inr (some qh))), (4, .inr (.inr (some qo))), (0, .inr (.inr (some 169)))], [.inl (bI true), .inl (nI s), .inr (.inr (some qo))], H)) (rfl) ?_
          refine mw_cV (fun _ => rfl) (show mu_is H (some qo) 14 from hq.1.1) (mu_TV.up (show f + 913 ≤ F by omega) (rp_put (d := f + 911) (v := true) hq.1 s14)) (fun H2 q2 => ?_)
          obtain ⟨s1_2, g1_2, gz2⟩ := sst.put (R := (fun p => p = ro)) hs hg hq q2 rfl
          have hf2 := zfr.tr2 hf gz2
          have k2_0 := gz2.2.2.1 _ _ hq
          have k2_1 := gz2.2.2.1 _ _ hh
          refine mw_go mu_g417 (k := 2) (f1 := (128, [(8, .inl ((nI s) + 1)), (7, .inr (.inr (some qh))), (4, .inr (.inr (some qo))), (0, .inr (.inr (some 169)))], [], H2)) (C := []) rfl trivial ?_
          refine mw_sub (L' := [(8, .inl (nI (s + 1))), (7, .inr (.inr (some qh))), (4, .inr (.inr (some qo))), (0, .inr (.inr (some 169)))]) (by intro x hx; simp only [List.mem_cons, List.not_mem_nil, or_false] at hx ⊢; rcases hx with rfl | rfl | rfl | rfl <;> first | (simp [nI_add, show (1 : Int32) = nI 1 from rfl]; done) | simp [nI]) ?_
          exact rp_ut1 hNS hF hnx m_ (s + 1) _ (by omega) s1_2 g1_2 k2_0 k2_1 hf2
        · -- 177
          refine mw_go mu_g417 (k := 1) (f1 := (178, [(8, .inl (nI s)), (7, .inr (.inr (some qh))), (4, .inr (.inr (some qo))), (0, .inr (.inr (some 169)))], [.inl (0 : Int32), .inl (nI s), .inr (.inr (some qo))], H)) (C := []) rfl trivial ?_
          refine mw_fr (f' := (178, [(8, .inl (nI s)), (7, .inr (.inr (some qh))), (4, .inr (.inr (some qo))), (0, .inr (.inr (some 169)))], [.inl (bI false), .inl (nI s), .inr (.inr (some qo))], H)) (rfl) ?_
          refine mw_cV (fun _ => rfl) (show mu_is H (some qo) 14 from hq.1.1) (mu_TV.up (show f + 913 ≤ F by omega) (rp_put (d := f + 911) (v := false) hq.1 s14)) (fun H3 q3 => ?_)
          obtain ⟨s1_3, g1_3, gz3⟩ := sst.put (R := (fun p => p = ro)) hs hg hq q3 rfl
          have hf3 := zfr.tr2 hf gz3
          have k3_0 := gz3.2.2.1 _ _ hq
          have k3_1 := gz3.2.2.1 _ _ hh
          refine mw_go mu_g417 (k := 2) (f1 := (128, [(8, .inl ((nI s) + 1)), (7, .inr (.inr (some qh))), (4, .inr (.inr (some qo))), (0, .inr (.inr (some 169)))], [], H3)) (C := []) rfl trivial ?_
          refine mw_sub (L' := [(8, .inl (nI (s + 1))), (7, .inr (.inr (some qh))), (4, .inr (.inr (some qo))), (0, .inr (.inr (some 169)))]) (by intro x hx; simp only [List.mem_cons, List.not_mem_nil, or_false] at hx ⊢; rcases hx with rfl | rfl | rfl | rfl <;> first | (simp [nI_add, show (1 : Int32) = nI 1 from rfl]; done) | simp [nI]) ?_
          exact rp_ut1 hNS hF hnx m_ (s + 1) _ (by omega) s1_3 g1_3 k3_0 k3_1 hf3
      · -- 177
        refine mw_go mu_g417 (k := 1) (f1 := (178, [(8, .inl (nI s)), (7, .inr (.inr (some qh))), (4, .inr (.inr (some qo))), (0, .inr (.inr (some 169)))], [.inl (0 : Int32), .inl (nI s), .inr (.inr (some qo))], H)) (C := []) rfl trivial ?_
        refine mw_fr (f' := (178, [(8, .inl (nI s)), (7, .inr (.inr (some qh))), (4, .inr (.inr (some qo))), (0, .inr (.inr (some 169)))], [.inl (bI false), .inl (nI s), .inr (.inr (some qo))], H)) (rfl) ?_
        refine mw_cV (fun _ => rfl) (show mu_is H (some qo) 14 from hq.1.1) (mu_TV.up (show f + 913 ≤ F by omega) (rp_put (d := f + 911) (v := false) hq.1 s14)) (fun H4 q4 => ?_)
        obtain ⟨s1_4, g1_4, gz4⟩ := sst.put (R := (fun p => p = ro)) hs hg hq q4 rfl
        have hf4 := zfr.tr2 hf gz4
        have k4_0 := gz4.2.2.1 _ _ hq
        have k4_1 := gz4.2.2.1 _ _ hh
        refine mw_go mu_g417 (k := 2) (f1 := (128, [(8, .inl ((nI s) + 1)), (7, .inr (.inr (some qh))), (4, .inr (.inr (some qo))), (0, .inr (.inr (some 169)))], [], H4)) (C := []) rfl trivial ?_
        refine mw_sub (L' := [(8, .inl (nI (s + 1))), (7, .inr (.inr (some qh))), (4, .inr (.inr (some qo))), (0, .inr (.inr (some 169)))]) (by intro x hx; simp only [List.mem_cons, List.not_mem_nil, or_false] at hx ⊢; rcases hx with rfl | rfl | rfl | rfl <;> first | (simp [nI_add, show (1 : Int32) = nI 1 from rfl]; done) | simp [nI]) ?_
        exact rp_ut1 hNS hF hnx m_ (s + 1) _ (by omega) s1_4 g1_4 k4_0 k4_1 hf4
