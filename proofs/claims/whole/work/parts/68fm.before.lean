/-! The reference: before -/
/-- PathProverModel.before(LPathProverModel$Bits;LPathProverModel$Bits;)V -/
abbrev mu_m414 : ev_M := (5, none, [], ev_b414)
theorem mu_g414 : mu_good mu_m414 := mu_goodk ev_k414
theorem rp_bf0 {tr : Prop} {Hb H0 : mu_H} {D : MD} {ph pt pk pa mm st f : Nat} (hNS : prd D (D.pr 1).length ≤ 16384) {qp rp qg qo ro : Nat} {Φ : mu_R → Prop} (hnx : ∀ H, sst tr Hb D ph pt pk pa mm st H → gos D st H → btk D ph pt pk st H qp rp → btk D ph pt pk st H qo ro → zfr D ph pt pk pa mm st (fun p => p = ro) H0 H → mu_W (mu_D (f + 913)) mu_m414 (55, [(3, .inr (.inr (some qo))), (2, .inr (.inr (some qg))), (0, .inr (.inr (some 169)))], [], H) Φ) : ∀ m_ s H, s + m_ = (prd D (D.pr 1).length) → sst tr Hb D ph pt pk pa mm st H → gos D st H → btk D ph pt pk st H qp rp → btk D ph pt pk st H qo ro → zfr D ph pt pk pa mm st (fun p => p = ro) H0 H → mu_W (mu_D (f + 913)) mu_m414 (8, [(4, .inl (nI s)), (3, .inr (.inr (some qo))), (2, .inr (.inr (some qg))), (1, .inr (.inr (some qp))), (0, .inr (.inr (some 169)))], [], H) Φ
  | 0, s, H, hm_, hs, hg, hp, hq, hf => by
    refine mw_go mu_g414 (k := 3) (f1 := (14, [(4, .inl (nI s)), (3, .inr (.inr (some qo))), (2, .inr (.inr (some qg))), (1, .inr (.inr (some qp))), (0, .inr (.inr (some 169)))], [.inl (mu_i H 169 28), .inl (nI s)], H)) (C := [mu_is H (some 169) 1]) rfl (show mu_is H (some 169) 1 from hs.1.1.2.2.1.1) ?_
    refine mw_fr (f' := (14, [(4, .inl (nI s)), (3, .inr (.inr (some qo))), (2, .inr (.inr (some qg))), (1, .inr (.inr (some qp))), (0, .inr (.inr (some 169)))], [.inl (nI (prd D (D.pr 1).length)), .inl (nI s)], H)) (by first | (rw [hs.2.2.1.2]; done) | (rw [hs.2.2.1.2]; rfl)) ?_
    refine mw_if (P := (nI s) < (nI (prd D (D.pr 1).length))) (a := 17) (b := 55) (fun _ => rfl) trivial (fun h1 => absurd h1 (by rw [show s = (prd D (D.pr 1).length) by omega]; exact Int32.lt_irrefl)) (fun h1 => ?_)
    refine mw_sub (L' := [(3, .inr (.inr (some qo))), (2, .inr (.inr (some qg))), (0, .inr (.inr (some 169)))]) (by simp) ?_
    exact hnx _ hs hg hp hq hf
  | m_ + 1, s, H, hm_, hs, hg, hp, hq, hf => by
    have sl : s < (prd D (D.pr 1).length) := by omega
    have s14 : s < 16384 := by omega
    refine mw_go mu_g414 (k := 3) (f1 := (14, [(4, .inl (nI s)), (3, .inr (.inr (some qo))), (2, .inr (.inr (some qg))), (1, .inr (.inr (some qp))), (0, .inr (.inr (some 169)))], [.inl (mu_i H 169 28), .inl (nI s)], H)) (C := [mu_is H (some 169) 1]) rfl (show mu_is H (some 169) 1 from hs.1.1.2.2.1.1) ?_
    refine mw_fr (f' := (14, [(4, .inl (nI s)), (3, .inr (.inr (some qo))), (2, .inr (.inr (some qg))), (1, .inr (.inr (some qp))), (0, .inr (.inr (some 169)))], [.inl (nI (prd D (D.pr 1).length)), .inl (nI s)], H)) (by first | (rw [hs.2.2.1.2]; done) | (rw [hs.2.2.1.2]; rfl)) ?_
    refine mw_if (P := (nI s) < (nI (prd D (D.pr 1).length))) (a := 17) (b := 55) (fun _ => rfl) trivial (fun h1 => ?_) (fun h1 => absurd (nI_lt sl (by omega)) h1)
    refine mw_go mu_g414 (k := 4) (f1 := (23, [(4, .inl (nI s)), (3, .inr (.inr (some qo))), (2, .inr (.inr (some qg))), (1, .inr (.inr (some qp))), (0, .inr (.inr (some 169)))], [.inl (nI s), .inr (.inr (some qp)), .inl (nI s), .inr (.inr (some qo))], H)) (C := []) rfl trivial ?_
    refine mw_cIe (fun _ => rfl) (show mu_is H (some qp) 14 from hp.1.1) (rp_has (d := f + 912) hp.1 s14) ?_
    refine mw_if (P := (bI (bst H rp s)) = 0) (a := 45) (b := 29) (fun _ => rfl) trivial (fun h2 => ?_) (fun h2 => ?_)
    · -- 45
      refine mw_go mu_g414 (k := 1) (f1 := (46, [(4, .inl (nI s)), (3, .inr (.inr (some qo))), (2, .inr (.inr (some qg))), (1, .inr (.inr (some qp))), (0, .inr (.inr (some 169)))], [.inl (0 : Int32), .inl (nI s), .inr (.inr (some qo))], H)) (C := []) rfl trivial ?_
      refine mw_fr (f' := (46, [(4, .inl (nI s)), (3, .inr (.inr (some qo))), (2, .inr (.inr (some qg))), (1, .inr (.inr (some qp))), (0, .inr (.inr (some 169)))], [.inl (bI false), .inl (nI s), .inr (.inr (some qo))], H)) (rfl) ?_
      refine mw_cV (fun _ => rfl) (show mu_is H (some qo) 14 from hq.1.1) (rp_put (d := f + 911) (v := false) hq.1 s14) (fun H1 q1 => ?_)
      obtain ⟨d1_1, d2_1, d3_1⟩ := sst.put (R := (fun p => p = ro)) hs hg hq q1 rfl
      have hf1 := zfr.tr2 hf d3_1
      have hp_1 := d3_1.2.2.1 _ _ hp
      have hq_1 := d3_1.2.2.1 _ _ hq
      refine mw_go mu_g414 (k := 2) (f1 := (8, [(4, .inl ((nI s) + 1)), (3, .inr (.inr (some qo))), (2, .inr (.inr (some qg))), (1, .inr (.inr (some qp))), (0, .inr (.inr (some 169)))], [], H1)) (C := []) rfl trivial ?_
      refine mw_sub (L' := [(4, .inl (nI (s + 1))), (3, .inr (.inr (some qo))), (2, .inr (.inr (some qg))), (1, .inr (.inr (some qp))), (0, .inr (.inr (some 169)))]) (by intro x hx; simp only [List.mem_cons, List.not_mem_nil, or_false] at hx ⊢; rcases hx with rfl | rfl | rfl | rfl | rfl <;> first | (simp [nI_add, show (1 : Int32) = nI 1 from rfl]; done) | simp [nI]) ?_
      exact rp_bf0 hNS hnx m_ (s + 1) _ (by omega) d1_1 d2_1 hp_1 hq_1 hf1
    · -- 29
      refine mw_go mu_g414 (k := 2) (f1 := (33, [(4, .inl (nI s)), (3, .inr (.inr (some qo))), (2, .inr (.inr (some qg))), (1, .inr (.inr (some qp))), (0, .inr (.inr (some 169)))], [.inr (.inr (mu_r H 169 34)), .inl (nI s), .inr (.inr (some qo))], H)) (C := [mu_is H (some 169) 1]) rfl (show mu_is H (some 169) 1 from hs.1.1.2.2.1.1) ?_
      refine mw_fr (f' := (33, [(4, .inl (nI s)), (3, .inr (.inr (some qo))), (2, .inr (.inr (some qg))), (1, .inr (.inr (some qp))), (0, .inr (.inr (some 169)))], [.inr (.inr (some 187)), .inl (nI s), .inr (.inr (some qo))], H)) (by first | (rw [(show mu_r H 169 34 = some 187 from (rgd_bt (k := 2) hs.2.2.1.1 (by decide)).1)]; done) | (rw [(show mu_r H 169 34 = some 187 from (rgd_bt (k := 2) hs.2.2.1.1 (by decide)).1)]; rfl)) ?_
      refine mw_go mu_g414 (k := 1) (f1 := (35, [(4, .inl (nI s)), (3, .inr (.inr (some qo))), (2, .inr (.inr (some qg))), (1, .inr (.inr (some qp))), (0, .inr (.inr (some 169)))], [.inl (nI s), .inr (.inr (some 187)), .inl (nI s), .inr (.inr (some qo))], H)) (C := []) rfl trivial ?_
      refine mw_cIe (fun _ => rfl) (show mu_is H (some 187) 14 from (rgd_bt (k := 2) hs.2.2.1.1 (by decide)).2.1) (rp_has (d := f + 912) (show btr H 187 188 from (rgd_bt (k := 2) hs.2.2.1.1 (by decide)).2) s14) ?_
      refine mw_if (P := (bI (bst H 188 s)) = 0) (a := 45) (b := 41) (fun _ => rfl) trivial (fun h3 => ?_) (fun h3 => ?_)
      · -- 45
        refine mw_go mu_g414 (k := 1) (f1 := (46, [(4, .inl (nI s)), (3, .inr (.inr (some qo))), (2, .inr (.inr (some qg))), (1, .inr (.inr (some qp))), (0, .inr (.inr (some 169)))], [.inl (0 : Int32), .inl (nI s), .inr (.inr (some qo))], H)) (C := []) rfl trivial ?_
        refine mw_fr (f' := (46, [(4, .inl (nI s)), (3, .inr (.inr (some qo))), (2, .inr (.inr (some qg))), (1, .inr (.inr (some qp))), (0, .inr (.inr (some 169)))], [.inl (bI false), .inl (nI s), .inr (.inr (some qo))], H)) (rfl) ?_
        refine mw_cV (fun _ => rfl) (show mu_is H (some qo) 14 from hq.1.1) (rp_put (d := f + 911) (v := false) hq.1 s14) (fun H2 q2 => ?_)
        obtain ⟨d1_2, d2_2, d3_2⟩ := sst.put (R := (fun p => p = ro)) hs hg hq q2 rfl
        have hf2 := zfr.tr2 hf d3_2
        have hp_2 := d3_2.2.2.1 _ _ hp
        have hq_2 := d3_2.2.2.1 _ _ hq
        refine mw_go mu_g414 (k := 2) (f1 := (8, [(4, .inl ((nI s) + 1)), (3, .inr (.inr (some qo))), (2, .inr (.inr (some qg))), (1, .inr (.inr (some qp))), (0, .inr (.inr (some 169)))], [], H2)) (C := []) rfl trivial ?_
        refine mw_sub (L' := [(4, .inl (nI (s + 1))), (3, .inr (.inr (some qo))), (2, .inr (.inr (some qg))), (1, .inr (.inr (some qp))), (0, .inr (.inr (some 169)))]) (by intro x hx; simp only [List.mem_cons, List.not_mem_nil, or_false] at hx ⊢; rcases hx with rfl | rfl | rfl | rfl | rfl <;> first | (simp [nI_add, show (1 : Int32) = nI 1 from rfl]; done) | simp [nI]) ?_
        exact rp_bf0 hNS hnx m_ (s + 1) _ (by omega) d1_2 d2_2 hp_2 hq_2 hf2
      · -- 41
        refine mw_go mu_g414 (k := 2) (f1 := (46, [(4, .inl (nI s)), (3, .inr (.inr (some qo))), (2, .inr (.inr (some qg))), (1, .inr (.inr (some qp))), (0, .inr (.inr (some 169)))], [.inl (1 : Int32), .inl (nI s), .inr (.inr (some qo))], H)) (C := []) rfl trivial ?_
        refine mw_fr (f' := (46, [(4, .inl (nI s)), (3, .inr (.inr (some qo))), (2, .inr (.inr (some qg))), (1, .inr (.inr (some qp))), (0, .inr (.inr (some 169)))], [.inl (bI true), .inl (nI s), .inr (.inr (some qo))], H)) (rfl) ?_
        refine mw_cV (fun _ => rfl) (show mu_is H (some qo) 14 from hq.1.1) (rp_put (d := f + 911) (v := true) hq.1 s14) (fun H3 q3 => ?_)
        obtain ⟨d1_3, d2_3, d3_3⟩ := sst.put (R := (fun p => p = ro)) hs hg hq q3 rfl
        have hf3 := zfr.tr2 hf d3_3
        have hp_3 := d3_3.2.2.1 _ _ hp
        have hq_3 := d3_3.2.2.1 _ _ hq
        refine mw_go mu_g414 (k := 2) (f1 := (8, [(4, .inl ((nI s) + 1)), (3, .inr (.inr (some qo))), (2, .inr (.inr (some qg))), (1, .inr (.inr (some qp))), (0, .inr (.inr (some 169)))], [], H3)) (C := []) rfl trivial ?_
        refine mw_sub (L' := [(4, .inl (nI (s + 1))), (3, .inr (.inr (some qo))), (2, .inr (.inr (some qg))), (1, .inr (.inr (some qp))), (0, .inr (.inr (some 169)))]) (by intro x hx; simp only [List.mem_cons, List.not_mem_nil, or_false] at hx ⊢; rcases hx with rfl | rfl | rfl | rfl | rfl <;> first | (simp [nI_add, show (1 : Int32) = nI 1 from rfl]; done) | simp [nI]) ?_
        exact rp_bf0 hNS hnx m_ (s + 1) _ (by omega) d1_3 d2_3 hp_3 hq_3 hf3
theorem rp_bf1 {tr : Prop} {Hb H0 : mu_H} {D : MD} {ph pt pk pa mm st f : Nat} (hb : mdb D) (hy : mdy D) (hmd : mdn D) (hNS : prd D (D.pr 1).length ≤ 16384) (hma : mda D) (hval : valk tr Hb D ph pt pk pa f) (hvw : mvw tr D) (hvt : valk True Hb D ph pt pk pa f) (hwt : mvw True D) {qg rg qo ro : Nat} {Φ : mu_R → Prop} (hnx : ∀ H, sst tr Hb D ph pt pk pa mm st H → gos D st H → btk D ph pt pk st H qg rg → btk D ph pt pk st H qo ro → zfr D ph pt pk pa mm st (fun p => p = ro) H0 H → mu_W (mu_D (f + 913)) mu_m414 (106, [(0, .inr (.inr (some 169)))], [], H) Φ) : ∀ m_ s H, s + m_ = (prd D (D.pr 1).length) → sst tr Hb D ph pt pk pa mm st H → gos D st H → btk D ph pt pk st H qg rg → btk D ph pt pk st H qo ro → zfr D ph pt pk pa mm st (fun p => p = ro) H0 H → mu_W (mu_D (f + 913)) mu_m414 (58, [(4, .inl (nI s)), (3, .inr (.inr (some qg))), (2, .inr (.inr (some qo))), (0, .inr (.inr (some 169)))], [], H) Φ
  | 0, s, H, hm_, hs, hg, hp, hq, hf => by
    refine mw_go mu_g414 (k := 3) (f1 := (64, [(4, .inl (nI s)), (3, .inr (.inr (some qg))), (2, .inr (.inr (some qo))), (0, .inr (.inr (some 169)))], [.inl (mu_i H 169 28), .inl (nI s)], H)) (C := [mu_is H (some 169) 1]) rfl (show mu_is H (some 169) 1 from hs.1.1.2.2.1.1) ?_
    refine mw_fr (f' := (64, [(4, .inl (nI s)), (3, .inr (.inr (some qg))), (2, .inr (.inr (some qo))), (0, .inr (.inr (some 169)))], [.inl (nI (prd D (D.pr 1).length)), .inl (nI s)], H)) (by first | (rw [hs.2.2.1.2]; done) | (rw [hs.2.2.1.2]; rfl)) ?_
    refine mw_if (P := (nI s) < (nI (prd D (D.pr 1).length))) (a := 67) (b := 106) (fun _ => rfl) trivial (fun h1 => absurd h1 (by rw [show s = (prd D (D.pr 1).length) by omega]; exact Int32.lt_irrefl)) (fun h1 => ?_)
    refine mw_sub (L' := [(0, .inr (.inr (some 169)))]) (by simp) ?_
    exact hnx _ hs hg hp hq hf
  | m_ + 1, s, H, hm_, hs, hg, hp, hq, hf => by
    have sl : s < (prd D (D.pr 1).length) := by omega
    have s14 : s < 16384 := by omega
    refine mw_go mu_g414 (k := 3) (f1 := (64, [(4, .inl (nI s)), (3, .inr (.inr (some qg))), (2, .inr (.inr (some qo))), (0, .inr (.inr (some 169)))], [.inl (mu_i H 169 28), .inl (nI s)], H)) (C := [mu_is H (some 169) 1]) rfl (show mu_is H (some 169) 1 from hs.1.1.2.2.1.1) ?_
    refine mw_fr (f' := (64, [(4, .inl (nI s)), (3, .inr (.inr (some qg))), (2, .inr (.inr (some qo))), (0, .inr (.inr (some 169)))], [.inl (nI (prd D (D.pr 1).length)), .inl (nI s)], H)) (by first | (rw [hs.2.2.1.2]; done) | (rw [hs.2.2.1.2]; rfl)) ?_
    refine mw_if (P := (nI s) < (nI (prd D (D.pr 1).length))) (a := 67) (b := 106) (fun _ => rfl) trivial (fun h1 => ?_) (fun h1 => absurd (nI_lt sl (by omega)) h1)
    refine mw_go mu_g414 (k := 4) (f1 := (74, [(4, .inl (nI s)), (3, .inr (.inr (some qg))), (2, .inr (.inr (some qo))), (0, .inr (.inr (some 169)))], [.inr (.inr (mu_r H 169 32)), .inl (nI s), .inr (.inr (some qo))], H)) (C := [mu_is H (some 169) 1]) rfl (show mu_is H (some 169) 1 from hs.1.1.2.2.1.1) ?_
    refine mw_fr (f' := (74, [(4, .inl (nI s)), (3, .inr (.inr (some qg))), (2, .inr (.inr (some qo))), (0, .inr (.inr (some 169)))], [.inr (.inr (some 183)), .inl (nI s), .inr (.inr (some qo))], H)) (by first | (rw [(show mu_r H 169 32 = some 183 from (rgd_bt (k := 0) hs.2.2.1.1 (by decide)).1)]; done) | (rw [(show mu_r H 169 32 = some 183 from (rgd_bt (k := 0) hs.2.2.1.1 (by decide)).1)]; rfl)) ?_
    refine mw_go mu_g414 (k := 1) (f1 := (76, [(4, .inl (nI s)), (3, .inr (.inr (some qg))), (2, .inr (.inr (some qo))), (0, .inr (.inr (some 169)))], [.inl (nI s), .inr (.inr (some 183)), .inl (nI s), .inr (.inr (some qo))], H)) (C := []) rfl trivial ?_
    refine mw_cIe (fun _ => rfl) (show mu_is H (some 183) 14 from (rgd_bt (k := 0) hs.2.2.1.1 (by decide)).2.1) (rp_has (d := f + 912) (show btr H 183 184 from (rgd_bt (k := 0) hs.2.2.1.1 (by decide)).2) s14) ?_
    refine mw_if (P := (bI (bst H 184 s)) = 0) (a := 96) (b := 82) (fun _ => rfl) trivial (fun h2 => ?_) (fun h2 => ?_)
    · -- 96
      refine mw_go mu_g414 (k := 1) (f1 := (97, [(4, .inl (nI s)), (3, .inr (.inr (some qg))), (2, .inr (.inr (some qo))), (0, .inr (.inr (some 169)))], [.inl (0 : Int32), .inl (nI s), .inr (.inr (some qo))], H)) (C := []) rfl trivial ?_
      refine mw_fr (f' := (97, [(4, .inl (nI s)), (3, .inr (.inr (some qg))), (2, .inr (.inr (some qo))), (0, .inr (.inr (some 169)))], [.inl (bI false), .inl (nI s), .inr (.inr (some qo))], H)) (rfl) ?_
      refine mw_cV (fun _ => rfl) (show mu_is H (some qo) 14 from hq.1.1) (rp_put (d := f + 911) (v := false) hq.1 s14) (fun H1 q1 => ?_)
      obtain ⟨d1_1, d2_1, d3_1⟩ := sst.put (R := (fun p => p = ro)) hs hg hq q1 rfl
      have hf1 := zfr.tr2 hf d3_1
      have hp_1 := d3_1.2.2.1 _ _ hp
      have hq_1 := d3_1.2.2.1 _ _ hq
      refine mw_go mu_g414 (k := 2) (f1 := (58, [(4, .inl ((nI s) + 1)), (3, .inr (.inr (some qg))), (2, .inr (.inr (some qo))), (0, .inr (.inr (some 169)))], [], H1)) (C := []) rfl trivial ?_
      refine mw_sub (L' := [(4, .inl (nI (s + 1))), (3, .inr (.inr (some qg))), (2, .inr (.inr (some qo))), (0, .inr (.inr (some 169)))]) (by intro x hx; simp only [List.mem_cons, List.not_mem_nil, or_false] at hx ⊢; rcases hx with rfl | rfl | rfl | rfl <;> first | (simp [nI_add, show (1 : Int32) = nI 1 from rfl]; done) | simp [nI]) ?_
      exact rp_bf1 hb hy hmd hNS hma hval hvw hvt hwt hnx m_ (s + 1) _ (by omega) d1_1 d2_1 hp_1 hq_1 hf1
    · -- 82
      refine mw_go mu_g414 (k := 3) (f1 := (86, [(4, .inl (nI s)), (3, .inr (.inr (some qg))), (2, .inr (.inr (some qo))), (0, .inr (.inr (some 169)))], [.inr (.inr (some qg)), .inl (nI s), .inr (.inr (some 169)), .inl (nI s), .inr (.inr (some qo))], H)) (C := []) rfl trivial ?_
      refine mw_cI (fun _ => rfl) (show mu_is H (some 169) 1 from hs.1.1.2.2.1.1) (mu_TI.up (show f + 912 ≤ f + 913 by omega) (rp_leads hb hy hmd hNS hma hval hvw hvt hwt hs hg sl hp)) (fun x5 H5 q5 => ?_)
      obtain ⟨x0, s1, g1, f1⟩ := q5
      have gz := gfr.zf (R := (fun p => p = ro)) f1 hs
      have hp_5 := gz.2.2.1 _ _ hp
      have hq_5 := gz.2.2.1 _ _ hq
      have hf5 := zfr.tr2 hf gz
      refine mw_if (P := x5 = 0) (a := 96) (b := 92) (fun _ => rfl) trivial (fun h3 => ?_) (fun h3 => ?_)
      · -- 96
        refine mw_go mu_g414 (k := 1) (f1 := (97, [(4, .inl (nI s)), (3, .inr (.inr (some qg))), (2, .inr (.inr (some qo))), (0, .inr (.inr (some 169)))], [.inl (0 : Int32), .inl (nI s), .inr (.inr (some qo))], H5)) (C := []) rfl trivial ?_
        refine mw_fr (f' := (97, [(4, .inl (nI s)), (3, .inr (.inr (some qg))), (2, .inr (.inr (some qo))), (0, .inr (.inr (some 169)))], [.inl (bI false), .inl (nI s), .inr (.inr (some qo))], H5)) (rfl) ?_
        refine mw_cV (fun _ => rfl) (show mu_is H5 (some qo) 14 from hq_5.1.1) (rp_put (d := f + 911) (v := false) hq_5.1 s14) (fun H2 q2 => ?_)
        obtain ⟨d1_2, d2_2, d3_2⟩ := sst.put (R := (fun p => p = ro)) s1 g1 hq_5 q2 rfl
        have hf2 := zfr.tr2 hf5 d3_2
        have hp_2 := d3_2.2.2.1 _ _ hp_5
        have hq_2 := d3_2.2.2.1 _ _ hq_5
        refine mw_go mu_g414 (k := 2) (f1 := (58, [(4, .inl ((nI s) + 1)), (3, .inr (.inr (some qg))), (2, .inr (.inr (some qo))), (0, .inr (.inr (some 169)))], [], H2)) (C := []) rfl trivial ?_
        refine mw_sub (L' := [(4, .inl (nI (s + 1))), (3, .inr (.inr (some qg))), (2, .inr (.inr (some qo))), (0, .inr (.inr (some 169)))]) (by intro x hx; simp only [List.mem_cons, List.not_mem_nil, or_false] at hx ⊢; rcases hx with rfl | rfl | rfl | rfl <;> first | (simp [nI_add, show (1 : Int32) = nI 1 from rfl]; done) | simp [nI]) ?_
        exact rp_bf1 hb hy hmd hNS hma hval hvw hvt hwt hnx m_ (s + 1) _ (by omega) d1_2 d2_2 hp_2 hq_2 hf2
      · -- 92
        refine mw_go mu_g414 (k := 2) (f1 := (97, [(4, .inl (nI s)), (3, .inr (.inr (some qg))), (2, .inr (.inr (some qo))), (0, .inr (.inr (some 169)))], [.inl (1 : Int32), .inl (nI s), .inr (.inr (some qo))], H5)) (C := []) rfl trivial ?_
        refine mw_fr (f' := (97, [(4, .inl (nI s)), (3, .inr (.inr (some qg))), (2, .inr (.inr (some qo))), (0, .inr (.inr (some 169)))], [.inl (bI true), .inl (nI s), .inr (.inr (some qo))], H5)) (rfl) ?_
        refine mw_cV (fun _ => rfl) (show mu_is H5 (some qo) 14 from hq_5.1.1) (rp_put (d := f + 911) (v := true) hq_5.1 s14) (fun H3 q3 => ?_)
        obtain ⟨d1_3, d2_3, d3_3⟩ := sst.put (R := (fun p => p = ro)) s1 g1 hq_5 q3 rfl
        have hf3 := zfr.tr2 hf5 d3_3
        have hp_3 := d3_3.2.2.1 _ _ hp_5
        have hq_3 := d3_3.2.2.1 _ _ hq_5
        refine mw_go mu_g414 (k := 2) (f1 := (58, [(4, .inl ((nI s) + 1)), (3, .inr (.inr (some qg))), (2, .inr (.inr (some qo))), (0, .inr (.inr (some 169)))], [], H3)) (C := []) rfl trivial ?_
        refine mw_sub (L' := [(4, .inl (nI (s + 1))), (3, .inr (.inr (some qg))), (2, .inr (.inr (some qo))), (0, .inr (.inr (some 169)))]) (by intro x hx; simp only [List.mem_cons, List.not_mem_nil, or_false] at hx ⊢; rcases hx with rfl | rfl | rfl | rfl <;> first | (simp [nI_add, show (1 : Int32) = nI 1 from rfl]; done) | simp [nI]) ?_
        exact rp_bf1 hb hy hmd hNS hma hval hvw hvt hwt hnx m_ (s + 1) _ (by omega) d1_3 d2_3 hp_3 hq_3 hf3
theorem rp_before {tr : Prop} {Hb H : mu_H} {D : MD} {ph pt pk pa mm st f : Nat} (hb : mdb D) (hy : mdy D) (hmd : mdn D) (hNS : prd D (D.pr 1).length ≤ 16384) (hma : mda D) (hval : valk tr Hb D ph pt pk pa f) (hvw : mvw tr D) (hvt : valk True Hb D ph pt pk pa f) (hwt : mvw True D) {qp rp qo ro k m : Nat} {rr : Nat → Nat × Nat} (hs : sst tr Hb D ph pt pk pa mm st H) (hg : gos D st H) (hp : btk D ph pt pk st H qp rp) (hq : btk D ph pt pk st H qo ro) (hw : rwv D ph pt pk st H k m rr) (hk : k ≤ 256) (hz : mu_z H + 3 ≤ 1000000) : mu_TV (mu_D (f + 914)) 414 [.inr (.inr (some 169)), .inr (.inr (some qp)), .inr (.inr (some qo))] H (fun H1 => ∃ m1 rr1, sst tr Hb D ph pt pk pa mm st H1 ∧ gos D st H1 ∧ rwv D ph pt pk st H1 k m1 rr1 ∧ lnt D ph pt pk pa mm st k m rr (fun p => p = ro) H m1 rr1 H1) := by
  refine mu_meth (M := mu_m414) rfl rfl ?_
  refine mw_ht (mu_fn_of (show [0, 1, 2].Nodup by decide)) ?_
  refine mw_go mu_g414 (k := 1) (f1 := (1, [(0, .inr (.inr (some 169))), (1, .inr (.inr (some qp))), (2, .inr (.inr (some qo)))], [.inr (.inr (some 169))], H)) (C := []) rfl trivial ?_
  refine mw_cA (fun _ => rfl) (show mu_is H (some 169) 1 from hs.1.1.2.2.1.1) (rp_rowL (d := f + 911) (R := (fun p => p = ro)) hs hg hw hk hz) (fun y3 H3 q3 => ?_)
  obtain ⟨m1, rr1, e3, s3, g3, w3, l3, t3, b3⟩ := q3
  subst e3
  have p3 := (b3 _ _ hp).1
  have o3 := (b3 _ _ hq).1
  have G3 : btk D ph pt pk st H3 (rr1 k).1 (rr1 k).2 := by
    obtain ⟨_, _, _, _, w⟩ := w3
    exact w k l3
  refine mw_go mu_g414 (k := 3) (f1 := (8, [(4, .inl (0 : Int32)), (3, .inr (.inr (some (rr1 k).1))), (0, .inr (.inr (some 169))), (1, .inr (.inr (some qp))), (2, .inr (.inr (some qo)))], [], H3)) (C := []) rfl trivial ?_
  refine mw_sub (L' := [(4, .inl (nI 0)), (3, .inr (.inr (some (rr1 k).1))), (2, .inr (.inr (some qo))), (1, .inr (.inr (some qp))), (0, .inr (.inr (some 169)))]) (by intro x hx; simp only [List.mem_cons, List.not_mem_nil, or_false] at hx ⊢; rcases hx with rfl | rfl | rfl | rfl | rfl <;> simp [nI]) ?_
  refine rp_bf0 hNS (fun H4 s4 g4 p4 G4 f4 => ?_) (prd D (D.pr 1).length) 0 _ (Nat.zero_add _) s3 g3 p3 G3 zfr.rf
  have o4 := f4.2.2.1 _ _ o3
  refine mw_go mu_g414 (k := 2) (f1 := (58, [(4, .inl (0 : Int32)), (3, .inr (.inr (some (rr1 k).1))), (2, .inr (.inr (some qo))), (0, .inr (.inr (some 169)))], [], H4)) (C := []) rfl trivial ?_
  refine mw_sub (L' := [(4, .inl (nI 0)), (3, .inr (.inr (some (rr1 k).1))), (2, .inr (.inr (some qo))), (0, .inr (.inr (some 169)))]) (by intro x hx; simp only [List.mem_cons, List.not_mem_nil, or_false] at hx ⊢; rcases hx with rfl | rfl | rfl | rfl <;> simp [nI]) ?_
  refine rp_bf1 hb hy hmd hNS hma hval hvw hvt hwt (fun H5 s5 g5 G5 o5 f5 => ?_) (prd D (D.pr 1).length) 0 _ (Nat.zero_add _) s4 g4 G4 o4 zfr.rf
  have w4 := w3.zf f4 s3 (fun p e => by rw [e]; exact G3.1.2.2.1.2.2)
  have w5 := w4.zf f5 s4 (fun p e => by rw [e]; exact o4.1.2.2.1.2.2)
  obtain ⟨s6, g6, w6, t6⟩ := rwv.dec (R := (fun p => p = ro)) w5 s5 g5
  have i52 : mu_i H5 169 52 = nI (k + 1) := by
    obtain ⟨_, _, w, _, _⟩ := w5
    exact w.2.1
  have kd : nI (k + 1) - 1 = nI k := by rw [← nI_add, show nI 1 = (1 : Int32) from rfl, Int32.add_sub_cancel]
  refine mw_go mu_g414 (k := 3) (f1 := (111, [(0, .inr (.inr (some 169)))], [.inl (mu_i H5 169 52), .inr (.inr (some 169))], H5)) (C := [mu_is H5 (some 169) 1]) rfl (show mu_is H5 (some 169) 1 from s5.1.1.2.2.1.1) ?_
  refine mw_fr (f' := (111, [(0, .inr (.inr (some 169)))], [.inl (nI (k + 1)), .inr (.inr (some 169))], H5)) (by first | (rw [i52]; done) | (rw [i52]; rfl)) ?_
  refine mw_go mu_g414 (k := 2) (f1 := (113, [(0, .inr (.inr (some 169)))], [.inl ((nI (k + 1)) - (1 : Int32)), .inr (.inr (some 169))], H5)) (C := []) rfl trivial ?_
  refine mw_fr (f' := (113, [(0, .inr (.inr (some 169)))], [.inl (nI k), .inr (.inr (some 169))], H5)) (by first | (rw [kd]; done) | (rw [kd]; rfl)) ?_
  refine mw_go mu_g414 (k := 1) (f1 := (116, [(0, .inr (.inr (some 169)))], [], (mu_si H5 169 52 (nI k)))) (C := [mu_is H5 (some 169) 1]) rfl (show mu_is H5 (some 169) 1 from s5.1.1.2.2.1.1) ?_
  have L3 : lnt D ph pt pk pa mm st k m1 rr1 _ H3 m1 rr1 H4 := zfr.lnt f4
  have L4 := lnt.tr2 t3 L3 (Nat.le_refl _) (fun p e => Or.inr ⟨k, Nat.le_refl _, l3, e⟩) (fun i hi => w3.lt i hi)
  have L5 : lnt D ph pt pk pa mm st k m1 rr1 _ H4 m1 rr1 H5 := zfr.lnt f5
  have L6 := lnt.tr2 L4 L5 (Nat.le_refl _) (fun p z => Or.inl z) (fun i hi => w3.lt i hi)
  have L7 := lnt.tr2 L6 t6 (Nat.le_refl _) (fun p z => Or.inl z) (fun i hi => w3.lt i hi)
  exact mw_of (fun _ => mu_ret rfl trivial ⟨_, rfl, m1, rr1, s6, g6, w6, L7⟩)
