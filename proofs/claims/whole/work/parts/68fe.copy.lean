/-! The reference: copy, deny, until, fairs, fairAt -/
/-- PathProverModel.copy(LPathProverModel$Bits;LPathProverModel$Bits;)V -/
abbrev mu_m412 : ev_M := (4, none, [], ev_b412)
theorem mu_g412 : mu_good mu_m412 := mu_goodk ev_k412
/-- PathProverModel.deny(LPathProverModel$Bits;)V -/
abbrev mu_m413 : ev_M := (3, none, [], ev_b413)
theorem mu_g413 : mu_good mu_m413 := mu_goodk ev_k413
/-- PathProverModel.until(LPathProverModel$Bits;LPathProverModel$Bits;LPathProverModel$Bits;)V -/
abbrev mu_m415 : ev_M := (5, none, [], ev_b415)
theorem mu_g415 : mu_good mu_m415 := mu_goodk ev_k415
/-- PathProverModel.fairs()I -/
abbrev mu_m419 : ev_M := (1, (some .int), [], ev_b419)
theorem mu_g419 : mu_good mu_m419 := mu_goodk ev_k419
/-- PathProverModel.fairAt(II)Z -/
abbrev mu_m420 : ev_M := (3, (some .boolean), [], ev_b420)
theorem mu_g420 : mu_good mu_m420 := mu_goodk ev_k420
theorem rp_cp0 {tr : Prop} {Hb H0 : mu_H} {D : MD} {ph pt pk pa mm st d : Nat} (hNS : prd D (D.pr 1).length ≤ 16384) {qp rp qo ro : Nat} : ∀ m_ s H, s + m_ = (prd D (D.pr 1).length) → sst tr Hb D ph pt pk pa mm st H → gos D st H → btk D ph pt pk st H qp rp → btk D ph pt pk st H qo ro → zfr D ph pt pk pa mm st (fun p => p = ro) H0 H → mu_W (mu_D (d + 2)) mu_m412 (2, [(3, .inl (nI s)), (2, .inr (.inr (some qo))), (1, .inr (.inr (some qp))), (0, .inr (.inr (some 169)))], [], H) (fun r => ∃ H1, r = (.inl none, H1) ∧ sst tr Hb D ph pt pk pa mm st H1 ∧ gos D st H1 ∧ zfr D ph pt pk pa mm st (fun p => p = ro) H0 H1)
  | 0, s, H, hm_, hs, hg, hp, hq, hf => by
    refine mw_go mu_g412 (k := 3) (f1 := (7, [(3, .inl (nI s)), (2, .inr (.inr (some qo))), (1, .inr (.inr (some qp))), (0, .inr (.inr (some 169)))], [.inl (mu_i H 169 28), .inl (nI s)], H)) (C := [mu_is H (some 169) 1]) rfl (show mu_is H (some 169) 1 from hs.1.1.2.2.1.1) ?_
    refine mw_fr (f' := (7, [(3, .inl (nI s)), (2, .inr (.inr (some qo))), (1, .inr (.inr (some qp))), (0, .inr (.inr (some 169)))], [.inl (nI (prd D (D.pr 1).length)), .inl (nI s)], H)) (by first | (rw [hs.2.2.1.2]; done) | (rw [hs.2.2.1.2]; rfl)) ?_
    refine mw_if (P := (nI s) < (nI (prd D (D.pr 1).length))) (a := 10) (b := 26) (fun _ => rfl) trivial (fun h1 => absurd h1 (by rw [show s = (prd D (D.pr 1).length) by omega]; exact Int32.lt_irrefl)) (fun h1 => ?_)
    exact mw_of (fun _ => mu_ret rfl trivial ⟨_, rfl, hs, hg, hf⟩)
  | m_ + 1, s, H, hm_, hs, hg, hp, hq, hf => by
    have sl : s < (prd D (D.pr 1).length) := by omega
    have s14 : s < 16384 := by omega
    refine mw_go mu_g412 (k := 3) (f1 := (7, [(3, .inl (nI s)), (2, .inr (.inr (some qo))), (1, .inr (.inr (some qp))), (0, .inr (.inr (some 169)))], [.inl (mu_i H 169 28), .inl (nI s)], H)) (C := [mu_is H (some 169) 1]) rfl (show mu_is H (some 169) 1 from hs.1.1.2.2.1.1) ?_
    refine mw_fr (f' := (7, [(3, .inl (nI s)), (2, .inr (.inr (some qo))), (1, .inr (.inr (some qp))), (0, .inr (.inr (some 169)))], [.inl (nI (prd D (D.pr 1).length)), .inl (nI s)], H)) (by first | (rw [hs.2.2.1.2]; done) | (rw [hs.2.2.1.2]; rfl)) ?_
    refine mw_if (P := (nI s) < (nI (prd D (D.pr 1).length))) (a := 10) (b := 26) (fun _ => rfl) trivial (fun h1 => ?_) (fun h1 => absurd (nI_lt sl (by omega)) h1)
    refine mw_go mu_g412 (k := 4) (f1 := (14, [(3, .inl (nI s)), (2, .inr (.inr (some qo))), (1, .inr (.inr (some qp))), (0, .inr (.inr (some 169)))], [.inl (nI s), .inr (.inr (some qp)), .inl (nI s), .inr (.inr (some qo))], H)) (C := []) rfl trivial ?_
    refine mw_cIe (fun _ => rfl) (show mu_is H (some qp) 14 from hp.1.1) (rp_has (d := d + 1) hp.1 s14) ?_
    refine mw_cV (fun _ => rfl) (show mu_is H (some qo) 14 from hq.1.1) (rp_put (d := d) (v := (bst H rp s)) hq.1 s14) (fun H1 q1 => ?_)
    obtain ⟨d1_1, d2_1, d3_1⟩ := sst.put (R := (fun p => p = ro)) hs hg hq q1 rfl
    have hf1 := zfr.tr2 hf d3_1
    have hp_1 := d3_1.2.2.1 _ _ hp
    have hq_1 := d3_1.2.2.1 _ _ hq
    refine mw_go mu_g412 (k := 2) (f1 := (2, [(3, .inl ((nI s) + 1)), (2, .inr (.inr (some qo))), (1, .inr (.inr (some qp))), (0, .inr (.inr (some 169)))], [], H1)) (C := []) rfl trivial ?_
    refine mw_sub (L' := [(3, .inl (nI (s + 1))), (2, .inr (.inr (some qo))), (1, .inr (.inr (some qp))), (0, .inr (.inr (some 169)))]) (by intro x hx; simp only [List.mem_cons, List.not_mem_nil, or_false] at hx ⊢; rcases hx with rfl | rfl | rfl | rfl <;> first | (simp [nI_add, show (1 : Int32) = nI 1 from rfl]; done) | simp [nI]) ?_
    exact rp_cp0 hNS m_ (s + 1) _ (by omega) d1_1 d2_1 hp_1 hq_1 hf1
theorem rp_copy {tr : Prop} {Hb H : mu_H} {D : MD} {ph pt pk pa mm st d : Nat} (hNS : prd D (D.pr 1).length ≤ 16384) {qp rp qo ro : Nat} (hs : sst tr Hb D ph pt pk pa mm st H) (hg : gos D st H) (hp : btk D ph pt pk st H qp rp) (hq : btk D ph pt pk st H qo ro) : mu_TV (mu_D (d + 3)) 412 [.inr (.inr (some 169)), .inr (.inr (some qp)), .inr (.inr (some qo))] H (fun H1 => sst tr Hb D ph pt pk pa mm st H1 ∧ gos D st H1 ∧ zfr D ph pt pk pa mm st (fun p => p = ro) H H1) := by
  refine mu_meth (M := mu_m412) rfl rfl ?_
  refine mw_ht (mu_fn_of (show [0, 1, 2].Nodup by decide)) ?_
  refine mw_go mu_g412 (k := 2) (f1 := (2, [(3, .inl (0 : Int32)), (0, .inr (.inr (some 169))), (1, .inr (.inr (some qp))), (2, .inr (.inr (some qo)))], [], H)) (C := []) rfl trivial ?_
  refine mw_sub (L' := [(3, .inl (nI 0)), (2, .inr (.inr (some qo))), (1, .inr (.inr (some qp))), (0, .inr (.inr (some 169)))]) (by intro x hx; simp only [List.mem_cons, List.not_mem_nil, or_false] at hx ⊢; rcases hx with rfl | rfl | rfl | rfl <;> simp [nI]) ?_
  exact rp_cp0 hNS (prd D (D.pr 1).length) 0 _ (Nat.zero_add _) hs hg hp hq zfr.rf
theorem rp_dn0 {tr : Prop} {Hb H0 : mu_H} {D : MD} {ph pt pk pa mm st d : Nat} (hNS : prd D (D.pr 1).length ≤ 16384) {qo ro : Nat} : ∀ m_ s H, s + m_ = (prd D (D.pr 1).length) → sst tr Hb D ph pt pk pa mm st H → gos D st H → btk D ph pt pk st H qo ro → zfr D ph pt pk pa mm st (fun p => p = ro) H0 H → mu_W (mu_D (d + 2)) mu_m413 (2, [(2, .inl (nI s)), (1, .inr (.inr (some qo))), (0, .inr (.inr (some 169)))], [], H) (fun r => ∃ H1, r = (.inl none, H1) ∧ sst tr Hb D ph pt pk pa mm st H1 ∧ gos D st H1 ∧ zfr D ph pt pk pa mm st (fun p => p = ro) H0 H1)
  | 0, s, H, hm_, hs, hg, hq, hf => by
    refine mw_go mu_g413 (k := 3) (f1 := (7, [(2, .inl (nI s)), (1, .inr (.inr (some qo))), (0, .inr (.inr (some 169)))], [.inl (mu_i H 169 28), .inl (nI s)], H)) (C := [mu_is H (some 169) 1]) rfl (show mu_is H (some 169) 1 from hs.1.1.2.2.1.1) ?_
    refine mw_fr (f' := (7, [(2, .inl (nI s)), (1, .inr (.inr (some qo))), (0, .inr (.inr (some 169)))], [.inl (nI (prd D (D.pr 1).length)), .inl (nI s)], H)) (by first | (rw [hs.2.2.1.2]; done) | (rw [hs.2.2.1.2]; rfl)) ?_
    refine mw_if (P := (nI s) < (nI (prd D (D.pr 1).length))) (a := 10) (b := 45) (fun _ => rfl) trivial (fun h1 => absurd h1 (by rw [show s = (prd D (D.pr 1).length) by omega]; exact Int32.lt_irrefl)) (fun h1 => ?_)
    exact mw_of (fun _ => mu_ret rfl trivial ⟨_, rfl, hs, hg, hf⟩)
  | m_ + 1, s, H, hm_, hs, hg, hq, hf => by
    have sl : s < (prd D (D.pr 1).length) := by omega
    have s14 : s < 16384 := by omega
    refine mw_go mu_g413 (k := 3) (f1 := (7, [(2, .inl (nI s)), (1, .inr (.inr (some qo))), (0, .inr (.inr (some 169)))], [.inl (mu_i H 169 28), .inl (nI s)], H)) (C := [mu_is H (some 169) 1]) rfl (show mu_is H (some 169) 1 from hs.1.1.2.2.1.1) ?_
    refine mw_fr (f' := (7, [(2, .inl (nI s)), (1, .inr (.inr (some qo))), (0, .inr (.inr (some 169)))], [.inl (nI (prd D (D.pr 1).length)), .inl (nI s)], H)) (by first | (rw [hs.2.2.1.2]; done) | (rw [hs.2.2.1.2]; rfl)) ?_
    refine mw_if (P := (nI s) < (nI (prd D (D.pr 1).length))) (a := 10) (b := 45) (fun _ => rfl) trivial (fun h1 => ?_) (fun h1 => absurd (nI_lt sl (by omega)) h1)
    refine mw_go mu_g413 (k := 4) (f1 := (16, [(2, .inl (nI s)), (1, .inr (.inr (some qo))), (0, .inr (.inr (some 169)))], [.inr (.inr (mu_r H 169 32)), .inl (nI s), .inr (.inr (some qo))], H)) (C := [mu_is H (some 169) 1]) rfl (show mu_is H (some 169) 1 from hs.1.1.2.2.1.1) ?_
    refine mw_fr (f' := (16, [(2, .inl (nI s)), (1, .inr (.inr (some qo))), (0, .inr (.inr (some 169)))], [.inr (.inr (some 183)), .inl (nI s), .inr (.inr (some qo))], H)) (by first | (rw [(show mu_r H 169 32 = some 183 from (rgd_bt (k := 0) hs.2.2.1.1 (by decide)).1)]; done) | (rw [(show mu_r H 169 32 = some 183 from (rgd_bt (k := 0) hs.2.2.1.1 (by decide)).1)]; rfl)) ?_
    refine mw_go mu_g413 (k := 1) (f1 := (17, [(2, .inl (nI s)), (1, .inr (.inr (some qo))), (0, .inr (.inr (some 169)))], [.inl (nI s), .inr (.inr (some 183)), .inl (nI s), .inr (.inr (some qo))], H)) (C := []) rfl trivial ?_
    refine mw_cIe (fun _ => rfl) (show mu_is H (some 183) 14 from (rgd_bt (k := 0) hs.2.2.1.1 (by decide)).2.1) (rp_has (d := d + 1) (show btr H 183 184 from (rgd_bt (k := 0) hs.2.2.1.1 (by decide)).2) s14) ?_
    refine mw_if (P := (bI (bst H 184 s)) = 0) (a := 35) (b := 23) (fun _ => rfl) trivial (fun h2 => ?_) (fun h2 => ?_)
    · -- 35
      refine mw_go mu_g413 (k := 1) (f1 := (36, [(2, .inl (nI s)), (1, .inr (.inr (some qo))), (0, .inr (.inr (some 169)))], [.inl (0 : Int32), .inl (nI s), .inr (.inr (some qo))], H)) (C := []) rfl trivial ?_
      refine mw_fr (f' := (36, [(2, .inl (nI s)), (1, .inr (.inr (some qo))), (0, .inr (.inr (some 169)))], [.inl (bI false), .inl (nI s), .inr (.inr (some qo))], H)) (rfl) ?_
      refine mw_cV (fun _ => rfl) (show mu_is H (some qo) 14 from hq.1.1) (rp_put (d := d) (v := false) hq.1 s14) (fun H1 q1 => ?_)
      obtain ⟨d1_1, d2_1, d3_1⟩ := sst.put (R := (fun p => p = ro)) hs hg hq q1 rfl
      have hf1 := zfr.tr2 hf d3_1
      have hq_1 := d3_1.2.2.1 _ _ hq
      refine mw_go mu_g413 (k := 2) (f1 := (2, [(2, .inl ((nI s) + 1)), (1, .inr (.inr (some qo))), (0, .inr (.inr (some 169)))], [], H1)) (C := []) rfl trivial ?_
      refine mw_sub (L' := [(2, .inl (nI (s + 1))), (1, .inr (.inr (some qo))), (0, .inr (.inr (some 169)))]) (by intro x hx; simp only [List.mem_cons, List.not_mem_nil, or_false] at hx ⊢; rcases hx with rfl | rfl | rfl <;> first | (simp [nI_add, show (1 : Int32) = nI 1 from rfl]; done) | simp [nI]) ?_
      exact rp_dn0 hNS m_ (s + 1) _ (by omega) d1_1 d2_1 hq_1 hf1
    · -- 23
      refine mw_go mu_g413 (k := 2) (f1 := (25, [(2, .inl (nI s)), (1, .inr (.inr (some qo))), (0, .inr (.inr (some 169)))], [.inl (nI s), .inr (.inr (some qo)), .inl (nI s), .inr (.inr (some qo))], H)) (C := []) rfl trivial ?_
      refine mw_cIe (fun _ => rfl) (show mu_is H (some qo) 14 from hq.1.1) (rp_has (d := d + 1) hq.1 s14) ?_
      refine mw_if (P := (bI (bst H ro s)) = 0) (a := 31) (b := 35) (fun _ => rfl) trivial (fun h3 => ?_) (fun h3 => ?_)
      · -- 31
        refine mw_go mu_g413 (k := 2) (f1 := (36, [(2, .inl (nI s)), (1, .inr (.inr (some qo))), (0, .inr (.inr (some 169)))], [.inl (1 : Int32), .inl (nI s), .inr (.inr (some qo))], H)) (C := []) rfl trivial ?_
        refine mw_fr (f' := (36, [(2, .inl (nI s)), (1, .inr (.inr (some qo))), (0, .inr (.inr (some 169)))], [.inl (bI true), .inl (nI s), .inr (.inr (some qo))], H)) (rfl) ?_
        refine mw_cV (fun _ => rfl) (show mu_is H (some qo) 14 from hq.1.1) (rp_put (d := d) (v := true) hq.1 s14) (fun H2 q2 => ?_)
        obtain ⟨d1_2, d2_2, d3_2⟩ := sst.put (R := (fun p => p = ro)) hs hg hq q2 rfl
        have hf2 := zfr.tr2 hf d3_2
        have hq_2 := d3_2.2.2.1 _ _ hq
        refine mw_go mu_g413 (k := 2) (f1 := (2, [(2, .inl ((nI s) + 1)), (1, .inr (.inr (some qo))), (0, .inr (.inr (some 169)))], [], H2)) (C := []) rfl trivial ?_
        refine mw_sub (L' := [(2, .inl (nI (s + 1))), (1, .inr (.inr (some qo))), (0, .inr (.inr (some 169)))]) (by intro x hx; simp only [List.mem_cons, List.not_mem_nil, or_false] at hx ⊢; rcases hx with rfl | rfl | rfl <;> first | (simp [nI_add, show (1 : Int32) = nI 1 from rfl]; done) | simp [nI]) ?_
        exact rp_dn0 hNS m_ (s + 1) _ (by omega) d1_2 d2_2 hq_2 hf2
      · -- 35
        refine mw_go mu_g413 (k := 1) (f1 := (36, [(2, .inl (nI s)), (1, .inr (.inr (some qo))), (0, .inr (.inr (some 169)))], [.inl (0 : Int32), .inl (nI s), .inr (.inr (some qo))], H)) (C := []) rfl trivial ?_
        refine mw_fr (f' := (36, [(2, .inl (nI s)), (1, .inr (.inr (some qo))), (0, .inr (.inr (some 169)))], [.inl (bI false), .inl (nI s), .inr (.inr (some qo))], H)) (rfl) ?_
        refine mw_cV (fun _ => rfl) (show mu_is H (some qo) 14 from hq.1.1) (rp_put (d := d) (v := false) hq.1 s14) (fun H3 q3 => ?_)
        obtain ⟨d1_3, d2_3, d3_3⟩ := sst.put (R := (fun p => p = ro)) hs hg hq q3 rfl
        have hf3 := zfr.tr2 hf d3_3
        have hq_3 := d3_3.2.2.1 _ _ hq
        refine mw_go mu_g413 (k := 2) (f1 := (2, [(2, .inl ((nI s) + 1)), (1, .inr (.inr (some qo))), (0, .inr (.inr (some 169)))], [], H3)) (C := []) rfl trivial ?_
        refine mw_sub (L' := [(2, .inl (nI (s + 1))), (1, .inr (.inr (some qo))), (0, .inr (.inr (some 169)))]) (by intro x hx; simp only [List.mem_cons, List.not_mem_nil, or_false] at hx ⊢; rcases hx with rfl | rfl | rfl <;> first | (simp [nI_add, show (1 : Int32) = nI 1 from rfl]; done) | simp [nI]) ?_
        exact rp_dn0 hNS m_ (s + 1) _ (by omega) d1_3 d2_3 hq_3 hf3
theorem rp_deny {tr : Prop} {Hb H : mu_H} {D : MD} {ph pt pk pa mm st d : Nat} (hNS : prd D (D.pr 1).length ≤ 16384) {qo ro : Nat} (hs : sst tr Hb D ph pt pk pa mm st H) (hg : gos D st H) (hq : btk D ph pt pk st H qo ro) : mu_TV (mu_D (d + 3)) 413 [.inr (.inr (some 169)), .inr (.inr (some qo))] H (fun H1 => sst tr Hb D ph pt pk pa mm st H1 ∧ gos D st H1 ∧ zfr D ph pt pk pa mm st (fun p => p = ro) H H1) := by
  refine mu_meth (M := mu_m413) rfl rfl ?_
  refine mw_ht (mu_fn_of (show [0, 1].Nodup by decide)) ?_
  refine mw_go mu_g413 (k := 2) (f1 := (2, [(2, .inl (0 : Int32)), (0, .inr (.inr (some 169))), (1, .inr (.inr (some qo)))], [], H)) (C := []) rfl trivial ?_
  refine mw_sub (L' := [(2, .inl (nI 0)), (1, .inr (.inr (some qo))), (0, .inr (.inr (some 169)))]) (by intro x hx; simp only [List.mem_cons, List.not_mem_nil, or_false] at hx ⊢; rcases hx with rfl | rfl | rfl <;> simp [nI]) ?_
  exact rp_dn0 hNS (prd D (D.pr 1).length) 0 _ (Nat.zero_add _) hs hg hq zfr.rf
