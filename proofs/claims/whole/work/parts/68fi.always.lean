/-! The reference: always, its loops -/
/-- PathProverModel.always(LPathProverModel$Bits;LPathProverModel$Bits;)V -/
abbrev mu_m416 : ev_M := (7, none, [], ev_b416)
theorem mu_g416 : mu_good mu_m416 := mu_goodk ev_k416
theorem cbz_clr {H H1 : mu_H} {r s : Nat} (h : ∀ t, t < 16384 → bst H1 r t = if t = s then false else bst H r t) (h0 : bst H r s = true) : ∀ n, n ≤ 16384 → cbz H1 r n = cbz H r n + (if s < n then 1 else 0)
  | 0, _ => by rw [if_neg (Nat.not_lt_zero _)]; rfl
  | n + 1, hn => by
    have i := cbz_clr h h0 n (by omega)
    show cbz H1 r n + (if bst H1 r n = true then 0 else 1) = cbz H r n + (if bst H r n = true then 0 else 1) + _
    rw [h n (by omega)]
    by_cases e : n = s
    · subst e
      rw [if_neg (Nat.lt_irrefl _)] at i
      rw [if_pos rfl, if_pos (Nat.lt_succ_self _), h0, if_neg (by decide), if_pos rfl]
      omega
    · rw [if_neg e]
      by_cases e2 : s < n
      · rw [if_pos e2] at i
        rw [if_pos (show s < n + 1 by omega)]
        omega
      · rw [if_neg e2] at i
        rw [if_neg (show ¬ s < n + 1 by omega)]
        omega
theorem rp_aw0 {tr : Prop} {Hb H0 : mu_H} {D : MD} {ph pt pk pa mm st f : Nat} (hb : mdb D) (hy : mdy D) (hmd : mdn D) (hNS : prd D (D.pr 1).length ≤ 16384) (hma : mda D) (hval : valk tr Hb D ph pt pk pa f) (hvw : mvw tr D) (hvt : valk True Hb D ph pt pk pa f) (hwt : mvw True D) (hfw : mvf tr D) {qo ro qg rg i : Nat} (hi : i < frs D) (hne : ro ≠ rg) {Φ : mu_R → Prop} {C : Nat} {mo : Int32} (hnx : ∀ H, sst tr Hb D ph pt pk pa mm st H → gos D st H → btk D ph pt pk st H qo ro → btk D ph pt pk st H qg rg → zfr D ph pt pk pa mm st (fun p => p = ro ∨ p = rg) H0 H → (cbz H ro (prd D (D.pr 1).length)) = C → mu_W (mu_D (f + 913)) mu_m416 (103, [(5, .inl (nI i)), (4, .inl mo), (3, .inr (.inr (some qg))), (2, .inr (.inr (some qo))), (0, .inr (.inr (some 169)))], [], H) Φ) : ∀ m_ s H, s + m_ = (prd D (D.pr 1).length) → sst tr Hb D ph pt pk pa mm st H → gos D st H → btk D ph pt pk st H qo ro → btk D ph pt pk st H qg rg → zfr D ph pt pk pa mm st (fun p => p = ro ∨ p = rg) H0 H → (cbz H ro (prd D (D.pr 1).length)) = C → mu_W (mu_D (f + 913)) mu_m416 (57, [(6, .inl (nI s)), (5, .inl (nI i)), (4, .inl mo), (3, .inr (.inr (some qg))), (2, .inr (.inr (some qo))), (0, .inr (.inr (some 169)))], [], H) Φ
  | 0, s, H, hm_, hs, hg, ho, hG, hf, hc => by
    refine mw_go mu_g416 (k := 3) (f1 := (63, [(6, .inl (nI s)), (5, .inl (nI i)), (4, .inl mo), (3, .inr (.inr (some qg))), (2, .inr (.inr (some qo))), (0, .inr (.inr (some 169)))], [.inl (mu_i H 169 28), .inl (nI s)], H)) (C := [mu_is H (some 169) 1]) rfl (show mu_is H (some 169) 1 from hs.1.1.2.2.1.1) ?_
    refine mw_fr (f' := (63, [(6, .inl (nI s)), (5, .inl (nI i)), (4, .inl mo), (3, .inr (.inr (some qg))), (2, .inr (.inr (some qo))), (0, .inr (.inr (some 169)))], [.inl (nI (prd D (D.pr 1).length)), .inl (nI s)], H)) (by first | (rw [hs.2.2.1.2]; done) | (rw [hs.2.2.1.2]; rfl)) ?_
    refine mw_if (P := (nI s) < (nI (prd D (D.pr 1).length))) (a := 66) (b := 103) (fun _ => rfl) trivial (fun h1 => absurd h1 (by rw [show s = (prd D (D.pr 1).length) by omega]; exact Int32.lt_irrefl)) (fun h1 => ?_)
    refine mw_sub (L' := [(5, .inl (nI i)), (4, .inl mo), (3, .inr (.inr (some qg))), (2, .inr (.inr (some qo))), (0, .inr (.inr (some 169)))]) (by simp) ?_
    exact hnx _ hs hg ho hG hf hc
  | m_ + 1, s, H, hm_, hs, hg, ho, hG, hf, hc => by
    have sl : s < (prd D (D.pr 1).length) := by omega
    have s14 : s < 16384 := by omega
    refine mw_go mu_g416 (k := 3) (f1 := (63, [(6, .inl (nI s)), (5, .inl (nI i)), (4, .inl mo), (3, .inr (.inr (some qg))), (2, .inr (.inr (some qo))), (0, .inr (.inr (some 169)))], [.inl (mu_i H 169 28), .inl (nI s)], H)) (C := [mu_is H (some 169) 1]) rfl (show mu_is H (some 169) 1 from hs.1.1.2.2.1.1) ?_
    refine mw_fr (f' := (63, [(6, .inl (nI s)), (5, .inl (nI i)), (4, .inl mo), (3, .inr (.inr (some qg))), (2, .inr (.inr (some qo))), (0, .inr (.inr (some 169)))], [.inl (nI (prd D (D.pr 1).length)), .inl (nI s)], H)) (by first | (rw [hs.2.2.1.2]; done) | (rw [hs.2.2.1.2]; rfl)) ?_
    refine mw_if (P := (nI s) < (nI (prd D (D.pr 1).length))) (a := 66) (b := 103) (fun _ => rfl) trivial (fun h1 => ?_) (fun h1 => absurd (nI_lt sl (by omega)) h1)
    refine mw_go mu_g416 (k := 4) (f1 := (72, [(6, .inl (nI s)), (5, .inl (nI i)), (4, .inl mo), (3, .inr (.inr (some qg))), (2, .inr (.inr (some qo))), (0, .inr (.inr (some 169)))], [.inl (nI s), .inr (.inr (some qo)), .inl (nI s), .inr (.inr (some qg))], H)) (C := []) rfl trivial ?_
    refine mw_cIe (fun _ => rfl) (show mu_is H (some qo) 14 from ho.1.1) (rp_has (d := f + 912) ho.1 s14) ?_
    refine mw_if (P := (bI (bst H ro s)) = 0) (a := 93) (b := 78) (fun _ => rfl) trivial (fun h2 => ?_) (fun h2 => ?_)
    · -- 93
      refine mw_go mu_g416 (k := 1) (f1 := (94, [(6, .inl (nI s)), (5, .inl (nI i)), (4, .inl mo), (3, .inr (.inr (some qg))), (2, .inr (.inr (some qo))), (0, .inr (.inr (some 169)))], [.inl (0 : Int32), .inl (nI s), .inr (.inr (some qg))], H)) (C := []) rfl trivial ?_
      refine mw_fr (f' := (94, [(6, .inl (nI s)), (5, .inl (nI i)), (4, .inl mo), (3, .inr (.inr (some qg))), (2, .inr (.inr (some qo))), (0, .inr (.inr (some 169)))], [.inl (bI false), .inl (nI s), .inr (.inr (some qg))], H)) (rfl) ?_
      refine mw_cV (fun _ => rfl) (show mu_is H (some qg) 14 from hG.1.1) (rp_put (d := f + 911) (v := false) hG.1 s14) (fun H1 q1 => ?_)
      obtain ⟨s1_1, g1_1, gz1⟩ := sst.put (R := (fun p => p = ro ∨ p = rg)) hs hg hG q1 (Or.inr rfl)
      have ho1 := gz1.2.2.1 _ _ ho
      have hG1 := gz1.2.2.1 _ _ hG
      have hf1 := zfr.tr2 hf gz1
      obtain ⟨_, _, gy1⟩ := sst.put (R := fun p => p = rg) hs hg hG q1 rfl
      have hc1 : (cbz H1 ro (prd D (D.pr 1).length)) = (cbz H ro (prd D (D.pr 1).length)) := cbz_cg _ (fun s _ => gy1.2.2.2 _ _ ho hne s)
      refine mw_go mu_g416 (k := 2) (f1 := (57, [(6, .inl ((nI s) + 1)), (5, .inl (nI i)), (4, .inl mo), (3, .inr (.inr (some qg))), (2, .inr (.inr (some qo))), (0, .inr (.inr (some 169)))], [], H1)) (C := []) rfl trivial ?_
      refine mw_sub (L' := [(6, .inl (nI (s + 1))), (5, .inl (nI i)), (4, .inl mo), (3, .inr (.inr (some qg))), (2, .inr (.inr (some qo))), (0, .inr (.inr (some 169)))]) (by intro x hx; simp only [List.mem_cons, List.not_mem_nil, or_false] at hx ⊢; rcases hx with rfl | rfl | rfl | rfl | rfl | rfl <;> first | (simp [nI_add, show (1 : Int32) = nI 1 from rfl]; done) | simp [nI]) ?_
      exact rp_aw0 hb hy hmd hNS hma hval hvw hvt hwt hfw hi hne hnx m_ (s + 1) _ (by omega) s1_1 g1_1 ho1 hG1 hf1 (by rw [hc1]; exact hc)
    · -- 78
      refine mw_go mu_g416 (k := 3) (f1 := (83, [(6, .inl (nI s)), (5, .inl (nI i)), (4, .inl mo), (3, .inr (.inr (some qg))), (2, .inr (.inr (some qo))), (0, .inr (.inr (some 169)))], [.inl (nI s), .inl (nI i), .inr (.inr (some 169)), .inl (nI s), .inr (.inr (some qg))], H)) (C := []) rfl trivial ?_
      refine mw_cI (fun _ => rfl) (show mu_is H (some 169) 1 from hs.1.1.2.2.1.1) (mu_TI.up (show f + 7 ≤ f + 913 by omega) (rp_fairAt hb hy hmd hval hfw hs hg hi s14)) (fun x2 H2 q2 => ?_)
      obtain ⟨x0_2, s1_2, g1_2, f1_2⟩ := q2
      have gz2 := gfr.zf (R := (fun p => p = ro ∨ p = rg)) f1_2 hs
      have gy2 := gfr.zf (R := fun _ => False) f1_2 hs
      have ho2 := gz2.2.2.1 _ _ ho
      have hG2 := gz2.2.2.1 _ _ hG
      have bq2 : ∀ s, bst H2 ro s = bst H ro s := gy2.2.2.2 _ _ ho id
      have hf2 := zfr.tr2 hf gz2
      have hc2 : (cbz H2 ro (prd D (D.pr 1).length)) = (cbz H ro (prd D (D.pr 1).length)) := cbz_cg _ (fun s _ => bq2 s)
      refine mw_if (P := x2 = 0) (a := 93) (b := 89) (fun _ => rfl) trivial (fun h3 => ?_) (fun h3 => ?_)
      · -- 93
        refine mw_go mu_g416 (k := 1) (f1 := (94, [(6, .inl (nI s)), (5, .inl (nI i)), (4, .inl mo), (3, .inr (.inr (some qg))), (2, .inr (.inr (some qo))), (0, .inr (.inr (some 169)))], [.inl (0 : Int32), .inl (nI s), .inr (.inr (some qg))], H2)) (C := []) rfl trivial ?_
        refine mw_fr (f' := (94, [(6, .inl (nI s)), (5, .inl (nI i)), (4, .inl mo), (3, .inr (.inr (some qg))), (2, .inr (.inr (some qo))), (0, .inr (.inr (some 169)))], [.inl (bI false), .inl (nI s), .inr (.inr (some qg))], H2)) (rfl) ?_
        refine mw_cV (fun _ => rfl) (show mu_is H2 (some qg) 14 from hG2.1.1) (rp_put (d := f + 911) (v := false) hG2.1 s14) (fun H3 q3 => ?_)
        obtain ⟨s1_3, g1_3, gz3⟩ := sst.put (R := (fun p => p = ro ∨ p = rg)) s1_2 g1_2 hG2 q3 (Or.inr rfl)
        have ho3 := gz3.2.2.1 _ _ ho2
        have hG3 := gz3.2.2.1 _ _ hG2
        have hf3 := zfr.tr2 hf2 gz3
        obtain ⟨_, _, gy3⟩ := sst.put (R := fun p => p = rg) s1_2 g1_2 hG2 q3 rfl
        have hc3 : (cbz H3 ro (prd D (D.pr 1).length)) = (cbz H2 ro (prd D (D.pr 1).length)) := cbz_cg _ (fun s _ => gy3.2.2.2 _ _ ho2 hne s)
        refine mw_go mu_g416 (k := 2) (f1 := (57, [(6, .inl ((nI s) + 1)), (5, .inl (nI i)), (4, .inl mo), (3, .inr (.inr (some qg))), (2, .inr (.inr (some qo))), (0, .inr (.inr (some 169)))], [], H3)) (C := []) rfl trivial ?_
        refine mw_sub (L' := [(6, .inl (nI (s + 1))), (5, .inl (nI i)), (4, .inl mo), (3, .inr (.inr (some qg))), (2, .inr (.inr (some qo))), (0, .inr (.inr (some 169)))]) (by intro x hx; simp only [List.mem_cons, List.not_mem_nil, or_false] at hx ⊢; rcases hx with rfl | rfl | rfl | rfl | rfl | rfl <;> first | (simp [nI_add, show (1 : Int32) = nI 1 from rfl]; done) | simp [nI]) ?_
        exact rp_aw0 hb hy hmd hNS hma hval hvw hvt hwt hfw hi hne hnx m_ (s + 1) _ (by omega) s1_3 g1_3 ho3 hG3 hf3 (by rw [(hc3.trans hc2)]; exact hc)
      · -- 89
        refine mw_go mu_g416 (k := 2) (f1 := (94, [(6, .inl (nI s)), (5, .inl (nI i)), (4, .inl mo), (3, .inr (.inr (some qg))), (2, .inr (.inr (some qo))), (0, .inr (.inr (some 169)))], [.inl (1 : Int32), .inl (nI s), .inr (.inr (some qg))], H2)) (C := []) rfl trivial ?_
        refine mw_fr (f' := (94, [(6, .inl (nI s)), (5, .inl (nI i)), (4, .inl mo), (3, .inr (.inr (some qg))), (2, .inr (.inr (some qo))), (0, .inr (.inr (some 169)))], [.inl (bI true), .inl (nI s), .inr (.inr (some qg))], H2)) (rfl) ?_
        refine mw_cV (fun _ => rfl) (show mu_is H2 (some qg) 14 from hG2.1.1) (rp_put (d := f + 911) (v := true) hG2.1 s14) (fun H4 q4 => ?_)
        obtain ⟨s1_4, g1_4, gz4⟩ := sst.put (R := (fun p => p = ro ∨ p = rg)) s1_2 g1_2 hG2 q4 (Or.inr rfl)
        have ho4 := gz4.2.2.1 _ _ ho2
        have hG4 := gz4.2.2.1 _ _ hG2
        have hf4 := zfr.tr2 hf2 gz4
        obtain ⟨_, _, gy4⟩ := sst.put (R := fun p => p = rg) s1_2 g1_2 hG2 q4 rfl
        have hc4 : (cbz H4 ro (prd D (D.pr 1).length)) = (cbz H2 ro (prd D (D.pr 1).length)) := cbz_cg _ (fun s _ => gy4.2.2.2 _ _ ho2 hne s)
        refine mw_go mu_g416 (k := 2) (f1 := (57, [(6, .inl ((nI s) + 1)), (5, .inl (nI i)), (4, .inl mo), (3, .inr (.inr (some qg))), (2, .inr (.inr (some qo))), (0, .inr (.inr (some 169)))], [], H4)) (C := []) rfl trivial ?_
        refine mw_sub (L' := [(6, .inl (nI (s + 1))), (5, .inl (nI i)), (4, .inl mo), (3, .inr (.inr (some qg))), (2, .inr (.inr (some qo))), (0, .inr (.inr (some 169)))]) (by intro x hx; simp only [List.mem_cons, List.not_mem_nil, or_false] at hx ⊢; rcases hx with rfl | rfl | rfl | rfl | rfl | rfl <;> first | (simp [nI_add, show (1 : Int32) = nI 1 from rfl]; done) | simp [nI]) ?_
        exact rp_aw0 hb hy hmd hNS hma hval hvw hvt hwt hfw hi hne hnx m_ (s + 1) _ (by omega) s1_4 g1_4 ho4 hG4 hf4 (by rw [(hc4.trans hc2)]; exact hc)
theorem rp_aw1 {tr : Prop} {Hb H0 : mu_H} {D : MD} {ph pt pk pa mm st f : Nat} (hb : mdb D) (hy : mdy D) (hmd : mdn D) (hNS : prd D (D.pr 1).length ≤ 16384) (hma : mda D) (hval : valk tr Hb D ph pt pk pa f) (hvw : mvw tr D) (hvt : valk True Hb D ph pt pk pa f) (hwt : mvw True D) (hfw : mvf tr D) {qo ro qg rg i : Nat} (hi : i < frs D) (hne : ro ≠ rg) {Φ : mu_R → Prop} {C : Nat} (hnx : ∀ mo H, sst tr Hb D ph pt pk pa mm st H → gos D st H → btk D ph pt pk st H qo ro → btk D ph pt pk st H qg rg → zfr D ph pt pk pa mm st (fun p => p = ro ∨ p = rg) H0 H → (mo = 0 ∧ (cbz H ro (prd D (D.pr 1).length)) = C ∨ mo = 1 ∧ C < (cbz H ro (prd D (D.pr 1).length))) → mu_W (mu_D (f + 913)) mu_m416 (159, [(5, .inl (nI i)), (4, .inl mo), (3, .inr (.inr (some qg))), (2, .inr (.inr (some qo))), (0, .inr (.inr (some 169)))], [], H) Φ) : ∀ m_ s mo H, s + m_ = (prd D (D.pr 1).length) → sst tr Hb D ph pt pk pa mm st H → gos D st H → btk D ph pt pk st H qo ro → btk D ph pt pk st H qg rg → zfr D ph pt pk pa mm st (fun p => p = ro ∨ p = rg) H0 H → (mo = 0 ∧ (cbz H ro (prd D (D.pr 1).length)) = C ∨ mo = 1 ∧ C < (cbz H ro (prd D (D.pr 1).length))) → mu_W (mu_D (f + 913)) mu_m416 (112, [(6, .inl (nI s)), (5, .inl (nI i)), (4, .inl mo), (3, .inr (.inr (some qg))), (2, .inr (.inr (some qo))), (0, .inr (.inr (some 169)))], [], H) Φ
  | 0, s, mo, H, hm_, hs, hg, ho, hG, hf, hc => by
    refine mw_go mu_g416 (k := 3) (f1 := (118, [(6, .inl (nI s)), (5, .inl (nI i)), (4, .inl mo), (3, .inr (.inr (some qg))), (2, .inr (.inr (some qo))), (0, .inr (.inr (some 169)))], [.inl (mu_i H 169 28), .inl (nI s)], H)) (C := [mu_is H (some 169) 1]) rfl (show mu_is H (some 169) 1 from hs.1.1.2.2.1.1) ?_
    refine mw_fr (f' := (118, [(6, .inl (nI s)), (5, .inl (nI i)), (4, .inl mo), (3, .inr (.inr (some qg))), (2, .inr (.inr (some qo))), (0, .inr (.inr (some 169)))], [.inl (nI (prd D (D.pr 1).length)), .inl (nI s)], H)) (by first | (rw [hs.2.2.1.2]; done) | (rw [hs.2.2.1.2]; rfl)) ?_
    refine mw_if (P := (nI s) < (nI (prd D (D.pr 1).length))) (a := 121) (b := 159) (fun _ => rfl) trivial (fun h1 => absurd h1 (by rw [show s = (prd D (D.pr 1).length) by omega]; exact Int32.lt_irrefl)) (fun h1 => ?_)
    refine mw_sub (L' := [(5, .inl (nI i)), (4, .inl mo), (3, .inr (.inr (some qg))), (2, .inr (.inr (some qo))), (0, .inr (.inr (some 169)))]) (by simp) ?_
    exact hnx _ _ hs hg ho hG hf hc
  | m_ + 1, s, mo, H, hm_, hs, hg, ho, hG, hf, hc => by
    have sl : s < (prd D (D.pr 1).length) := by omega
    have s14 : s < 16384 := by omega
    refine mw_go mu_g416 (k := 3) (f1 := (118, [(6, .inl (nI s)), (5, .inl (nI i)), (4, .inl mo), (3, .inr (.inr (some qg))), (2, .inr (.inr (some qo))), (0, .inr (.inr (some 169)))], [.inl (mu_i H 169 28), .inl (nI s)], H)) (C := [mu_is H (some 169) 1]) rfl (show mu_is H (some 169) 1 from hs.1.1.2.2.1.1) ?_
    refine mw_fr (f' := (118, [(6, .inl (nI s)), (5, .inl (nI i)), (4, .inl mo), (3, .inr (.inr (some qg))), (2, .inr (.inr (some qo))), (0, .inr (.inr (some 169)))], [.inl (nI (prd D (D.pr 1).length)), .inl (nI s)], H)) (by first | (rw [hs.2.2.1.2]; done) | (rw [hs.2.2.1.2]; rfl)) ?_
    refine mw_if (P := (nI s) < (nI (prd D (D.pr 1).length))) (a := 121) (b := 159) (fun _ => rfl) trivial (fun h1 => ?_) (fun h1 => absurd (nI_lt sl (by omega)) h1)
    refine mw_go mu_g416 (k := 2) (f1 := (124, [(6, .inl (nI s)), (5, .inl (nI i)), (4, .inl mo), (3, .inr (.inr (some qg))), (2, .inr (.inr (some qo))), (0, .inr (.inr (some 169)))], [.inl (nI s), .inr (.inr (some qo))], H)) (C := []) rfl trivial ?_
    refine mw_cIe (fun _ => rfl) (show mu_is H (some qo) 14 from ho.1.1) (rp_has (d := f + 912) ho.1 s14) ?_
    refine mw_if (P := (bI (bst H ro s)) = 0) (a := 153) (b := 130) (fun _ => rfl) trivial (fun h2 => ?_) (fun h2 => ?_)
    · -- 153
      refine mw_go mu_g416 (k := 2) (f1 := (112, [(6, .inl ((nI s) + 1)), (5, .inl (nI i)), (4, .inl mo), (3, .inr (.inr (some qg))), (2, .inr (.inr (some qo))), (0, .inr (.inr (some 169)))], [], H)) (C := []) rfl trivial ?_
      refine mw_sub (L' := [(6, .inl (nI (s + 1))), (5, .inl (nI i)), (4, .inl mo), (3, .inr (.inr (some qg))), (2, .inr (.inr (some qo))), (0, .inr (.inr (some 169)))]) (by intro x hx; simp only [List.mem_cons, List.not_mem_nil, or_false] at hx ⊢; rcases hx with rfl | rfl | rfl | rfl | rfl | rfl <;> first | (simp [nI_add, show (1 : Int32) = nI 1 from rfl]; done) | simp [nI]) ?_
      exact rp_aw1 hb hy hmd hNS hma hval hvw hvt hwt hfw hi hne hnx m_ (s + 1) _ _ (by omega) hs hg ho hG hf hc
    · -- 130
      have bt : bst H ro s = true := by
        cases g : bst H ro s with
        | true => rfl
        | false => rw [g] at h2; exact absurd rfl h2
      refine mw_go mu_g416 (k := 3) (f1 := (134, [(6, .inl (nI s)), (5, .inl (nI i)), (4, .inl mo), (3, .inr (.inr (some qg))), (2, .inr (.inr (some qo))), (0, .inr (.inr (some 169)))], [.inr (.inr (some qg)), .inl (nI s), .inr (.inr (some 169))], H)) (C := []) rfl trivial ?_
      refine mw_cI (fun _ => rfl) (show mu_is H (some 169) 1 from hs.1.1.2.2.1.1) (mu_TI.up (show f + 912 ≤ f + 913 by omega) (rp_leads hb hy hmd hNS hma hval hvw hvt hwt hs hg sl hG)) (fun x1 H1 q1 => ?_)
      obtain ⟨x0_1, s1_1, g1_1, f1_1⟩ := q1
      have gz1 := gfr.zf (R := (fun p => p = ro ∨ p = rg)) f1_1 hs
      have gy1 := gfr.zf (R := fun _ => False) f1_1 hs
      have ho1 := gz1.2.2.1 _ _ ho
      have hG1 := gz1.2.2.1 _ _ hG
      have bq1 : ∀ s, bst H1 ro s = bst H ro s := gy1.2.2.2 _ _ ho id
      have hf1 := zfr.tr2 hf gz1
      have hc1 : (cbz H1 ro (prd D (D.pr 1).length)) = (cbz H ro (prd D (D.pr 1).length)) := cbz_cg _ (fun s _ => bq1 s)
      refine mw_if (P := x1 = 0) (a := 143) (b := 140) (fun _ => rfl) trivial (fun h3 => ?_) (fun h3 => ?_)
      · -- 143
        refine mw_go mu_g416 (k := 3) (f1 := (147, [(6, .inl (nI s)), (5, .inl (nI i)), (4, .inl mo), (3, .inr (.inr (some qg))), (2, .inr (.inr (some qo))), (0, .inr (.inr (some 169)))], [.inl (0 : Int32), .inl (nI s), .inr (.inr (some qo))], H1)) (C := []) rfl trivial ?_
        refine mw_fr (f' := (147, [(6, .inl (nI s)), (5, .inl (nI i)), (4, .inl mo), (3, .inr (.inr (some qg))), (2, .inr (.inr (some qo))), (0, .inr (.inr (some 169)))], [.inl (bI false), .inl (nI s), .inr (.inr (some qo))], H1)) (rfl) ?_
        refine mw_cV (fun _ => rfl) (show mu_is H1 (some qo) 14 from ho1.1.1) (rp_put (d := f + 911) (v := false) ho1.1 s14) (fun H2 q2 => ?_)
        obtain ⟨s1_2, g1_2, gz2⟩ := sst.put (R := (fun p => p = ro ∨ p = rg)) s1_1 g1_1 ho1 q2 (Or.inl rfl)
        have ho2 := gz2.2.2.1 _ _ ho1
        have hG2 := gz2.2.2.1 _ _ hG1
        have hf2 := zfr.tr2 hf1 gz2
        have cp := cbz_clr q2.2 (by rw [bq1]; exact bt) (prd D (D.pr 1).length) hNS
        rw [if_pos sl, hc1] at cp
        have hc4 : (1 : Int32) = 0 ∧ (cbz H2 ro (prd D (D.pr 1).length)) = C ∨ (1 : Int32) = 1 ∧ C < (cbz H2 ro (prd D (D.pr 1).length)) := Or.inr ⟨rfl, by rcases hc with z | z <;> omega⟩
        refine mw_go mu_g416 (k := 4) (f1 := (112, [(6, .inl ((nI s) + 1)), (4, .inl (1 : Int32)), (5, .inl (nI i)), (3, .inr (.inr (some qg))), (2, .inr (.inr (some qo))), (0, .inr (.inr (some 169)))], [], H2)) (C := []) rfl trivial ?_
        refine mw_sub (L' := [(6, .inl (nI (s + 1))), (5, .inl (nI i)), (4, .inl (1 : Int32)), (3, .inr (.inr (some qg))), (2, .inr (.inr (some qo))), (0, .inr (.inr (some 169)))]) (by intro x hx; simp only [List.mem_cons, List.not_mem_nil, or_false] at hx ⊢; rcases hx with rfl | rfl | rfl | rfl | rfl | rfl <;> first | (simp [nI_add, show (1 : Int32) = nI 1 from rfl]; done) | simp [nI]) ?_
        exact rp_aw1 hb hy hmd hNS hma hval hvw hvt hwt hfw hi hne hnx m_ (s + 1) _ _ (by omega) s1_2 g1_2 ho2 hG2 hf2 hc4
      · -- 140
        refine mw_go mu_g416 (k := 3) (f1 := (112, [(6, .inl ((nI s) + 1)), (5, .inl (nI i)), (4, .inl mo), (3, .inr (.inr (some qg))), (2, .inr (.inr (some qo))), (0, .inr (.inr (some 169)))], [], H1)) (C := []) rfl trivial ?_
        refine mw_sub (L' := [(6, .inl (nI (s + 1))), (5, .inl (nI i)), (4, .inl mo), (3, .inr (.inr (some qg))), (2, .inr (.inr (some qo))), (0, .inr (.inr (some 169)))]) (by intro x hx; simp only [List.mem_cons, List.not_mem_nil, or_false] at hx ⊢; rcases hx with rfl | rfl | rfl | rfl | rfl | rfl <;> first | (simp [nI_add, show (1 : Int32) = nI 1 from rfl]; done) | simp [nI]) ?_
        exact rp_aw1 hb hy hmd hNS hma hval hvw hvt hwt hfw hi hne hnx m_ (s + 1) _ _ (by omega) s1_1 g1_1 ho1 hG1 hf1 (by rw [hc1]; exact hc)
