/-! The reference: leads, degree, grow -/
/-- PathProverModel.leads(ILPathProverModel$Bits;)Z -/
abbrev mu_m422 : ev_M := (4, (some .boolean), [], ev_b422)
theorem mu_g422 : mu_good mu_m422 := mu_goodk ev_k422
/-- PathProverModel.grow(LPathProverModel$Bits;LPathProverModel$Bits;)V -/
abbrev mu_m421 : ev_M := (5, none, [], ev_b421)
theorem mu_g421 : mu_good mu_m421 := mu_goodk ev_k421
/-- PathProverModel.degree(I)I -/
abbrev mu_m445 : ev_M := (3, (some .int), [], ev_b445)
theorem mu_g445 : mu_good mu_m445 := mu_goodk ev_k445
theorem rp_ldE {tr : Prop} {Hb H0 H : mu_H} {D : MD} {ph pt pk pa mm st f q m : Nat} (hs : sst tr Hb D ph pt pk pa mm st H) (hi : itr D st m H) (hf : gfr D ph pt pk pa mm st H0 H) : mu_W (mu_D (f + 911)) mu_m422 (10, [(3, .inl (-1 : Int32)), (2, .inr (.inr (some q))), (0, .inr (.inr (some 169)))], [], H) (fun r => ∃ x H1, r = (.inl (some (.inl x)), H1) ∧ (x = 0 ∨ x = 1) ∧ sst tr Hb D ph pt pk pa mm st H1 ∧ gos D st H1 ∧ gfr D ph pt pk pa mm st H0 H1) := by
  refine mw_go mu_g422 (k := 1) (f1 := (11, [(3, .inl (-1 : Int32)), (2, .inr (.inr (some q))), (0, .inr (.inr (some 169)))], [.inl (-1 : Int32)], H)) (C := []) rfl trivial ?_
  refine mw_if (P := (-1 : Int32) < 0) (a := 32) (b := 14) (fun _ => rfl) trivial (fun h1 => ?_) (fun h1 => absurd (show (-1 : Int32) < 0 by decide) h1)
  refine mw_go mu_g422 (k := 1) (f1 := (33, [(3, .inl (-1 : Int32)), (2, .inr (.inr (some q))), (0, .inr (.inr (some 169)))], [.inl (0 : Int32)], H)) (C := []) rfl trivial ?_
  exact mw_of (fun _ => mu_ret rfl (Or.inl rfl) ⟨_, _, rfl, Or.inl rfl, hs, hi.gos, hf⟩)
theorem rp_ld0 {tr : Prop} {Hb H0 : mu_H} {D : MD} {ph pt pk pa mm st f q r : Nat} (hb : mdb D) (hy : mdy D) (hmd : mdn D) (hNS : prd D (D.pr 1).length ≤ 16384) (hvt : valk True Hb D ph pt pk pa f) (hwt : mvw True D) : ∀ m t H, t < (prd D (D.pr 1).length) → btk D ph pt pk st H q r → sst tr Hb D ph pt pk pa mm st H → itr D st m H → gfr D ph pt pk pa mm st H0 H → mu_W (mu_D (f + 911)) mu_m422 (10, [(3, .inl (nI t)), (2, .inr (.inr (some q))), (0, .inr (.inr (some 169)))], [], H) (fun r => ∃ x H1, r = (.inl (some (.inl x)), H1) ∧ (x = 0 ∨ x = 1) ∧ sst tr Hb D ph pt pk pa mm st H1 ∧ gos D st H1 ∧ gfr D ph pt pk pa mm st H0 H1)
  | m, t, H, ht, hq, hs, hi, hf => by
     refine mw_go mu_g422 (k := 1) (f1 := (11, [(3, .inl (nI t)), (2, .inr (.inr (some q))), (0, .inr (.inr (some 169)))], [.inl (nI t)], H)) (C := []) rfl trivial ?_
     refine mw_if (P := (nI t) < 0) (a := 32) (b := 14) (fun _ => rfl) trivial (fun h1 => absurd h1 (nI_nn (by omega))) (fun h1 => ?_)
     refine mw_go mu_g422 (k := 2) (f1 := (16, [(3, .inl (nI t)), (2, .inr (.inr (some q))), (0, .inr (.inr (some 169)))], [.inl (nI t), .inr (.inr (some q))], H)) (C := []) rfl trivial ?_
     refine mw_cIe (fun _ => rfl) (show mu_is H (some q) 14 from hq.1.1) (rp_has (d := f + 910) hq.1 (show t < 16384 by omega)) ?_
     refine mw_if (P := (bI (bst H r t)) = 0) (a := 24) (b := 22) (fun _ => rfl) trivial (fun h2 => ?_) (fun h2 => ?_)
     · -- 24
       refine mw_go mu_g422 (k := 1) (f1 := (25, [(3, .inl (nI t)), (2, .inr (.inr (some q))), (0, .inr (.inr (some 169)))], [.inr (.inr (some 169))], H)) (C := []) rfl trivial ?_
       refine mw_cI (fun _ => rfl) (show mu_is H (some 169) 1 from hs.1.1.2.2.1.1) (rp_next hb hy hmd hNS hvt hwt hs hi) (fun x5 H5 q5 => ?_)
       obtain ⟨c1, c2, c3⟩ := q5
       have gz := gfr.zf (R := fun _ => False) c2 hs
       refine mw_go mu_g422 (k := 2) (f1 := (10, [(3, .inl x5), (2, .inr (.inr (some q))), (0, .inr (.inr (some 169)))], [], H5)) (C := []) rfl trivial ?_
       refine mw_sub (L' := [(3, .inl x5), (2, .inr (.inr (some q))), (0, .inr (.inr (some 169)))]) (by simp) ?_
       rcases c3 with ⟨e, i2⟩ | ⟨t2, m', e, t3, m2, i2⟩
       · subst e; exact rp_ldE c1 i2 (gfr.tr2 hf c2)
       · subst m2
         subst e; exact rp_ld0 hb hy hmd hNS hvt hwt m' t2 _ t3 (gz.2.2.1 _ _ hq) c1 i2 (gfr.tr2 hf c2)
     · -- 22
       refine mw_go mu_g422 (k := 1) (f1 := (23, [(3, .inl (nI t)), (2, .inr (.inr (some q))), (0, .inr (.inr (some 169)))], [.inl (1 : Int32)], H)) (C := []) rfl trivial ?_
       exact mw_of (fun _ => mu_ret rfl (Or.inr rfl) ⟨_, _, rfl, Or.inr rfl, hs, hi.gos, hf⟩)
termination_by m => m
decreasing_by omega
theorem rp_leads {tr : Prop} {Hb H : mu_H} {D : MD} {ph pt pk pa mm st f : Nat} (hb : mdb D) (hy : mdy D) (hmd : mdn D) (hNS : prd D (D.pr 1).length ≤ 16384) (hma : mda D) (hval : valk tr Hb D ph pt pk pa f) (hvw : mvw tr D) (hvt : valk True Hb D ph pt pk pa f) (hwt : mvw True D) {s q r : Nat} (hs : sst tr Hb D ph pt pk pa mm st H) (hg : gos D st H) (hsl : s < (prd D (D.pr 1).length)) (hq : btk D ph pt pk st H q r) : mu_TI (mu_D (f + 912)) 422 [.inr (.inr (some 169)), .inl (nI s), .inr (.inr (some q))] H (fun x H1 => (x = 0 ∨ x = 1) ∧ sst tr Hb D ph pt pk pa mm st H1 ∧ gos D st H1 ∧ gfr D ph pt pk pa mm st H H1) := by
  refine mu_meth (M := mu_m422) rfl rfl ?_
  refine mw_ht (mu_fn_of (show [0, 1, 2].Nodup by decide)) ?_
  refine mw_go mu_g422 (k := 2) (f1 := (2, [(0, .inr (.inr (some 169))), (1, .inl (nI s)), (2, .inr (.inr (some q)))], [.inl (nI s), .inr (.inr (some 169))], H)) (C := []) rfl trivial ?_
  refine mw_cV (fun _ => rfl) (show mu_is H (some 169) 1 from hs.1.1.2.2.1.1) (rp_begin hb hy hmd hNS hma hval hvw hs hg hsl) (fun H7 q7 => ?_)
  obtain ⟨c1, ⟨m, c2⟩, c3⟩ := q7
  have gz := gfr.zf (R := fun _ => False) c3 hs
  have hq7 := gz.2.2.1 _ _ hq
  refine mw_go mu_g422 (k := 1) (f1 := (6, [(0, .inr (.inr (some 169))), (1, .inl (nI s)), (2, .inr (.inr (some q)))], [.inr (.inr (some 169))], H7)) (C := []) rfl trivial ?_
  refine mw_cI (fun _ => rfl) (show mu_is H7 (some 169) 1 from c1.1.1.2.2.1.1) (rp_next hb hy hmd hNS hvt hwt c1 c2) (fun x5 H5 q5 => ?_)
  obtain ⟨d1, d2, d3⟩ := q5
  have gz2 := gfr.zf (R := fun _ => False) d2 c1
  have hq5 := gz2.2.2.1 _ _ hq7
  refine mw_go mu_g422 (k := 1) (f1 := (10, [(3, .inl x5), (0, .inr (.inr (some 169))), (1, .inl (nI s)), (2, .inr (.inr (some q)))], [], H5)) (C := []) rfl trivial ?_
  refine mw_sub (L' := [(3, .inl x5), (2, .inr (.inr (some q))), (0, .inr (.inr (some 169)))]) (by simp) ?_
  rcases d3 with ⟨e, i2⟩ | ⟨t2, m', e, t3, m2, i2⟩
  · subst e; exact rp_ldE d1 i2 (gfr.tr2 c3 d2)
  · subst e; exact rp_ld0 hb hy hmd hNS hvt hwt m' t2 _ t3 hq5 d1 i2 (gfr.tr2 c3 d2)
