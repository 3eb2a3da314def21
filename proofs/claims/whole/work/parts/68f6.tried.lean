/-! The reference: tried -/
/-- PathProverModel.tried(I)I -/
abbrev mu_m425 : ev_M := (3, (some .int), [], ev_b425)
theorem mu_g425 : mu_good mu_m425 := mu_goodk ev_k425
/-- what trying a STATE changes -/
def tff (pt pk pa : Nat) (H H1 : mu_H) : Prop := rfr [19, 20, 21] [] (fun p => p = pt ∨ p = pk ∨ p = pa) 0 0 H H1
section Tff
variable {tr tr' : Prop} {Hb H H1 H2 : mu_H} {D : MD} {ph pt pk pa mm : Nat}
theorem tff.rf : tff pt pk pa H H := rfr.rf
theorem tff.tr2 (h1 : tff pt pk pa H H1) (h2 : tff pt pk pa H1 H2) : tff pt pk pa H H2 := rfr.tr h1 h2 (fun k z => z.elim id id) (fun k z => z.elim id id) (fun p _ z => z.elim id id)
theorem dfr.tf (h : dfr pt H H1) : tff pt pk pa H H1 := h.1.wk (fun k z => absurd z (List.not_mem_nil)) (fun _ z => z) (fun _ _ z => Or.inl z) (Nat.le_refl _) (Nat.le_refl _)
theorem vfk.tf (h : vfk pk pa H H1) : tff pt pk pa H H1 := rfr.wk h (fun _ z => z) (fun _ z => z) (fun _ _ z => Or.inr z) (Nat.le_refl _) (Nat.le_refl _)
theorem vsta.mono (h : vsta tr Hb D ph pt pk pa H) (ht : tr' → tr) : vsta tr' Hb D ph pt pk pa H := ⟨h.1, h.2.1, h.2.2.1, h.2.2.2.1, fun z => h.2.2.2.2 (ht z)⟩
theorem gnd_l : gndl = [169, 170, 171, 172, 183, 184, 185, 186, 187, 188, 189, 190, 191, 195, 199] := rfl
theorem gnl_s {p : Nat} (h : p ∉ gndl) : p ∉ [170, 171, 172, 183, 184, 185, 186, 187, 188, 189, 190, 191, 195, 199] := fun z => h (List.mem_cons_of_mem _ z)
theorem tff.rgd (h : tff pt pk pa H H1) (hg : rgd H) (hv : vsta tr Hb D ph pt pk pa H) : rgd H1 := hg.keep h (fun k z => absurd z (List.not_mem_nil)) (fun p z => by
  rcases z with z | z | z
  · subst z; exact gnl_s hv.2.1.2.1.2.1.1
  · subst z; exact gnl_s hv.2.1.2.2.1.2.1.1
  · subst z; exact gnl_s hv.2.1.2.2.2.2.1.1)
/-- the sets allowed, initial, fairStates, reached -/
theorem rgd_bt {k : Nat} (hg : rgd H) (hk : k < 4) : mu_r H 169 (32 + k) = some (183 + 2 * k) ∧ btr H (183 + 2 * k) (184 + 2 * k) := by
  obtain ⟨g1, g2, g3, g4, g5, g6, _⟩ := hg
  obtain ⟨a, b, c, d, e⟩ := g6 k hk
  exact ⟨a, ⟨rfl, by show 183 + 2 * k < mu_z H; omega, b⟩, c, ⟨rfl, by show 184 + 2 * k < mu_z H; omega, d⟩, e⟩
end Tff
theorem rp_trd {tr : Prop} {Hb H0 : mu_H} {D : MD} {ph pt pk pa mm f fr : Nat} (hb : mdb D) (hy : mdy D) (hmd : mdn D) (hne : ph ≠ pt) (hNS : prd D (D.pr 1).length ≤ 16384) (hval : valk True Hb D ph pt pk pa f) (hvw : mvw True D) : ∀ m x H, (x = -1 ∨ ∃ t, x = nI t ∧ fr ≤ t ∧ t < (prd D (D.pr 1).length) ∧ (prd D (D.pr 1).length) - t < m) → vsta tr Hb D ph pt pk pa H → mwr D mm H → (rgd H ∧ mu_i H 169 28 = nI (prd D (D.pr 1).length)) → tff pt pk pa H0 H → mu_W (mu_D (f + 6)) mu_m425 (6, [(2, .inl x), (0, .inr (.inr (some 169)))], [], H) (fun r => ∃ x H1, r = (.inl (some (.inl x)), H1) ∧ (x = -1 ∨ ∃ t, x = nI t ∧ fr ≤ t ∧ t < (prd D (D.pr 1).length)) ∧ vsta tr Hb D ph pt pk pa H1 ∧ mwr D mm H1 ∧ (rgd H1 ∧ mu_i H1 169 28 = nI (prd D (D.pr 1).length)) ∧ tff pt pk pa H0 H1)
  | m, x, H, hx, hv, hw, hg, hf => by
   rcases hx with rfl | ⟨t, rfl, ht1, ht2, ht3⟩
   ·
    refine mw_go mu_g425 (k := 1) (f1 := (7, [(2, .inl (-1 : Int32)), (0, .inr (.inr (some 169)))], [.inl (-1 : Int32)], H)) (C := []) rfl trivial ?_
    refine mw_if (P := (-1 : Int32) < 0) (a := 62) (b := 10) (fun _ => rfl) trivial (fun h1 => ?_) (fun h1 => absurd (show (-1 : Int32) < 0 by decide) h1)
    refine mw_go mu_g425 (k := 1) (f1 := (63, [(2, .inl (-1 : Int32)), (0, .inr (.inr (some 169)))], [.inl (-1 : Int32)], H)) (C := []) rfl trivial ?_
    exact mw_of (fun _ => mu_ret rfl trivial ⟨_, _, rfl, Or.inl rfl, hv, hw, hg, hf⟩)
   · cases m with
     | zero => exact absurd ht3 (Nat.not_lt_zero _)
     | succ m =>
       have b5 := hb.2.2.1
       obtain ⟨bt1, bt2⟩ := rgd_bt (k := 0) hg.1 (by decide)
       have bt1 : mu_r H 169 32 = some 183 := bt1
       have bt2 : btr H 183 184 := bt2
       refine mw_go mu_g425 (k := 1) (f1 := (7, [(2, .inl (nI t)), (0, .inr (.inr (some 169)))], [.inl (nI t)], H)) (C := []) rfl trivial ?_
       refine mw_if (P := (nI t) < 0) (a := 62) (b := 10) (fun _ => rfl) trivial (fun h1 => absurd h1 (nI_nn (by omega))) (fun h1 => ?_)
       refine mw_go mu_g425 (k := 2) (f1 := (14, [(2, .inl (nI t)), (0, .inr (.inr (some 169)))], [.inr (.inr (mu_r H 169 32))], H)) (C := [mu_is H (some 169) 1]) rfl (show mu_is H (some 169) 1 from hv.1.2.2.1.1) ?_
       refine mw_fr (f' := (14, [(2, .inl (nI t)), (0, .inr (.inr (some 169)))], [.inr (.inr (some 183))], H)) (by first | (rw [bt1]; done) | (rw [bt1]; rfl)) ?_
       refine mw_go mu_g425 (k := 1) (f1 := (15, [(2, .inl (nI t)), (0, .inr (.inr (some 169)))], [.inl (nI t), .inr (.inr (some 183))], H)) (C := []) rfl trivial ?_
       refine mw_cIe (fun _ => rfl) (show mu_is H (some 183) 14 from bt2.1) (rp_has (d := f + 5) bt2 (show t < 16384 by omega)) ?_
       refine mw_if (P := (bI (bst H 184 t)) = 0) (a := 21) (b := 24) (fun _ => rfl) trivial (fun h2 => ?_) (fun h2 => ?_)
       · -- 21
         have e1 : nI t + (1 : Int32) = nI (t + 1) := nI_add _ _
         refine mw_go mu_g425 (k := 5) (f1 := (55, [(2, .inl (nI t)), (0, .inr (.inr (some 169)))], [.inl ((nI t) + (1 : Int32)), .inr (.inr (some 169))], H)) (C := []) rfl trivial ?_
         refine mw_fr (f' := (55, [(2, .inl (nI t)), (0, .inr (.inr (some 169)))], [.inl (nI (t + 1)), .inr (.inr (some 169))], H)) (by first | (rw [e1]; done) | (rw [e1]; rfl)) ?_
         refine mw_cI (fun _ => rfl) (show mu_is H (some 169) 1 from hv.1.2.2.1.1) (rp_candidate (d := f) hb hy hmd hne hg.2 hNS (show t + 1 < 2147483648 by omega) hv hw) (fun x1 H1 q1 => ?_)
         obtain ⟨c1, c2, c3, c4⟩ := q1
         have c5 := dfr.tf (pk := pk) (pa := pa) c4
         have c6 : rgd H1 ∧ mu_i H1 169 28 = nI (prd D (D.pr 1).length) := ⟨c5.rgd hg.1 hv, (c4.1.2.1 28 (List.not_mem_nil)).trans hg.2⟩
         refine mw_go mu_g425 (k := 2) (f1 := (6, [(2, .inl x1), (0, .inr (.inr (some 169)))], [], H1)) (C := []) rfl trivial ?_
         refine mw_sub (L' := [(2, .inl x1), (0, .inr (.inr (some 169)))]) (by simp) ?_
         exact rp_trd hb hy hmd hne hNS hval hvw m x1 _ (c1.imp id (fun z => by obtain ⟨t2, z1, z2, z3⟩ := z; exact ⟨t2, z1, by omega, z3, by omega⟩)) c2 c3 c6 (hf.tr2 c5)
       · -- 24
         refine mw_go mu_g425 (k := 2) (f1 := (28, [(2, .inl (nI t)), (0, .inr (.inr (some 169)))], [.inl (mu_i H 169 50)], H)) (C := [mu_is H (some 169) 1]) rfl (show mu_is H (some 169) 1 from hv.1.2.2.1.1) ?_
         refine mw_if (P := (mu_i H 169 50) = 0) (a := 31) (b := 33) (fun _ => rfl) trivial (fun h3 => ?_) (fun h3 => ?_)
         · -- 31
           refine mw_go mu_g425 (k := 1) (f1 := (32, [(2, .inl (nI t)), (0, .inr (.inr (some 169)))], [.inl (nI t)], H)) (C := []) rfl trivial ?_
           exact mw_of (fun _ => mu_ret rfl trivial ⟨_, _, rfl, Or.inr ⟨t, rfl, ht1, ht2⟩, hv, hw, hg, hf⟩)
         · -- 33
           refine mw_go mu_g425 (k := 4) (f1 := (39, [(2, .inl (nI t)), (0, .inr (.inr (some 169)))], [.inr (.inr (mu_r H 169 31)), .inl (nI t), .inr (.inr (some 169))], H)) (C := [mu_is H (some 169) 1]) rfl (show mu_is H (some 169) 1 from hv.1.2.2.1.1) ?_
           refine mw_fr (f' := (39, [(2, .inl (nI t)), (0, .inr (.inr (some 169)))], [.inr (.inr (some pt)), .inl (nI t), .inr (.inr (some 169))], H)) (by first | (rw [hv.2.1.2.1.1]; done) | (rw [hv.2.1.2.1.1]; rfl)) ?_
           refine mw_cV (fun _ => rfl) (show mu_is H (some 169) 1 from hv.1.2.2.1.1) (rp_decode (d := f + 1) hb hy hmd (show t < 2147483648 by omega) hv.1 hv.2.1.2.1) (fun H8 q8 => ?_)
           obtain ⟨r1, g1, f1⟩ := q8
           have hv1 : vsta True Hb D ph pt pk pa H8 := hv.df hne r1 f1 g1
           have hw1 := hw.df hv.2.1.2.1.2.2.2.1 f1
           have hf1 := dfr.tf (pk := pk) (pa := pa) f1
           have hg1 : rgd H8 ∧ mu_i H8 169 28 = nI (prd D (D.pr 1).length) := ⟨hf1.rgd hg.1 hv, (f1.1.2.1 28 (List.not_mem_nil)).trans hg.2⟩
           refine mw_go mu_g425 (k := 1) (f1 := (43, [(2, .inl (nI t)), (0, .inr (.inr (some 169)))], [.inr (.inr (some 169))], H8)) (C := []) rfl trivial ?_
           refine mw_cI (fun _ => rfl) (show mu_is H8 (some 169) 1 from hv1.1.2.2.1.1) (mu_TI.up (show f + 5 ≤ f + 6 by omega) (rp_transitions trivial hval hvw hv1)) (fun x7 H7 q7 => ?_)
           obtain ⟨y0, hv2, hf2⟩ := q7
           obtain ⟨hw2, _⟩ := hw1.vk hv1 hf2
           have hf3 := vfk.tf (pt := pt) hf2
           have hg2 : rgd H7 ∧ mu_i H7 169 28 = nI (prd D (D.pr 1).length) := ⟨hf3.rgd hg1.1 hv1, (hf2.2.1 28 (by decide)).trans hg1.2⟩
           have hv3 : vsta tr Hb D ph pt pk pa H7 := hv2.mono (fun _ => trivial)
           have hf4 := (hf.tr2 hf1).tr2 hf3
           refine mw_if (P := x7 = 0) (a := 51) (b := 49) (fun _ => rfl) trivial (fun h4 => ?_) (fun h4 => ?_)
           · -- 51
             have e1 : nI t + (1 : Int32) = nI (t + 1) := nI_add _ _
             refine mw_go mu_g425 (k := 4) (f1 := (55, [(2, .inl (nI t)), (0, .inr (.inr (some 169)))], [.inl ((nI t) + (1 : Int32)), .inr (.inr (some 169))], H7)) (C := []) rfl trivial ?_
             refine mw_fr (f' := (55, [(2, .inl (nI t)), (0, .inr (.inr (some 169)))], [.inl (nI (t + 1)), .inr (.inr (some 169))], H7)) (by first | (rw [e1]; done) | (rw [e1]; rfl)) ?_
             refine mw_cI (fun _ => rfl) (show mu_is H7 (some 169) 1 from hv3.1.2.2.1.1) (rp_candidate (d := f) hb hy hmd hne hg2.2 hNS (show t + 1 < 2147483648 by omega) hv3 hw2) (fun x2 H2 q2 => ?_)
             obtain ⟨c1, c2, c3, c4⟩ := q2
             have c5 := dfr.tf (pk := pk) (pa := pa) c4
             have c6 : rgd H2 ∧ mu_i H2 169 28 = nI (prd D (D.pr 1).length) := ⟨c5.rgd hg2.1 hv3, (c4.1.2.1 28 (List.not_mem_nil)).trans hg2.2⟩
             refine mw_go mu_g425 (k := 2) (f1 := (6, [(2, .inl x2), (0, .inr (.inr (some 169)))], [], H2)) (C := []) rfl trivial ?_
             refine mw_sub (L' := [(2, .inl x2), (0, .inr (.inr (some 169)))]) (by simp) ?_
             exact rp_trd hb hy hmd hne hNS hval hvw m x2 _ (c1.imp id (fun z => by obtain ⟨t2, z1, z2, z3⟩ := z; exact ⟨t2, z1, by omega, z3, by omega⟩)) c2 c3 c6 (hf4.tr2 c5)
           · -- 49
             refine mw_go mu_g425 (k := 1) (f1 := (50, [(2, .inl (nI t)), (0, .inr (.inr (some 169)))], [.inl (nI t)], H7)) (C := []) rfl trivial ?_
             exact mw_of (fun _ => mu_ret rfl trivial ⟨_, _, rfl, Or.inr ⟨t, rfl, ht1, ht2⟩, hv3, hw2, hg2, hf4⟩)
theorem rp_tried {tr : Prop} {Hb H : mu_H} {D : MD} {ph pt pk pa mm f fr : Nat} (hb : mdb D) (hy : mdy D) (hmd : mdn D) (hne : ph ≠ pt) (hNS : prd D (D.pr 1).length ≤ 16384) (hval : valk True Hb D ph pt pk pa f) (hvw : mvw True D) (hfr : fr < 2147483648) (hv : vsta tr Hb D ph pt pk pa H) (hw : mwr D mm H) (hg : rgd H ∧ mu_i H 169 28 = nI (prd D (D.pr 1).length)) : mu_TI (mu_D (f + 7)) 425 [.inr (.inr (some 169)), .inl (nI fr)] H (fun x H1 => (x = -1 ∨ ∃ t, x = nI t ∧ fr ≤ t ∧ t < (prd D (D.pr 1).length)) ∧ vsta tr Hb D ph pt pk pa H1 ∧ mwr D mm H1 ∧ (rgd H1 ∧ mu_i H1 169 28 = nI (prd D (D.pr 1).length)) ∧ tff pt pk pa H H1) := by
  refine mu_meth (M := mu_m425) rfl rfl ?_
  refine mw_ht (mu_fn_of (show [0, 1].Nodup by decide)) ?_
  have b5 := hb.2.2.1
  refine mw_go mu_g425 (k := 2) (f1 := (2, [(0, .inr (.inr (some 169))), (1, .inl (nI fr))], [.inl (nI fr), .inr (.inr (some 169))], H)) (C := []) rfl trivial ?_
  refine mw_cI (fun _ => rfl) (show mu_is H (some 169) 1 from hv.1.2.2.1.1) (rp_candidate (d := f) hb hy hmd hne hg.2 hNS (show fr < 2147483648 by omega) hv hw) (fun x9 H9 q9 => ?_)
  obtain ⟨c1, c2, c3, c4⟩ := q9
  have c5 := dfr.tf (pk := pk) (pa := pa) c4
  have c6 : rgd H9 ∧ mu_i H9 169 28 = nI (prd D (D.pr 1).length) := ⟨c5.rgd hg.1 hv, (c4.1.2.1 28 (List.not_mem_nil)).trans hg.2⟩
  refine mw_go mu_g425 (k := 1) (f1 := (6, [(2, .inl x9), (0, .inr (.inr (some 169))), (1, .inl (nI fr))], [], H9)) (C := []) rfl trivial ?_
  refine mw_sub (L' := [(2, .inl x9), (0, .inr (.inr (some 169)))]) (by simp) ?_
  exact rp_trd hb hy hmd hne hNS hval hvw ((prd D (D.pr 1).length) + 1) x9 _ (c1.imp id (fun z => by obtain ⟨t2, z1, z2, z3⟩ := z; exact ⟨t2, z1, z2, z3, by omega⟩)) c2 c3 c6 c5
