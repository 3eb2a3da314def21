/-! The reference: goes -/
/-- PathProverModel.goes()V -/
abbrev mu_m465 : ev_M := (4, none, [], ev_b465)
theorem mu_g465 : mu_good mu_m465 := mu_goodk ev_k465
section Gop
variable {tr : Prop} {Hb H H1 : mu_H} {D : MD} {ph pt pk pa mm st n S : Nat}
theorem sst.n5 (hs : sst tr Hb D ph pt pk pa mm st H) : (195 ≠ ph ∧ 195 ≠ pt ∧ 195 ≠ pk ∧ 195 ≠ pa ∧ st ≠ 195 ∧ st ≠ pa) ∧ 195 < mu_z H ∧ st < mu_z H ∧ st ≠ 169 := by
  have g5 : (195 : Nat) ∈ gndl := by decide
  refine ⟨⟨fun e => hs.1.2.1.1.2.1.1 (by rw [← e]; exact g5), fun e => hs.1.2.1.2.1.2.1.1 (by rw [← e]; exact g5), fun e => hs.1.2.1.2.2.1.2.1.1 (by rw [← e]; exact g5), fun e => hs.1.2.1.2.2.2.2.1.1 (by rw [← e]; exact g5), fun e => hs.2.2.2.1.2.1.1 (by rw [e]; exact g5), fun e => ?_⟩, Nat.lt_trans (by decide) hs.2.2.1.1.1, hs.2.2.2.1.2.1.2.1, gndl9 hs.2.2.2.1.2.1.1⟩
  have q := hs.2.2.2.1.2.2.2.1
  rw [e, hs.1.2.1.2.2.2.2.2.2.1] at q
  exact absurd q (by decide)
theorem gop.tf (h : gop D st n S H) (hs : sst tr Hb D ph pt pk pa mm st H) (hf : tff pt pk pa H H1) : gop D st n S H1 := by
  obtain ⟨⟨n1, n2, n3, n4, n5, n6⟩, nz⟩ := hs.n5
  exact h.kp hf (fun z => z.elim n2 (fun z => z.elim n3 n4)) (fun z => z.elim hs.2.2.2.2.2.2.1 (fun z => z.elim hs.2.2.2.2.2.2.2 n6)) nz
theorem gop.dh (h : gop D st n S H) (hs : sst tr Hb D ph pt pk pa mm st H) (hf : dfr ph H H1) : gop D st n S H1 := by
  obtain ⟨⟨n1, n2, n3, n4, n5, n6⟩, nz⟩ := hs.n5
  exact h.kp hf.1 (fun z => n1 z) (fun z => hs.2.2.2.2.2.1 z) nz
theorem gop.mk (h : gop D st n S H) (hs : sst tr Hb D ph pt pk pa mm st H) (hf : mkf D mm pk pa H H1) : gop D st n S H1 := by
  obtain ⟨⟨n1, n2, n3, n4, n5, n6⟩, nz⟩ := hs.n5
  have g5 : (195 : Nat) ∈ gndl := by decide
  refine h.kp hf.1 (fun z => ?_) (fun z => ?_) nz
  · rcases z with z | z | ⟨v, v1, v2⟩
    · exact n3 z
    · exact n4 z
    · exact (hs.2.1.kd v1 v2).2 g5
  · rcases z with z | z | ⟨v, v1, v2⟩
    · exact hs.2.2.2.2.2.2.2 z
    · exact n6 z
    · have q := hs.2.2.2.1.2.2.2.1
      rw [(hs.2.1.kd v1 v2).1] at q
      exact absurd q (by decide)
end Gop
theorem rp_goB {tr : Prop} {Hb H0 : mu_H} {D : MD} {ph pt pk pa mm st f : Nat} {Φ : mu_R → Prop} {s n : Nat} {x : Int32} {H : mu_H} (hnx : ∀ n H, sst tr Hb D ph pt pk pa mm st H → gop D st n (s + 1) H → (mu_i H 169 45 = 0 ∨ mu_i H 169 45 = 1) → gfr D ph pt pk pa mm st H0 H → mu_W (mu_D (f + 910)) mu_m465 (106, [(2, .inl (nI s)), (1, .inl (nI n)), (0, .inr (.inr (some 169)))], [], H) Φ) (hs : sst tr Hb D ph pt pk pa mm st H) (hg : gop D st n (s + 1) H) (h45 : mu_i H 169 45 = 1) (hf : gfr D ph pt pk pa mm st H0 H) : mu_W (mu_D (f + 910)) mu_m465 (60, [(3, .inl x), (2, .inl (nI s)), (1, .inl (nI n)), (0, .inr (.inr (some 169)))], [], H) Φ := by
  refine mw_go mu_g465 (k := 1) (f1 := (61, [(3, .inl x), (2, .inl (nI s)), (1, .inl (nI n)), (0, .inr (.inr (some 169)))], [.inl x], H)) (C := []) rfl trivial ?_
  refine mw_if (P := x < 0) (a := 106) (b := 64) (fun _ => rfl) trivial (fun h1 => ?_) (fun h1 => ?_)
  · -- 106
    refine mw_sub (L' := [(2, .inl (nI s)), (1, .inl (nI n)), (0, .inr (.inr (some 169)))]) (by simp) ?_
    exact hnx n _ hs hg (Or.inr h45) hf
  · -- 64
    refine mw_go mu_g465 (k := 2) (f1 := (68, [(3, .inl x), (2, .inl (nI s)), (1, .inl (nI n)), (0, .inr (.inr (some 169)))], [.inl (mu_i H 169 45)], H)) (C := [mu_is H (some 169) 1]) rfl (show mu_is H (some 169) 1 from hs.1.1.2.2.1.1) ?_
    refine mw_fr (f' := (68, [(3, .inl x), (2, .inl (nI s)), (1, .inl (nI n)), (0, .inr (.inr (some 169)))], [.inl (1 : Int32)], H)) (by first | (rw [h45]; done) | (rw [h45]; rfl)) ?_
    refine mw_if (P := (1 : Int32) = 0) (a := 71) (b := 106) (fun _ => rfl) trivial (fun h2 => absurd h2 (by decide)) (fun h2 => ?_)
    · -- 106
      refine mw_sub (L' := [(2, .inl (nI s)), (1, .inl (nI n)), (0, .inr (.inr (some 169)))]) (by simp) ?_
      exact hnx n _ hs hg (Or.inr h45) hf
theorem gop.add {D : MD} {st n S t : Nat} {H : mu_H} (h : gop D st n S H) (hn : n < 200000) (ht : t < prd D (D.pr 1).length) (hs : st ≠ 195) : gop D st (n + 1) S (mu_si H 195 n (nI t)) := by
  obtain ⟨g1, g2, g3⟩ := h
  refine ⟨hn, fun i hi => ?_, fun s hs2 => ?_⟩
  · rw [mu_i_si]
    by_cases e : i = n
    · rw [if_pos ⟨rfl, e⟩]; exact ⟨t, ht, rfl⟩
    · rw [if_neg (fun z => e z.2)]; exact g2 i (by omega)
  · rw [mu_i_si, if_neg (fun z => hs z.1)]
    obtain ⟨a, a1, a2⟩ := g3 s hs2
    exact ⟨a, by omega, a2⟩
theorem gop.put {D : MD} {st n S : Nat} {H : mu_H} (h : gop D st n S H) (hs : st ≠ 195) : gop D st n (S + 1) (mu_si H st S (nI n)) := by
  obtain ⟨g1, g2, g3⟩ := h
  refine ⟨g1, fun i hi => ?_, fun s hs2 => ?_⟩
  · rw [mu_i_si, if_neg (fun z => hs z.1.symm)]; exact g2 i hi
  · rw [mu_i_si]
    by_cases e : s = S
    · rw [if_pos ⟨rfl, e⟩]; exact ⟨n, Nat.le_refl _, rfl⟩
    · rw [if_neg (fun z => e z.2)]; exact g3 s (by omega)
theorem rp_go1 {tr : Prop} {Hb H0 : mu_H} {D : MD} {ph pt pk pa mm st f : Nat} {Φ : mu_R → Prop} (hb : mdb D) (hy : mdy D) (hmd : mdn D) (hNS : prd D (D.pr 1).length ≤ 16384) (hvt : valk True Hb D ph pt pk pa f) (hwt : mvw True D) {s : Nat} (hnx : ∀ n H, sst tr Hb D ph pt pk pa mm st H → gop D st n (s + 1) H → (mu_i H 169 45 = 0 ∨ mu_i H 169 45 = 1) → gfr D ph pt pk pa mm st H0 H → mu_W (mu_D (f + 910)) mu_m465 (106, [(2, .inl (nI s)), (1, .inl (nI n)), (0, .inr (.inr (some 169)))], [], H) Φ) : ∀ m x n H, (x = -1 ∨ ∃ t, x = nI t ∧ t < (prd D (D.pr 1).length) ∧ (prd D (D.pr 1).length) - t < m) → sst tr Hb D ph pt pk pa mm st H → gop D st n (s + 1) H → mu_i H 169 45 = 0 → gfr D ph pt pk pa mm st H0 H → mu_W (mu_D (f + 910)) mu_m465 (60, [(3, .inl x), (2, .inl (nI s)), (1, .inl (nI n)), (0, .inr (.inr (some 169)))], [], H) Φ
  | m, x, n, H, hx, hs, hg, h45, hf => by
   rcases hx with rfl | ⟨t, rfl, ht2, ht3⟩
   ·
     refine mw_go mu_g465 (k := 1) (f1 := (61, [(3, .inl (-1 : Int32)), (2, .inl (nI s)), (1, .inl (nI n)), (0, .inr (.inr (some 169)))], [.inl (-1 : Int32)], H)) (C := []) rfl trivial ?_
     refine mw_if (P := (-1 : Int32) < 0) (a := 106) (b := 64) (fun _ => rfl) trivial (fun h1 => ?_) (fun h1 => absurd (show (-1 : Int32) < 0 by decide) h1)
     refine mw_sub (L' := [(2, .inl (nI s)), (1, .inl (nI n)), (0, .inr (.inr (some 169)))]) (by simp) ?_
     exact hnx n _ hs hg (Or.inl h45) hf
   · cases m with
     | zero => exact absurd ht3 (Nat.not_lt_zero _)
     | succ m =>
       have b5 := hb.2.2.1
       have n2 := hg.1
       refine mw_go mu_g465 (k := 1) (f1 := (61, [(3, .inl (nI t)), (2, .inl (nI s)), (1, .inl (nI n)), (0, .inr (.inr (some 169)))], [.inl (nI t)], H)) (C := []) rfl trivial ?_
       refine mw_if (P := (nI t) < 0) (a := 106) (b := 64) (fun _ => rfl) trivial (fun h1 => absurd h1 (nI_nn (by omega))) (fun h1 => ?_)
       refine mw_go mu_g465 (k := 2) (f1 := (68, [(3, .inl (nI t)), (2, .inl (nI s)), (1, .inl (nI n)), (0, .inr (.inr (some 169)))], [.inl (mu_i H 169 45)], H)) (C := [mu_is H (some 169) 1]) rfl (show mu_is H (some 169) 1 from hs.1.1.2.2.1.1) ?_
       refine mw_fr (f' := (68, [(3, .inl (nI t)), (2, .inl (nI s)), (1, .inl (nI n)), (0, .inr (.inr (some 169)))], [.inl (0 : Int32)], H)) (by first | (rw [h45]; done) | (rw [h45]; rfl)) ?_
       refine mw_if (P := (0 : Int32) = 0) (a := 71) (b := 106) (fun _ => rfl) trivial (fun h2 => ?_) (fun h2 => absurd rfl h2)
       · -- 71
         refine mw_go mu_g465 (k := 2) (f1 := (74, [(3, .inl (nI t)), (2, .inl (nI s)), (1, .inl (nI n)), (0, .inr (.inr (some 169)))], [.inl (200000 : Int32), .inl (nI n)], H)) (C := []) rfl trivial ?_
         refine mw_if (P := (nI n) = (200000 : Int32)) (a := 77) (b := 85) (fun _ => rfl) trivial (fun h3 => ?_) (fun h3 => ?_)
         · -- 77
           refine mw_go mu_g465 (k := 4) (f1 := (95, [(3, .inl (nI t)), (2, .inl (nI s)), (1, .inl (nI n)), (0, .inr (.inr (some 169)))], [], (mu_si H 169 45 (1 : Int32)))) (C := [mu_is H (some 169) 1, (1 : Int32) = 0 ∨ (1 : Int32) = 1]) rfl (show (mu_is H (some 169) 1) ∧ ((1 : Int32) = 0 ∨ (1 : Int32) = 1) from ⟨hs.1.1.2.2.1.1, Or.inr rfl⟩) ?_
           have hg2 : gop D st n (s + 1) (mu_si H 169 45 (1 : Int32)) := hg.kp (rfr.si (Fi := [45]) (Fr := []) (W := fun _ => False) rfr.rf (by decide)) id id (show 195 < mu_z H ∧ st < mu_z H ∧ st ≠ 169 from ⟨Nat.lt_trans (by decide) hs.2.2.1.1.1, hs.2.2.2.1.2.1.2.1, gndl9 hs.2.2.2.1.2.1.1⟩)
           have b45 : mu_i (mu_si H 169 45 (1 : Int32)) 169 45 = 1 := by rw [mu_i_si, if_pos ⟨rfl, rfl⟩]
           obtain ⟨hs1, gf1⟩ := hs.i9 (k := 45) (x := 1) (by decide)
           have gg1 := gfr.tr2 hf gf1
           obtain ⟨K2, eK2⟩ : ∃ K, K = (mu_si H 169 45 (1 : Int32)) := ⟨_, rfl⟩
           rw [← eK2] at hs1 gg1 hg2 b45 ⊢
           clear eK2
           have e1 : nI t + (1 : Int32) = nI (t + 1) := nI_add _ _
           refine mw_go mu_g465 (k := 4) (f1 := (99, [(3, .inl (nI t)), (2, .inl (nI s)), (1, .inl (nI n)), (0, .inr (.inr (some 169)))], [.inl ((nI t) + (1 : Int32)), .inr (.inr (some 169))], K2)) (C := []) rfl trivial ?_
           refine mw_fr (f' := (99, [(3, .inl (nI t)), (2, .inl (nI s)), (1, .inl (nI n)), (0, .inr (.inr (some 169)))], [.inl (nI (t + 1)), .inr (.inr (some 169))], K2)) (by first | (rw [e1]; done) | (rw [e1]; rfl)) ?_
           refine mw_cI (fun _ => rfl) (show mu_is K2 (some 169) 1 from hs1.1.1.2.2.1.1) (mu_TI.up (show f + 7 ≤ f + 910 by omega) (rp_tried hb hy hmd hs1.2.2.2.2.1 hNS hvt hwt (show t + 1 < 2147483648 by omega) hs1.1 hs1.2.1 hs1.2.2.1)) (fun x3 H3 q3 => ?_)
           obtain ⟨c1, c2, c3, c4, c5⟩ := q3
           obtain ⟨hs3, gf3⟩ := sst.tf hs1 c5 c2 c3
           have gg3 := gfr.tr2 gg1 gf3
           have hg3 := gop.tf hg2 hs1 c5
           have k45 : mu_i H3 169 45 = 1 := (c5.2.1 45 (by decide)).trans b45
           refine mw_go mu_g465 (k := 2) (f1 := (60, [(3, .inl x3), (2, .inl (nI s)), (1, .inl (nI n)), (0, .inr (.inr (some 169)))], [], H3)) (C := []) rfl trivial ?_
           refine mw_sub (L' := [(3, .inl x3), (2, .inl (nI s)), (1, .inl (nI n)), (0, .inr (.inr (some 169)))]) (by simp) ?_
           exact rp_goB hnx hs3 hg3 k45 gg3
         · -- 85
           have nl : n < 200000 := by
             by_cases z : n = 200000
             · exact absurd (show nI n = (200000 : Int32) by rw [z]; rfl) h3
             · omega
           refine mw_go mu_g465 (k := 2) (f1 := (89, [(3, .inl (nI t)), (2, .inl (nI s)), (1, .inl (nI n)), (0, .inr (.inr (some 169)))], [.inr (.inr (mu_r H 169 44))], H)) (C := [mu_is H (some 169) 1]) rfl (show mu_is H (some 169) 1 from hs.1.1.2.2.1.1) ?_
           refine mw_fr (f' := (89, [(3, .inl (nI t)), (2, .inl (nI s)), (1, .inl (nI n)), (0, .inr (.inr (some 169)))], [.inr (.inr (some 195))], H)) (by first | (rw [hs.2.2.1.1.2.2.2.2.2.2.2.1.1]; done) | (rw [hs.2.2.1.1.2.2.2.2.2.2.2.1.1]; rfl)) ?_
           refine mw_go mu_g465 (k := 4) (f1 := (95, [(1, .inl ((nI n) + 1)), (3, .inl (nI t)), (2, .inl (nI s)), (0, .inr (.inr (some 169)))], [], (mu_si H 195 (nI n).toNatClampNeg (nI t)))) (C := [mu_is H (some 195) 100, vp_in (nI n) (mu_n H 195)]) rfl (show (mu_is H (some 195) 100) ∧ (vp_in (nI n) (mu_n H 195)) from ⟨⟨rfl, Nat.lt_trans (by decide) hs.2.2.1.1.1, hs.2.2.1.1.2.2.2.2.2.2.2.1.2.1⟩, (vp_in_nI (by rw [hs.2.2.1.1.2.2.2.2.2.2.2.1.2.2]; exact nl) (by rw [hs.2.2.1.1.2.2.2.2.2.2.2.1.2.2]; decide))⟩) ?_
           have hg2 : gop D st (n + 1) (s + 1) (mu_si H 195 n (nI t)) := gop.add hg nl ht2 (fun e => hs.2.2.2.1.2.1.1 (by rw [e]; decide))
           have b45 : mu_i (mu_si H 195 n (nI t)) 169 45 = 0 := by rw [mu_i_si, if_neg (fun z => absurd z.1 (by decide))]; exact h45
           refine mw_fr (f' := (95, [(1, .inl ((nI n) + 1)), (3, .inl (nI t)), (2, .inl (nI s)), (0, .inr (.inr (some 169)))], [], (mu_si H 195 n (nI t)))) (by rw [nI_clamp (show n < 2 ^ 31 by omega)]) ?_
           obtain ⟨hs4, gf4⟩ := hs.wr (p := 195) (j := n) (x := nI t) (Or.inr rfl)
           have gg4 := gfr.tr2 hf gf4
           obtain ⟨K5, eK5⟩ : ∃ K, K = (mu_si H 195 n (nI t)) := ⟨_, rfl⟩
           rw [← eK5] at hs4 gg4 hg2 b45 ⊢
           clear eK5
           have e1 : nI t + (1 : Int32) = nI (t + 1) := nI_add _ _
           refine mw_go mu_g465 (k := 4) (f1 := (99, [(1, .inl ((nI n) + 1)), (3, .inl (nI t)), (2, .inl (nI s)), (0, .inr (.inr (some 169)))], [.inl ((nI t) + (1 : Int32)), .inr (.inr (some 169))], K5)) (C := []) rfl trivial ?_
           refine mw_fr (f' := (99, [(1, .inl ((nI n) + 1)), (3, .inl (nI t)), (2, .inl (nI s)), (0, .inr (.inr (some 169)))], [.inl (nI (t + 1)), .inr (.inr (some 169))], K5)) (by first | (rw [e1]; done) | (rw [e1]; rfl)) ?_
           refine mw_cI (fun _ => rfl) (show mu_is K5 (some 169) 1 from hs4.1.1.2.2.1.1) (mu_TI.up (show f + 7 ≤ f + 910 by omega) (rp_tried hb hy hmd hs4.2.2.2.2.1 hNS hvt hwt (show t + 1 < 2147483648 by omega) hs4.1 hs4.2.1 hs4.2.2.1)) (fun x6 H6 q6 => ?_)
           obtain ⟨c1, c2, c3, c4, c5⟩ := q6
           obtain ⟨hs6, gf6⟩ := sst.tf hs4 c5 c2 c3
           have gg6 := gfr.tr2 gg4 gf6
           have hg6 := gop.tf hg2 hs4 c5
           have k45 : mu_i H6 169 45 = 0 := (c5.2.1 45 (by decide)).trans b45
           refine mw_go mu_g465 (k := 2) (f1 := (60, [(3, .inl x6), (1, .inl ((nI n) + 1)), (2, .inl (nI s)), (0, .inr (.inr (some 169)))], [], H6)) (C := []) rfl trivial ?_
           refine mw_sub (L' := [(3, .inl x6), (2, .inl (nI s)), (1, .inl (nI (n + 1))), (0, .inr (.inr (some 169)))]) (by intro x hx; simp only [List.mem_cons, List.not_mem_nil, or_false] at hx ⊢; rcases hx with rfl | rfl | rfl | rfl <;> simp [nI_add, show (1 : Int32) = nI 1 from rfl]) ?_
           exact rp_go1 hb hy hmd hNS hvt hwt hnx m _ _ _ (c1.imp id (fun z => by obtain ⟨t2, z1, z2, z3⟩ := z; exact ⟨t2, z1, z3, by omega⟩)) hs6 hg6 k45 gg6
