/-! The reference: goes whole -/
/-- what a search can rely on: either big, or edges and starts -/
def gos (D : MD) (st : Nat) (H : mu_H) : Prop := (mu_i H 169 45 = 0 ∧ ∃ n, gop D st n (prd D (D.pr 1).length + 1) H) ∨ mu_i H 169 45 = 1
theorem rp_goE {tr : Prop} {Hb H0 H : mu_H} {D : MD} {ph pt pk pa mm st f s n : Nat} (hNS : prd D (D.pr 1).length ≤ 16384) (hs : sst tr Hb D ph pt pk pa mm st H) (hg : gop D st n s H) (h45 : mu_i H 169 45 = 0 ∨ mu_i H 169 45 = 1) (hst : mu_i H 169 45 = 0 → s = (prd D (D.pr 1).length)) (hf : gfr D ph pt pk pa mm st H0 H) : mu_W (mu_D (f + 910)) mu_m465 (112, [(2, .inl (nI s)), (1, .inl (nI n)), (0, .inr (.inr (some 169)))], [], H) (fun r => ∃ H1, r = (.inl none, H1) ∧ sst tr Hb D ph pt pk pa mm st H1 ∧ gos D st H1 ∧ gfr D ph pt pk pa mm st H0 H1) := by
  refine mw_go mu_g465 (k := 2) (f1 := (116, [(2, .inl (nI s)), (1, .inl (nI n)), (0, .inr (.inr (some 169)))], [.inr (.inr (mu_r H 169 43))], H)) (C := [mu_is H (some 169) 1]) rfl (show mu_is H (some 169) 1 from hs.1.1.2.2.1.1) ?_
  refine mw_fr (f' := (116, [(2, .inl (nI s)), (1, .inl (nI n)), (0, .inr (.inr (some 169)))], [.inr (.inr (some st))], H)) (by first | (rw [hs.2.2.2.1.1]; done) | (rw [hs.2.2.2.1.1]; rfl)) ?_
  refine mw_go mu_g465 (k := 2) (f1 := (120, [(2, .inl (nI s)), (1, .inl (nI n)), (0, .inr (.inr (some 169)))], [.inl (mu_i H 169 28), .inr (.inr (some st))], H)) (C := [mu_is H (some 169) 1]) rfl (show mu_is H (some 169) 1 from hs.1.1.2.2.1.1) ?_
  refine mw_fr (f' := (120, [(2, .inl (nI s)), (1, .inl (nI n)), (0, .inr (.inr (some 169)))], [.inl (nI (prd D (D.pr 1).length)), .inr (.inr (some st))], H)) (by first | (rw [hs.2.2.1.2]; done) | (rw [hs.2.2.1.2]; rfl)) ?_
  refine mw_go mu_g465 (k := 2) (f1 := (122, [(2, .inl (nI s)), (1, .inl (nI n)), (0, .inr (.inr (some 169)))], [], (mu_si H st (nI (prd D (D.pr 1).length)).toNatClampNeg (nI n)))) (C := [mu_is H (some st) 100, vp_in (nI (prd D (D.pr 1).length)) (mu_n H st)]) rfl (show (mu_is H (some st) 100) ∧ (vp_in (nI (prd D (D.pr 1).length)) (mu_n H st)) from ⟨⟨rfl, hs.2.2.2.1.2.1.2.1, hs.2.2.2.1.2.2.2.1⟩, (vp_in_nI (Nat.lt_of_lt_of_le (show (prd D (D.pr 1).length) < 16385 by omega) hs.2.2.2.1.2.2.2.2.1) hs.2.2.2.1.2.2.2.2.2)⟩) ?_
  refine mw_fr (f' := (122, [(2, .inl (nI s)), (1, .inl (nI n)), (0, .inr (.inr (some 169)))], [], (mu_si H st (prd D (D.pr 1).length) (nI n)))) (by rw [nI_clamp (show (prd D (D.pr 1).length) < 2 ^ 31 by omega)]) ?_
  obtain ⟨hs1, gf1⟩ := hs.wr (p := st) (j := (prd D (D.pr 1).length)) (x := nI n) (Or.inl rfl)
  obtain ⟨⟨n1, n2, n3, n4, n5, n6⟩, nz1, nz2, nz3⟩ := hs.n5
  have k45 : mu_i (mu_si H st (prd D (D.pr 1).length) (nI n)) 169 45 = mu_i H 169 45 := by rw [mu_i_si, if_neg (fun z => nz3 z.1.symm)]
  refine mw_of (fun _ => mu_ret rfl trivial ⟨_, rfl, hs1, ?_, gfr.tr2 hf gf1⟩)
  rcases h45 with h45 | h45
  · have e := hst h45
    rw [e] at hg
    exact Or.inl ⟨k45.trans h45, n, hg.put n5⟩
  · exact Or.inr (k45.trans h45)
theorem vsta.z {tr : Prop} {Hb H : mu_H} {D : MD} {ph pt pk pa : Nat} (h : vsta tr Hb D ph pt pk pa H) (hne : ph ≠ pt) : vst0 tr Hb D ph pt pk pa H := ⟨h.1, h.2.1, ⟨h.2.2.1.1, h.2.2.1.2, hne⟩, h.2.2.2.2⟩
theorem rp_go2 {tr : Prop} {Hb H0 : mu_H} {D : MD} {ph pt pk pa mm st f : Nat} (hb : mdb D) (hy : mdy D) (hmd : mdn D) (hNS : prd D (D.pr 1).length ≤ 16384) (hvt : valk True Hb D ph pt pk pa f) (hwt : mvw True D) (hma : mda D) (hval : valk tr Hb D ph pt pk pa f) (hvw : mvw tr D) : ∀ m_ s n H, s + m_ = (prd D (D.pr 1).length) → sst tr Hb D ph pt pk pa mm st H → gop D st n s H → (mu_i H 169 45 = 0 ∨ mu_i H 169 45 = 1) → gfr D ph pt pk pa mm st H0 H → mu_W (mu_D (f + 910)) mu_m465 (9, [(2, .inl (nI s)), (1, .inl (nI n)), (0, .inr (.inr (some 169)))], [], H) (fun r => ∃ H1, r = (.inl none, H1) ∧ sst tr Hb D ph pt pk pa mm st H1 ∧ gos D st H1 ∧ gfr D ph pt pk pa mm st H0 H1)
  | 0, s, n, H, hm_, hs, hg, h45, hf => by
    refine mw_go mu_g465 (k := 3) (f1 := (14, [(2, .inl (nI s)), (1, .inl (nI n)), (0, .inr (.inr (some 169)))], [.inl (mu_i H 169 28), .inl (nI s)], H)) (C := [mu_is H (some 169) 1]) rfl (show mu_is H (some 169) 1 from hs.1.1.2.2.1.1) ?_
    refine mw_fr (f' := (14, [(2, .inl (nI s)), (1, .inl (nI n)), (0, .inr (.inr (some 169)))], [.inl (nI (prd D (D.pr 1).length)), .inl (nI s)], H)) (by first | (rw [hs.2.2.1.2]; done) | (rw [hs.2.2.1.2]; rfl)) ?_
    refine mw_if (P := (nI s) < (nI (prd D (D.pr 1).length))) (a := 17) (b := 112) (fun _ => rfl) trivial (fun h1 => absurd h1 (by rw [show s = (prd D (D.pr 1).length) by omega]; exact Int32.lt_irrefl)) (fun h1 => ?_)
    exact rp_goE hNS hs hg h45 (fun _ => by omega) hf
  | m_ + 1, s, n, H, hm_, hs, hg, h45, hf => by
    have b5 := hb.2.2.1
    have sl : s < (prd D (D.pr 1).length) := by omega
    refine mw_go mu_g465 (k := 3) (f1 := (14, [(2, .inl (nI s)), (1, .inl (nI n)), (0, .inr (.inr (some 169)))], [.inl (mu_i H 169 28), .inl (nI s)], H)) (C := [mu_is H (some 169) 1]) rfl (show mu_is H (some 169) 1 from hs.1.1.2.2.1.1) ?_
    refine mw_fr (f' := (14, [(2, .inl (nI s)), (1, .inl (nI n)), (0, .inr (.inr (some 169)))], [.inl (nI (prd D (D.pr 1).length)), .inl (nI s)], H)) (by first | (rw [hs.2.2.1.2]; done) | (rw [hs.2.2.1.2]; rfl)) ?_
    refine mw_if (P := (nI s) < (nI (prd D (D.pr 1).length))) (a := 17) (b := 112) (fun _ => rfl) trivial (fun h1 => ?_) (fun h1 => absurd (nI_lt sl (by omega)) h1)
    refine mw_go mu_g465 (k := 2) (f1 := (21, [(2, .inl (nI s)), (1, .inl (nI n)), (0, .inr (.inr (some 169)))], [.inl (mu_i H 169 45)], H)) (C := [mu_is H (some 169) 1]) rfl (show mu_is H (some 169) 1 from hs.1.1.2.2.1.1) ?_
    refine mw_if (P := (mu_i H 169 45) = 0) (a := 24) (b := 112) (fun _ => rfl) trivial (fun h2 => ?_) (fun h2 => ?_)
    · -- 24
      refine mw_go mu_g465 (k := 2) (f1 := (28, [(2, .inl (nI s)), (1, .inl (nI n)), (0, .inr (.inr (some 169)))], [.inr (.inr (mu_r H 169 43))], H)) (C := [mu_is H (some 169) 1]) rfl (show mu_is H (some 169) 1 from hs.1.1.2.2.1.1) ?_
      refine mw_fr (f' := (28, [(2, .inl (nI s)), (1, .inl (nI n)), (0, .inr (.inr (some 169)))], [.inr (.inr (some st))], H)) (by first | (rw [hs.2.2.2.1.1]; done) | (rw [hs.2.2.2.1.1]; rfl)) ?_
      refine mw_go mu_g465 (k := 3) (f1 := (31, [(2, .inl (nI s)), (1, .inl (nI n)), (0, .inr (.inr (some 169)))], [], (mu_si H st (nI s).toNatClampNeg (nI n)))) (C := [mu_is H (some st) 100, vp_in (nI s) (mu_n H st)]) rfl (show (mu_is H (some st) 100) ∧ (vp_in (nI s) (mu_n H st)) from ⟨⟨rfl, hs.2.2.2.1.2.1.2.1, hs.2.2.2.1.2.2.2.1⟩, (vp_in_nI (Nat.lt_of_lt_of_le (show s < 16385 by omega) hs.2.2.2.1.2.2.2.2.1) hs.2.2.2.1.2.2.2.2.2)⟩) ?_
      obtain ⟨⟨n1, n2, n3, n4, n5, n6⟩, nz1, nz2, nz3⟩ := hs.n5
      have hg2 := hg.put (S := s) n5
      have b45 : mu_i (mu_si H st s (nI n)) 169 45 = 0 := by rw [mu_i_si, if_neg (fun z => nz3 z.1.symm)]; exact h2
      refine mw_fr (f' := (31, [(2, .inl (nI s)), (1, .inl (nI n)), (0, .inr (.inr (some 169)))], [], (mu_si H st s (nI n)))) (by rw [nI_clamp (show s < 2 ^ 31 by omega)]) ?_
      obtain ⟨hs1, gf1⟩ := hs.wr (p := st) (j := s) (x := nI n) (Or.inl rfl)
      have gg1 := gfr.tr2 hf gf1
      obtain ⟨K2, eK2⟩ : ∃ K, K = (mu_si H st s (nI n)) := ⟨_, rfl⟩
      rw [← eK2] at hs1 gg1 hg2 b45 ⊢
      clear eK2
      refine mw_go mu_g465 (k := 2) (f1 := (35, [(2, .inl (nI s)), (1, .inl (nI n)), (0, .inr (.inr (some 169)))], [.inr (.inr (mu_r K2 169 32))], K2)) (C := [mu_is K2 (some 169) 1]) rfl (show mu_is K2 (some 169) 1 from hs1.1.1.2.2.1.1) ?_
      refine mw_fr (f' := (35, [(2, .inl (nI s)), (1, .inl (nI n)), (0, .inr (.inr (some 169)))], [.inr (.inr (some 183))], K2)) (by first | (rw [(show mu_r K2 169 32 = some 183 from (rgd_bt (k := 0) hs1.2.2.1.1 (by decide)).1)]; done) | (rw [(show mu_r K2 169 32 = some 183 from (rgd_bt (k := 0) hs1.2.2.1.1 (by decide)).1)]; rfl)) ?_
      refine mw_go mu_g465 (k := 1) (f1 := (36, [(2, .inl (nI s)), (1, .inl (nI n)), (0, .inr (.inr (some 169)))], [.inl (nI s), .inr (.inr (some 183))], K2)) (C := []) rfl trivial ?_
      refine mw_cIe (fun _ => rfl) (show mu_is K2 (some 183) 14 from (rgd_bt (k := 0) hs1.2.2.1.1 (by decide)).2.1) (rp_has (d := f + 909) (show btr K2 183 184 from (rgd_bt (k := 0) hs1.2.2.1.1 (by decide)).2) (show s < 16384 by omega)) ?_
      refine mw_if (P := (bI (bst K2 184 s)) = 0) (a := 42) (b := 45) (fun _ => rfl) trivial (fun h3 => ?_) (fun h3 => ?_)
      · -- 42
        refine mw_go mu_g465 (k := 3) (f1 := (9, [(2, .inl ((nI s) + 1)), (1, .inl (nI n)), (0, .inr (.inr (some 169)))], [], K2)) (C := []) rfl trivial ?_
        refine mw_sub (L' := [(2, .inl (nI (s + 1))), (1, .inl (nI n)), (0, .inr (.inr (some 169)))]) (by intro x hx; simp only [List.mem_cons, List.not_mem_nil, or_false] at hx ⊢; rcases hx with rfl | rfl | rfl <;> first | (simp [nI_add, show (1 : Int32) = nI 1 from rfl]; done) | simp [nI]) ?_
        exact rp_go2 hb hy hmd hNS hvt hwt hma hval hvw m_ (s + 1) _ _ (by omega) hs1 hg2 (Or.inl b45) gg1
      · -- 45
        refine mw_go mu_g465 (k := 2) (f1 := (47, [(2, .inl (nI s)), (1, .inl (nI n)), (0, .inr (.inr (some 169)))], [.inl (nI s), .inr (.inr (some 169))], K2)) (C := []) rfl trivial ?_
        refine mw_cV (fun _ => rfl) (show mu_is K2 (some 169) 1 from hs1.1.1.2.2.1.1) (rp_enter (d := f + 904) hb hy hmd (show s < 2147483648 by omega) (vsta.z hs1.1 hs1.2.2.2.2.1)) (fun H7 q7 => ?_)
        obtain ⟨e1, e2⟩ := q7
        obtain ⟨hs7, gf7⟩ := hs1.dh e2 e1
        have gg7 := gfr.tr2 gg1 gf7
        have hg7 := hg2.dh hs1 e2
        have b457 : mu_i H7 169 45 = 0 := (e2.1.2.1 45 (List.not_mem_nil)).trans b45
        refine mw_go mu_g465 (k := 1) (f1 := (51, [(2, .inl (nI s)), (1, .inl (nI n)), (0, .inr (.inr (some 169)))], [.inr (.inr (some 169))], H7)) (C := []) rfl trivial ?_
        refine mw_cV (fun _ => rfl) (show mu_is H7 (some 169) 1 from hs7.1.1.2.2.1.1) (rp_mark hb hy hmd hma hval hvw hs7.1 hs7.2.1) (fun H6 q6 => ?_)
        obtain ⟨e3, e4, e5⟩ := q6
        obtain ⟨hs6, gf6⟩ := hs7.mk e5 e3 e4
        have gg6 := gfr.tr2 gg7 gf6
        have hg6 := hg7.mk hs7 e5
        have b456 : mu_i H6 169 45 = 0 := (e5.1.2.1 45 (by decide)).trans b457
        refine mw_go mu_g465 (k := 2) (f1 := (56, [(2, .inl (nI s)), (1, .inl (nI n)), (0, .inr (.inr (some 169)))], [.inl (0 : Int32), .inr (.inr (some 169))], H6)) (C := []) rfl trivial ?_
        refine mw_cI (fun _ => rfl) (show mu_is H6 (some 169) 1 from hs6.1.1.2.2.1.1) (mu_TI.up (show f + 7 ≤ f + 910 by omega) (rp_tried (fr := 0) hb hy hmd hs6.2.2.2.2.1 hNS hvt hwt (by decide) hs6.1 hs6.2.1 hs6.2.2.1)) (fun x5 H5 q5 => ?_)
        obtain ⟨c1, c2, c3, c4, c5⟩ := q5
        obtain ⟨hs5, gf5⟩ := hs6.tf c5 c2 c3
        have gg5 := gfr.tr2 gg6 gf5
        have hg5 := hg6.tf hs6 c5
        have b455 : mu_i H5 169 45 = 0 := (c5.2.1 45 (by decide)).trans b456
        refine mw_go mu_g465 (k := 1) (f1 := (60, [(3, .inl x5), (2, .inl (nI s)), (1, .inl (nI n)), (0, .inr (.inr (some 169)))], [], H5)) (C := []) rfl trivial ?_
        refine mw_sub (L' := [(3, .inl x5), (2, .inl (nI s)), (1, .inl (nI n)), (0, .inr (.inr (some 169)))]) (by simp) ?_
        refine rp_go1 hb hy hmd hNS hvt hwt (fun n' H' y1 y2 y3 y4 => ?_) ((prd D (D.pr 1).length) + 1) _ _ _ (c1.imp id (fun z => by obtain ⟨t2, z1, z2, z3⟩ := z; exact ⟨t2, z1, z3, by omega⟩)) hs5 hg5 b455 gg5
        refine mw_go mu_g465 (k := 2) (f1 := (9, [(2, .inl ((nI s) + 1)), (1, .inl (nI n')), (0, .inr (.inr (some 169)))], [], H')) (C := []) rfl trivial ?_
        refine mw_sub (L' := [(2, .inl (nI (s + 1))), (1, .inl (nI n')), (0, .inr (.inr (some 169)))]) (by intro x hx; simp only [List.mem_cons, List.not_mem_nil, or_false] at hx ⊢; rcases hx with rfl | rfl | rfl <;> first | (simp [nI_add, show (1 : Int32) = nI 1 from rfl]; done) | simp [nI]) ?_
        exact rp_go2 hb hy hmd hNS hvt hwt hma hval hvw m_ (s + 1) _ _ (by omega) y1 y2 y3 y4
    · -- 112
      exact rp_goE hNS hs hg h45 (fun z => absurd z h2) hf
theorem rp_goes {tr : Prop} {Hb H : mu_H} {D : MD} {ph pt pk pa mm st f : Nat} (hb : mdb D) (hy : mdy D) (hmd : mdn D) (hNS : prd D (D.pr 1).length ≤ 16384) (hvt : valk True Hb D ph pt pk pa f) (hwt : mvw True D) (hma : mda D) (hval : valk tr Hb D ph pt pk pa f) (hvw : mvw tr D) (hs : sst tr Hb D ph pt pk pa mm st H) : mu_TV (mu_D (f + 911)) 465 [.inr (.inr (some 169))] H (fun H1 => sst tr Hb D ph pt pk pa mm st H1 ∧ gos D st H1 ∧ gfr D ph pt pk pa mm st H H1) := by
  refine mu_meth (M := mu_m465) rfl rfl ?_
  refine mw_ht (mu_fn_of (show [0].Nodup by decide)) ?_
  refine mw_go mu_g465 (k := 5) (f1 := (7, [(1, .inl (0 : Int32)), (0, .inr (.inr (some 169)))], [], (mu_si H 169 45 (0 : Int32)))) (C := [mu_is H (some 169) 1, (0 : Int32) = 0 ∨ (0 : Int32) = 1]) rfl (show (mu_is H (some 169) 1) ∧ ((0 : Int32) = 0 ∨ (0 : Int32) = 1) from ⟨hs.1.1.2.2.1.1, Or.inl rfl⟩) ?_
  have b45 : mu_i (mu_si H 169 45 (0 : Int32)) 169 45 = 0 := by rw [mu_i_si, if_pos ⟨rfl, rfl⟩]
  obtain ⟨hs1, gf1⟩ := hs.i9 (k := 45) (x := 0) (by decide)
  have gg1 := gfr.tr2 (gfr.rf (D := D) (ph := ph) (pt := pt) (pk := pk) (pa := pa) (mm := mm) (st := st) (H := H)) gf1
  obtain ⟨K2, eK2⟩ : ∃ K, K = (mu_si H 169 45 (0 : Int32)) := ⟨_, rfl⟩
  rw [← eK2] at hs1 gg1 b45 ⊢
  clear eK2
  refine mw_go mu_g465 (k := 2) (f1 := (9, [(2, .inl (0 : Int32)), (1, .inl (0 : Int32)), (0, .inr (.inr (some 169)))], [], K2)) (C := []) rfl trivial ?_
  refine mw_sub (L' := [(2, .inl (nI 0)), (1, .inl (nI 0)), (0, .inr (.inr (some 169)))]) (by intro x hx; simp only [List.mem_cons, List.not_mem_nil, or_false] at hx ⊢; rcases hx with rfl | rfl | rfl <;> simp [nI]) ?_
  exact rp_go2 hb hy hmd hNS hvt hwt hma hval hvw (prd D (D.pr 1).length) 0 0 _ (Nat.zero_add _) hs1 ⟨by decide, fun i hi => absurd hi (Nat.not_lt_zero _), fun s hs => absurd hs (Nat.not_lt_zero _)⟩ (Or.inl b45) gg1
