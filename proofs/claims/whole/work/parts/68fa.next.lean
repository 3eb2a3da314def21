/-! The reference: begin, next -/
/-- PathProverModel.begin(I)V -/
abbrev mu_m423 : ev_M := (2, none, [], ev_b423)
theorem mu_g423 : mu_good mu_m423 := mu_goodk ev_k423
/-- PathProverModel.next()I -/
abbrev mu_m424 : ev_M := (2, (some .int), [], ev_b424)
theorem mu_g424 : mu_good mu_m424 := mu_goodk ev_k424
/-- the steps of a STATE that are left: at most m -/
def itr (D : MD) (st m : Nat) (H : mu_H) : Prop := (mu_i H 169 45 = 0 ∧ ∃ n a e, gop D st n (prd D (D.pr 1).length + 1) H ∧ mu_i H 169 46 = nI a ∧ mu_i H 169 47 = nI e ∧ a ≤ 200000 ∧ e ≤ n ∧ e ≤ a + m) ∨ (mu_i H 169 45 = 1 ∧ ∃ g, mu_i H 169 48 = nI g ∧ g ≤ prd D (D.pr 1).length ∧ prd D (D.pr 1).length ≤ g + m)
theorem itr.gos {D : MD} {st m : Nat} {H : mu_H} (h : itr D st m H) : gos D st H := by
  rcases h with ⟨h1, n, a, e, h2, _⟩ | ⟨h1, _⟩
  · exact Or.inl ⟨h1, n, h2⟩
  · exact Or.inr h1
theorem gop.i9 {D : MD} {st n S k : Nat} {H : mu_H} {x : Int32} (h : gop D st n S H) (h9 : st ≠ 169) : gop D st n S (mu_si H 169 k x) := by
  obtain ⟨g1, g2, g3⟩ := h
  exact ⟨g1, fun i hi => by rw [mu_i_si, if_neg (fun z => absurd z.1 (by decide))]; exact g2 i hi, fun s hs => by rw [mu_i_si, if_neg (fun z => h9 z.1)]; exact g3 s hs⟩
theorem rp_begin {tr : Prop} {Hb H : mu_H} {D : MD} {ph pt pk pa mm st f s : Nat} (hb : mdb D) (hy : mdy D) (hmd : mdn D) (hNS : prd D (D.pr 1).length ≤ 16384) (hma : mda D) (hval : valk tr Hb D ph pt pk pa f) (hvw : mvw tr D) (hs : sst tr Hb D ph pt pk pa mm st H) (hg : gos D st H) (hsl : s < (prd D (D.pr 1).length)) : mu_TV (mu_D (f + 911)) 423 [.inr (.inr (some 169)), .inl (nI s)] H (fun H1 => sst tr Hb D ph pt pk pa mm st H1 ∧ (∃ m, itr D st m H1) ∧ gfr D ph pt pk pa mm st H H1) := by
  refine mu_meth (M := mu_m423) rfl rfl ?_
  refine mw_ht (mu_fn_of (show [0, 1].Nodup by decide)) ?_
  have b5 := hb.2.2.1
  obtain ⟨⟨n1, n2, n3, n4, n5, n6⟩, nz1, nz2, nz3⟩ := hs.n5
  refine mw_go mu_g423 (k := 2) (f1 := (4, [(0, .inr (.inr (some 169))), (1, .inl (nI s))], [.inl (mu_i H 169 45)], H)) (C := [mu_is H (some 169) 1]) rfl (show mu_is H (some 169) 1 from hs.1.1.2.2.1.1) ?_
  refine mw_if (P := (mu_i H 169 45) = 0) (a := 7) (b := 30) (fun _ => rfl) trivial (fun h1 => ?_) (fun h1 => ?_)
  · -- 7
    obtain ⟨_, n, g0⟩ := hg.resolve_right (fun z => by rw [h1] at z; exact absurd z (by decide))
    obtain ⟨a, a1, a2⟩ := g0.2.2 s (by omega)
    obtain ⟨e, e1, e2⟩ := g0.2.2 (s + 1) (by omega)
    have g1 := g0.1
    have xa : mu_i H st (nI s).toNatClampNeg = nI a := by rw [nI_clamp (show s < 2 ^ 31 by omega)]; exact a2
    have es : nI s + (1 : Int32) = nI (s + 1) := nI_add _ _
    refine mw_go mu_g423 (k := 3) (f1 := (12, [(0, .inr (.inr (some 169))), (1, .inl (nI s))], [.inr (.inr (mu_r H 169 43)), .inr (.inr (some 169))], H)) (C := [mu_is H (some 169) 1]) rfl (show mu_is H (some 169) 1 from hs.1.1.2.2.1.1) ?_
    refine mw_fr (f' := (12, [(0, .inr (.inr (some 169))), (1, .inl (nI s))], [.inr (.inr (some st)), .inr (.inr (some 169))], H)) (by first | (rw [hs.2.2.2.1.1]; done) | (rw [hs.2.2.2.1.1]; rfl)) ?_
    refine mw_go mu_g423 (k := 2) (f1 := (14, [(0, .inr (.inr (some 169))), (1, .inl (nI s))], [.inl (mu_i H st (nI s).toNatClampNeg), .inr (.inr (some 169))], H)) (C := [mu_isr H (some st) 100, vp_in (nI s) (mu_n H st)]) rfl (show (mu_isr H (some st) 100) ∧ (vp_in (nI s) (mu_n H st)) from ⟨⟨rfl, Or.inl hs.2.2.2.1.2.1.2.1, hs.2.2.2.1.2.2.2.1⟩, (vp_in_nI (Nat.lt_of_lt_of_le (show s < 16385 by omega) hs.2.2.2.1.2.2.2.2.1) hs.2.2.2.1.2.2.2.2.2)⟩) ?_
    refine mw_fr (f' := (14, [(0, .inr (.inr (some 169))), (1, .inl (nI s))], [.inl (nI a), .inr (.inr (some 169))], H)) (by first | (rw [xa]; done) | (rw [xa]; rfl)) ?_
    refine mw_go mu_g423 (k := 1) (f1 := (17, [(0, .inr (.inr (some 169))), (1, .inl (nI s))], [], (mu_si H 169 46 (nI a)))) (C := [mu_is H (some 169) 1]) rfl (show mu_is H (some 169) 1 from hs.1.1.2.2.1.1) ?_
    have i45 : mu_i (mu_si H 169 46 (nI a)) 169 45 = 0 := by rw [mu_i_si, if_neg (fun z => absurd z.2 (by decide))]; exact h1
    have i46 : mu_i (mu_si H 169 46 (nI a)) 169 46 = nI a := by rw [mu_i_si, if_pos ⟨rfl, rfl⟩]
    have g2 := g0.i9 (k := 46) (x := nI a) nz3
    have xe : mu_i (mu_si H 169 46 (nI a)) st (nI (s + 1)).toNatClampNeg = nI e := by rw [nI_clamp (show s + 1 < 2 ^ 31 by omega), mu_i_si, if_neg (fun z => nz3 z.1)]; exact e2
    obtain ⟨hs1, gf1⟩ := hs.i9 (k := 46) (x := nI a) (by decide)
    have gg1 := gfr.tr2 (gfr.rf (D := D) (ph := ph) (pt := pt) (pk := pk) (pa := pa) (mm := mm) (st := st) (H := H)) gf1
    obtain ⟨K2, eK2⟩ : ∃ K, K = (mu_si H 169 46 (nI a)) := ⟨_, rfl⟩
    rw [← eK2] at hs1 gg1 i45 i46 g2 xe ⊢
    clear eK2
    refine mw_go mu_g423 (k := 3) (f1 := (22, [(0, .inr (.inr (some 169))), (1, .inl (nI s))], [.inr (.inr (mu_r K2 169 43)), .inr (.inr (some 169))], K2)) (C := [mu_is K2 (some 169) 1]) rfl (show mu_is K2 (some 169) 1 from hs1.1.1.2.2.1.1) ?_
    refine mw_fr (f' := (22, [(0, .inr (.inr (some 169))), (1, .inl (nI s))], [.inr (.inr (some st)), .inr (.inr (some 169))], K2)) (by first | (rw [hs1.2.2.2.1.1]; done) | (rw [hs1.2.2.2.1.1]; rfl)) ?_
    refine mw_go mu_g423 (k := 3) (f1 := (25, [(0, .inr (.inr (some 169))), (1, .inl (nI s))], [.inl ((nI s) + (1 : Int32)), .inr (.inr (some st)), .inr (.inr (some 169))], K2)) (C := []) rfl trivial ?_
    refine mw_fr (f' := (25, [(0, .inr (.inr (some 169))), (1, .inl (nI s))], [.inl (nI (s + 1)), .inr (.inr (some st)), .inr (.inr (some 169))], K2)) (by first | (rw [es]; done) | (rw [es]; rfl)) ?_
    refine mw_go mu_g423 (k := 1) (f1 := (26, [(0, .inr (.inr (some 169))), (1, .inl (nI s))], [.inl (mu_i K2 st (nI (s + 1)).toNatClampNeg), .inr (.inr (some 169))], K2)) (C := [mu_isr K2 (some st) 100, vp_in (nI (s + 1)) (mu_n K2 st)]) rfl (show (mu_isr K2 (some st) 100) ∧ (vp_in (nI (s + 1)) (mu_n K2 st)) from ⟨⟨rfl, Or.inl hs1.2.2.2.1.2.1.2.1, hs1.2.2.2.1.2.2.2.1⟩, (vp_in_nI (Nat.lt_of_lt_of_le (show s + 1 < 16385 by omega) hs1.2.2.2.1.2.2.2.2.1) hs1.2.2.2.1.2.2.2.2.2)⟩) ?_
    refine mw_fr (f' := (26, [(0, .inr (.inr (some 169))), (1, .inl (nI s))], [.inl (nI e), .inr (.inr (some 169))], K2)) (by first | (rw [xe]; done) | (rw [xe]; rfl)) ?_
    refine mw_go mu_g423 (k := 1) (f1 := (29, [(0, .inr (.inr (some 169))), (1, .inl (nI s))], [], (mu_si K2 169 47 (nI e)))) (C := [mu_is K2 (some 169) 1]) rfl (show mu_is K2 (some 169) 1 from hs1.1.1.2.2.1.1) ?_
    obtain ⟨hs9, gf9⟩ := hs1.i9 (k := 47) (x := nI e) (by decide)
    exact mw_of (fun _ => mu_ret rfl trivial ⟨_, rfl, hs9, ⟨e, Or.inl ⟨by rw [mu_i_si, if_neg (fun z => absurd z.2 (by decide))]; exact i45, n, a, e, g2.i9 nz3, by rw [mu_i_si, if_neg (fun z => absurd z.2 (by decide))]; exact i46, by rw [mu_i_si, if_pos ⟨rfl, rfl⟩], by omega, e1, by omega⟩⟩, gfr.tr2 gg1 gf9⟩)
  · -- 30
    have b45 : mu_i H 169 45 = 1 := hg.resolve_left (fun z => h1 z.1)
    refine mw_go mu_g423 (k := 3) (f1 := (35, [(0, .inr (.inr (some 169))), (1, .inl (nI s))], [.inr (.inr (mu_r H 169 32)), .inr (.inr (some 169))], H)) (C := [mu_is H (some 169) 1]) rfl (show mu_is H (some 169) 1 from hs.1.1.2.2.1.1) ?_
    refine mw_fr (f' := (35, [(0, .inr (.inr (some 169))), (1, .inl (nI s))], [.inr (.inr (some 183)), .inr (.inr (some 169))], H)) (by first | (rw [(show mu_r H 169 32 = some 183 from (rgd_bt (k := 0) hs.2.2.1.1 (by decide)).1)]; done) | (rw [(show mu_r H 169 32 = some 183 from (rgd_bt (k := 0) hs.2.2.1.1 (by decide)).1)]; rfl)) ?_
    refine mw_go mu_g423 (k := 1) (f1 := (36, [(0, .inr (.inr (some 169))), (1, .inl (nI s))], [.inl (nI s), .inr (.inr (some 183)), .inr (.inr (some 169))], H)) (C := []) rfl trivial ?_
    refine mw_cIe (fun _ => rfl) (show mu_is H (some 183) 14 from (rgd_bt (k := 0) hs.2.2.1.1 (by decide)).2.1) (rp_has (d := f + 909) (show btr H 183 184 from (rgd_bt (k := 0) hs.2.2.1.1 (by decide)).2) (show s < 16384 by omega)) ?_
    refine mw_if (P := (bI (bst H 184 s)) = 0) (a := 46) (b := 42) (fun _ => rfl) trivial (fun h2 => ?_) (fun h2 => ?_)
    · -- 46
      refine mw_go mu_g423 (k := 2) (f1 := (50, [(0, .inr (.inr (some 169))), (1, .inl (nI s))], [.inl (mu_i H 169 28), .inr (.inr (some 169))], H)) (C := [mu_is H (some 169) 1]) rfl (show mu_is H (some 169) 1 from hs.1.1.2.2.1.1) ?_
      refine mw_fr (f' := (50, [(0, .inr (.inr (some 169))), (1, .inl (nI s))], [.inl (nI (prd D (D.pr 1).length)), .inr (.inr (some 169))], H)) (by first | (rw [hs.2.2.1.2]; done) | (rw [hs.2.2.1.2]; rfl)) ?_
      refine mw_go mu_g423 (k := 1) (f1 := (53, [(0, .inr (.inr (some 169))), (1, .inl (nI s))], [], (mu_si H 169 48 (nI (prd D (D.pr 1).length))))) (C := [mu_is H (some 169) 1]) rfl (show mu_is H (some 169) 1 from hs.1.1.2.2.1.1) ?_
      have i45 : mu_i (mu_si H 169 48 (nI (prd D (D.pr 1).length))) 169 45 = 1 := by rw [mu_i_si, if_neg (fun z => absurd z.2 (by decide))]; exact b45
      have i48 : ∃ g, mu_i (mu_si H 169 48 (nI (prd D (D.pr 1).length))) 169 48 = nI g ∧ g ≤ (prd D (D.pr 1).length) := ⟨(prd D (D.pr 1).length), by rw [mu_i_si, if_pos ⟨rfl, rfl⟩], by omega⟩
      obtain ⟨hs3, gf3⟩ := hs.i9 (k := 48) (x := (nI (prd D (D.pr 1).length))) (by decide)
      have gg3 := gfr.tr2 (gfr.rf (D := D) (ph := ph) (pt := pt) (pk := pk) (pa := pa) (mm := mm) (st := st) (H := H)) gf3
      obtain ⟨K4, eK4⟩ : ∃ K, K = (mu_si H 169 48 (nI (prd D (D.pr 1).length))) := ⟨_, rfl⟩
      rw [← eK4] at hs3 gg3 i45 i48 ⊢
      clear eK4
      refine mw_go mu_g423 (k := 2) (f1 := (55, [(0, .inr (.inr (some 169))), (1, .inl (nI s))], [.inl (nI s), .inr (.inr (some 169))], K4)) (C := []) rfl trivial ?_
      refine mw_cV (fun _ => rfl) (show mu_is K4 (some 169) 1 from hs3.1.1.2.2.1.1) (rp_enter (d := f + 904) hb hy hmd (show s < 2147483648 by omega) (vsta.z hs3.1 hs3.2.2.2.2.1)) (fun H7 q7 => ?_)
      obtain ⟨e1, e2⟩ := q7
      obtain ⟨hs7, gf7⟩ := hs3.dh e2 e1
      have gg7 := gfr.tr2 gg3 gf7
      refine mw_go mu_g423 (k := 1) (f1 := (59, [(0, .inr (.inr (some 169))), (1, .inl (nI s))], [.inr (.inr (some 169))], H7)) (C := []) rfl trivial ?_
      refine mw_cV (fun _ => rfl) (show mu_is H7 (some 169) 1 from hs7.1.1.2.2.1.1) (rp_mark hb hy hmd hma hval hvw hs7.1 hs7.2.1) (fun H6 q6 => ?_)
      obtain ⟨e3, e4, e5⟩ := q6
      obtain ⟨hs6, gf6⟩ := hs7.mk e5 e3 e4
      obtain ⟨g, g1, g2⟩ := i48
      exact mw_of (fun _ => mu_ret rfl trivial ⟨_, rfl, hs6, ⟨(prd D (D.pr 1).length), Or.inr ⟨(e5.1.2.1 45 (by decide)).trans ((e2.1.2.1 45 (List.not_mem_nil)).trans i45), g, (e5.1.2.1 48 (by decide)).trans ((e2.1.2.1 48 (List.not_mem_nil)).trans g1), g2, by omega⟩⟩, gfr.tr2 gg7 gf6⟩)
    · -- 42
      refine mw_go mu_g423 (k := 3) (f1 := (53, [(0, .inr (.inr (some 169))), (1, .inl (nI s))], [], (mu_si H 169 48 (0 : Int32)))) (C := [mu_is H (some 169) 1]) rfl (show mu_is H (some 169) 1 from hs.1.1.2.2.1.1) ?_
      have i45 : mu_i (mu_si H 169 48 (0 : Int32)) 169 45 = 1 := by rw [mu_i_si, if_neg (fun z => absurd z.2 (by decide))]; exact b45
      have i48 : ∃ g, mu_i (mu_si H 169 48 (0 : Int32)) 169 48 = nI g ∧ g ≤ (prd D (D.pr 1).length) := ⟨0, by rw [mu_i_si, if_pos ⟨rfl, rfl⟩]; rfl, by omega⟩
      obtain ⟨hs5, gf5⟩ := hs.i9 (k := 48) (x := (0 : Int32)) (by decide)
      have gg5 := gfr.tr2 (gfr.rf (D := D) (ph := ph) (pt := pt) (pk := pk) (pa := pa) (mm := mm) (st := st) (H := H)) gf5
      obtain ⟨K6, eK6⟩ : ∃ K, K = (mu_si H 169 48 (0 : Int32)) := ⟨_, rfl⟩
      rw [← eK6] at hs5 gg5 i45 i48 ⊢
      clear eK6
      refine mw_go mu_g423 (k := 2) (f1 := (55, [(0, .inr (.inr (some 169))), (1, .inl (nI s))], [.inl (nI s), .inr (.inr (some 169))], K6)) (C := []) rfl trivial ?_
      refine mw_cV (fun _ => rfl) (show mu_is K6 (some 169) 1 from hs5.1.1.2.2.1.1) (rp_enter (d := f + 904) hb hy hmd (show s < 2147483648 by omega) (vsta.z hs5.1 hs5.2.2.2.2.1)) (fun H7 q7 => ?_)
      obtain ⟨e1, e2⟩ := q7
      obtain ⟨hs7, gf7⟩ := hs5.dh e2 e1
      have gg7 := gfr.tr2 gg5 gf7
      refine mw_go mu_g423 (k := 1) (f1 := (59, [(0, .inr (.inr (some 169))), (1, .inl (nI s))], [.inr (.inr (some 169))], H7)) (C := []) rfl trivial ?_
      refine mw_cV (fun _ => rfl) (show mu_is H7 (some 169) 1 from hs7.1.1.2.2.1.1) (rp_mark hb hy hmd hma hval hvw hs7.1 hs7.2.1) (fun H6 q6 => ?_)
      obtain ⟨e3, e4, e5⟩ := q6
      obtain ⟨hs6, gf6⟩ := hs7.mk e5 e3 e4
      obtain ⟨g, g1, g2⟩ := i48
      exact mw_of (fun _ => mu_ret rfl trivial ⟨_, rfl, hs6, ⟨(prd D (D.pr 1).length), Or.inr ⟨(e5.1.2.1 45 (by decide)).trans ((e2.1.2.1 45 (List.not_mem_nil)).trans i45), g, (e5.1.2.1 48 (by decide)).trans ((e2.1.2.1 48 (List.not_mem_nil)).trans g1), g2, by omega⟩⟩, gfr.tr2 gg7 gf6⟩)
theorem rp_next {tr : Prop} {Hb H : mu_H} {D : MD} {ph pt pk pa mm st f m : Nat} (hb : mdb D) (hy : mdy D) (hmd : mdn D) (hNS : prd D (D.pr 1).length ≤ 16384) (hvt : valk True Hb D ph pt pk pa f) (hwt : mvw True D) (hs : sst tr Hb D ph pt pk pa mm st H) (hi : itr D st m H) : mu_TI (mu_D (f + 911)) 424 [.inr (.inr (some 169))] H (fun x H1 => sst tr Hb D ph pt pk pa mm st H1 ∧ gfr D ph pt pk pa mm st H H1 ∧ ((x = -1 ∧ itr D st m H1) ∨ ∃ t m', x = nI t ∧ t < (prd D (D.pr 1).length) ∧ m = m' + 1 ∧ itr D st m' H1)) := by
  refine mu_meth (M := mu_m424) rfl rfl ?_
  refine mw_ht (mu_fn_of (show [0].Nodup by decide)) ?_
  have b5 := hb.2.2.1
  obtain ⟨⟨n1, n2, n3, n4, n5, n6⟩, nz1, nz2, nz3⟩ := hs.n5
  refine mw_go mu_g424 (k := 2) (f1 := (4, [(0, .inr (.inr (some 169)))], [.inl (mu_i H 169 45)], H)) (C := [mu_is H (some 169) 1]) rfl (show mu_is H (some 169) 1 from hs.1.1.2.2.1.1) ?_
  refine mw_if (P := (mu_i H 169 45) = 0) (a := 7) (b := 39) (fun _ => rfl) trivial (fun h1 => ?_) (fun h1 => ?_)
  · -- 7
    obtain ⟨_, n, a, e, g0, i46, i47, a1, e1, e2⟩ := hi.resolve_right (fun z => by rw [h1] at z; exact absurd z.1 (by decide))
    have g1 := g0.1
    have ea : nI a + (1 : Int32) = nI (a + 1) := nI_add _ _
    refine mw_go mu_g424 (k := 2) (f1 := (11, [(0, .inr (.inr (some 169)))], [.inl (mu_i H 169 46)], H)) (C := [mu_is H (some 169) 1]) rfl (show mu_is H (some 169) 1 from hs.1.1.2.2.1.1) ?_
    refine mw_fr (f' := (11, [(0, .inr (.inr (some 169)))], [.inl (nI a)], H)) (by first | (rw [i46]; done) | (rw [i46]; rfl)) ?_
    refine mw_go mu_g424 (k := 2) (f1 := (15, [(0, .inr (.inr (some 169)))], [.inl (mu_i H 169 47), .inl (nI a)], H)) (C := [mu_is H (some 169) 1]) rfl (show mu_is H (some 169) 1 from hs.1.1.2.2.1.1) ?_
    refine mw_fr (f' := (15, [(0, .inr (.inr (some 169)))], [.inl (nI e), .inl (nI a)], H)) (by first | (rw [i47]; done) | (rw [i47]; rfl)) ?_
    refine mw_if (P := (nI a) < (nI e)) (a := 18) (b := 37) (fun _ => rfl) trivial (fun h2 => ?_) (fun h2 => ?_)
    · -- 18
      have ae : a < e := nI_below (by omega) (by omega) h2
      obtain ⟨t, t1, t2⟩ := g0.2.1 a (by omega)
      refine mw_go mu_g424 (k := 2) (f1 := (22, [(0, .inr (.inr (some 169)))], [.inr (.inr (mu_r H 169 44))], H)) (C := [mu_is H (some 169) 1]) rfl (show mu_is H (some 169) 1 from hs.1.1.2.2.1.1) ?_
      refine mw_fr (f' := (22, [(0, .inr (.inr (some 169)))], [.inr (.inr (some 195))], H)) (by first | (rw [hs.2.2.1.1.2.2.2.2.2.2.2.1.1]; done) | (rw [hs.2.2.1.1.2.2.2.2.2.2.2.1.1]; rfl)) ?_
      refine mw_go mu_g424 (k := 3) (f1 := (27, [(0, .inr (.inr (some 169)))], [.inl (mu_i H 169 46), .inr (.inr (some 169)), .inr (.inr (some 195))], H)) (C := [mu_is H (some 169) 1]) rfl (show mu_is H (some 169) 1 from hs.1.1.2.2.1.1) ?_
      refine mw_fr (f' := (27, [(0, .inr (.inr (some 169)))], [.inl (nI a), .inr (.inr (some 169)), .inr (.inr (some 195))], H)) (by first | (rw [i46]; done) | (rw [i46]; rfl)) ?_
      refine mw_go mu_g424 (k := 3) (f1 := (30, [(0, .inr (.inr (some 169)))], [.inl ((nI a) + (1 : Int32)), .inr (.inr (some 169)), .inl (nI a), .inr (.inr (some 195))], H)) (C := []) rfl trivial ?_
      refine mw_fr (f' := (30, [(0, .inr (.inr (some 169)))], [.inl (nI (a + 1)), .inr (.inr (some 169)), .inl (nI a), .inr (.inr (some 195))], H)) (by first | (rw [ea]; done) | (rw [ea]; rfl)) ?_
      refine mw_go mu_g424 (k := 1) (f1 := (33, [(0, .inr (.inr (some 169)))], [.inl (nI a), .inr (.inr (some 195))], (mu_si H 169 46 (nI (a + 1))))) (C := [mu_is H (some 169) 1]) rfl (show mu_is H (some 169) 1 from hs.1.1.2.2.1.1) ?_
      have xt : mu_i (mu_si H 169 46 (nI (a + 1))) 195 (nI a).toNatClampNeg = nI t := by rw [nI_clamp (show a < 2 ^ 31 by omega), mu_i_si, if_neg (fun z => absurd z.1 (by decide))]; exact t2
      have j45 : mu_i (mu_si H 169 46 (nI (a + 1))) 169 45 = 0 := by rw [mu_i_si, if_neg (fun z => absurd z.2 (by decide))]; exact h1
      have j46 : mu_i (mu_si H 169 46 (nI (a + 1))) 169 46 = nI (a + 1) := by rw [mu_i_si, if_pos ⟨rfl, rfl⟩]
      have j47 : mu_i (mu_si H 169 46 (nI (a + 1))) 169 47 = nI e := by rw [mu_i_si, if_neg (fun z => absurd z.2 (by decide))]; exact i47
      have g2 := g0.i9 (k := 46) (x := nI (a + 1)) nz3
      obtain ⟨hs1, gf1⟩ := hs.i9 (k := 46) (x := nI (a + 1)) (by decide)
      have gg1 := gfr.tr2 (gfr.rf (D := D) (ph := ph) (pt := pt) (pk := pk) (pa := pa) (mm := mm) (st := st) (H := H)) gf1
      obtain ⟨K2, eK2⟩ : ∃ K, K = (mu_si H 169 46 (nI (a + 1))) := ⟨_, rfl⟩
      rw [← eK2] at hs1 gg1 xt j45 j46 j47 g2 ⊢
      clear eK2
      refine mw_go mu_g424 (k := 1) (f1 := (34, [(0, .inr (.inr (some 169)))], [.inl (mu_i K2 195 (nI a).toNatClampNeg)], K2)) (C := [mu_isr K2 (some 195) 100, vp_in (nI a) (mu_n K2 195)]) rfl (show (mu_isr K2 (some 195) 100) ∧ (vp_in (nI a) (mu_n K2 195)) from ⟨⟨rfl, Or.inl (Nat.lt_trans (by decide) hs1.2.2.1.1.1), hs1.2.2.1.1.2.2.2.2.2.2.2.1.2.1⟩, (vp_in_nI (by rw [hs1.2.2.1.1.2.2.2.2.2.2.2.1.2.2]; exact (show a < 200000 by omega)) (by rw [hs1.2.2.1.1.2.2.2.2.2.2.2.1.2.2]; decide))⟩) ?_
      refine mw_fr (f' := (34, [(0, .inr (.inr (some 169)))], [.inl (nI t)], K2)) (by first | (rw [xt]; done) | (rw [xt]; rfl)) ?_
      refine mw_go mu_g424 (k := 1) (f1 := (38, [(0, .inr (.inr (some 169)))], [.inl (nI t)], K2)) (C := []) rfl trivial ?_
      exact mw_of (fun _ => mu_ret rfl trivial ⟨_, _, rfl, hs1, gg1, Or.inr ⟨t, m - 1, rfl, t1, by omega, Or.inl ⟨j45, n, a + 1, e, g2, j46, j47, by omega, e1, by omega⟩⟩⟩)
    · -- 37
      refine mw_go mu_g424 (k := 1) (f1 := (38, [(0, .inr (.inr (some 169)))], [.inl (-1 : Int32)], H)) (C := []) rfl trivial ?_
      exact mw_of (fun _ => mu_ret rfl trivial ⟨_, _, rfl, hs, gfr.rf, Or.inl ⟨rfl, hi⟩⟩)
  · -- 39
    obtain ⟨i45, g, i48, g1, g2⟩ := hi.resolve_left (fun z => h1 z.1)
    refine mw_go mu_g424 (k := 3) (f1 := (44, [(0, .inr (.inr (some 169)))], [.inl (mu_i H 169 48), .inr (.inr (some 169))], H)) (C := [mu_is H (some 169) 1]) rfl (show mu_is H (some 169) 1 from hs.1.1.2.2.1.1) ?_
    refine mw_fr (f' := (44, [(0, .inr (.inr (some 169)))], [.inl (nI g), .inr (.inr (some 169))], H)) (by first | (rw [i48]; done) | (rw [i48]; rfl)) ?_
    refine mw_cI (fun _ => rfl) (show mu_is H (some 169) 1 from hs.1.1.2.2.1.1) (mu_TI.up (show f + 7 ≤ f + 910 by omega) (rp_tried hb hy hmd hs.2.2.2.2.1 hNS hvt hwt (show g < 2147483648 by omega) hs.1 hs.2.1 hs.2.2.1)) (fun x5 H5 q5 => ?_)
    obtain ⟨c1, c2, c3, c4, c5⟩ := q5
    obtain ⟨hs5, gf5⟩ := hs.tf c5 c2 c3
    have b45 : mu_i H5 169 45 = 1 := (c5.2.1 45 (by decide)).trans i45
    refine mw_go mu_g424 (k := 3) (f1 := (50, [(1, .inl x5), (0, .inr (.inr (some 169)))], [.inl x5, .inr (.inr (some 169))], H5)) (C := []) rfl trivial ?_
    refine mw_if (P := x5 < 0) (a := 53) (b := 60) (fun _ => rfl) trivial (fun h2 => ?_) (fun h2 => ?_)
    · -- 53
      have c1 : x5 = -1 := c1.resolve_right (fun z => by obtain ⟨t, z1, _, z3⟩ := z; rw [z1] at h2; exact absurd h2 (nI_nn (by omega)))
      refine mw_go mu_g424 (k := 2) (f1 := (57, [(1, .inl x5), (0, .inr (.inr (some 169)))], [.inl (mu_i H5 169 28), .inr (.inr (some 169))], H5)) (C := [mu_is H5 (some 169) 1]) rfl (show mu_is H5 (some 169) 1 from hs5.1.1.2.2.1.1) ?_
      refine mw_fr (f' := (57, [(1, .inl x5), (0, .inr (.inr (some 169)))], [.inl (nI (prd D (D.pr 1).length)), .inr (.inr (some 169))], H5)) (by first | (rw [hs5.2.2.1.2]; done) | (rw [hs5.2.2.1.2]; rfl)) ?_
      refine mw_go mu_g424 (k := 3) (f1 := (67, [(1, .inl x5), (0, .inr (.inr (some 169)))], [.inl x5], (mu_si H5 169 48 (nI (prd D (D.pr 1).length))))) (C := [mu_is H5 (some 169) 1]) rfl (show mu_is H5 (some 169) 1 from hs5.1.1.2.2.1.1) ?_
      obtain ⟨hs9, gf9⟩ := hs5.i9 (k := 48) (x := nI (prd D (D.pr 1).length)) (by decide)
      exact mw_of (fun _ => mu_ret rfl trivial ⟨_, _, rfl, hs9, gfr.tr2 gf5 gf9, Or.inl ⟨c1, Or.inr ⟨by rw [mu_i_si, if_neg (fun z => absurd z.2 (by decide))]; exact b45, (prd D (D.pr 1).length), by rw [mu_i_si, if_pos ⟨rfl, rfl⟩], Nat.le_refl _, by omega⟩⟩⟩)
    · -- 60
      obtain ⟨t, rfl, t1, t2⟩ := c1.resolve_left (fun z => h2 (by rw [z]; decide))
      have et : nI t + (1 : Int32) = nI (t + 1) := nI_add _ _
      refine mw_go mu_g424 (k := 3) (f1 := (63, [(1, .inl (nI t)), (0, .inr (.inr (some 169)))], [.inl ((nI t) + (1 : Int32)), .inr (.inr (some 169))], H5)) (C := []) rfl trivial ?_
      refine mw_fr (f' := (63, [(1, .inl (nI t)), (0, .inr (.inr (some 169)))], [.inl (nI (t + 1)), .inr (.inr (some 169))], H5)) (by first | (rw [et]; done) | (rw [et]; rfl)) ?_
      refine mw_go mu_g424 (k := 2) (f1 := (67, [(1, .inl (nI t)), (0, .inr (.inr (some 169)))], [.inl (nI t)], (mu_si H5 169 48 (nI (t + 1))))) (C := [mu_is H5 (some 169) 1]) rfl (show mu_is H5 (some 169) 1 from hs5.1.1.2.2.1.1) ?_
      obtain ⟨hs9, gf9⟩ := hs5.i9 (k := 48) (x := nI (t + 1)) (by decide)
      exact mw_of (fun _ => mu_ret rfl trivial ⟨_, _, rfl, hs9, gfr.tr2 gf5 gf9, Or.inr ⟨t, m - 1, rfl, t2, by omega, Or.inr ⟨by rw [mu_i_si, if_neg (fun z => absurd z.2 (by decide))]; exact b45, t + 1, by rw [mu_i_si, if_pos ⟨rfl, rfl⟩], by omega, by omega⟩⟩⟩)
