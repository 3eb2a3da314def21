/-! The reference: value, kinds with parts -/
theorem vcw.t {tr : Prop} {D : MD} {j l k : Nat} {c : Tre} (h : vcw tr D j (l + 1) c) (n66 : ¬ tkd c = 66) (hk : k < tsn c) (hst : hlx D (l + 1) j c) : vcw tr D j l (tkk c k) ∧ hlx D l j (tkk c k) := by
  have z : lkp c k = tkk c k := lkp_n n66
  rw [← z]
  exact ⟨h.p hk, hst.2 k hk⟩
theorem exw_1 {l : Nat} {c : Tre} (h : exw (l + 1) c) (hk : tkd c ∈ [18, 65]) : 0 < tsn c := by
  have no : ∀ {ks : List Nat}, tkd c ∈ ks → (18 ∈ ks ∨ 65 ∈ ks) := fun h1 => by
    simp only [List.mem_cons, List.not_mem_nil, or_false] at hk
    rcases hk with e | e
    · rw [e] at h1; exact Or.inl h1
    · rw [e] at h1; exact Or.inr h1
  rcases h with h | h | h | h | h | h | h
  · exact absurd (no h.1) (by decide)
  · exact absurd (no h.1) (by decide)
  · omega
  · omega
  · omega
  · omega
  · omega
theorem exw_2 {l : Nat} {c : Tre} (h : exw (l + 1) c) (hk : tkd c ∈ [2, 19, 1, 50, 52, 66, 21, 5, 22, 6, 23, 7]) : 2 ≤ tsn c := by
  have no : ∀ {ks : List Nat}, tkd c ∈ ks → ∃ x, x ∈ [2, 19, 1, 50, 52, 66, 21, 5, 22, 6, 23, 7] ∧ x ∈ ks := fun h1 => ⟨_, hk, h1⟩
  rcases h with h | h | h | h | h | h | h
  · exact absurd (no h.1) (by decide)
  · exact absurd (no h.1) (by decide)
  · exact absurd (no h.1) (by decide)
  · omega
  · exact h.2.1
  · exact h.2.2.1
  · exact h.2.1
theorem rp_v18 {tr : Prop} {Hb H : mu_H} {D : MD} {ph pt pk pa j f l dd q : Nat} {c : Tre} (hv : vsta tr Hb D ph pt pk pa H) (hn : nd Hb D.G dd q c) (hw : vcw tr D j (l + 1) c) (hst : hlx D (l + 1) j c) (ih : vlk tr Hb D ph pt pk pa j f l) (ek : tkd c = 18) : mu_W (mu_D (f + 2 * l + 7)) mu_m411 (0, [(0, .inr (.inr (some 169))), (1, .inr (.inr (some q))), (2, .inr (.inr (some (D.ip j))))], [], H) (fun r => ∃ x H1, r = (.inl (some (.inl x)), H1) ∧ vsta tr Hb D ph pt pk pa H1 ∧ vfk pk pa H H1) := by
  obtain ⟨kd1, ⟨is1, nF1, lt1⟩, ⟨st1, sr1, sf1⟩, ⟨n2_1, n3_1, n7_1⟩, nm1, ar1, aq1, aF1, ai1, ⟨al1, am1, ax1⟩, ch1, dp1⟩ := nd.ra (c := c) hn hv.1.2.1
  have n66 : ¬ tkd c = 66 := by rw [ek]; decide
  refine mw_go mu_g411 (k := 2) (f1 := (4, [(0, .inr (.inr (some 169))), (1, .inr (.inr (some q))), (2, .inr (.inr (some (D.ip j))))], [.inl (mu_i H q 7)], H)) (C := [mu_is H (some q) 18]) rfl (show mu_is H (some q) 18 from is1) ?_
  refine mw_fr (f' := (4, [(0, .inr (.inr (some 169))), (1, .inr (.inr (some q))), (2, .inr (.inr (some (D.ip j))))], [.inl (cof (txt (tkd c)))], H)) (by first | (rw [n7_1]; done) | (rw [n7_1]; rfl)) ?_
  refine mw_fr (f' := (4, [(0, .inr (.inr (some 169))), (1, .inr (.inr (some q))), (2, .inr (.inr (some (D.ip j))))], [.inl (6 : Int32)], H)) (by rw [show (cof (txt (tkd c))) = (6 : Int32) by rw [ek]; decide]) ?_
  refine mw_swi (i := 5) rfl (by decide) rfl (by decide) (by decide) ?_
  show mu_W _ mu_m411 (154, [(0, .inr (.inr (some 169))), (1, .inr (.inr (some q))), (2, .inr (.inr (some (D.ip j))))], [], H) _
  have t1 : 0 < tsn c := exw_1 hw.1 (by rw [ek]; decide)
  obtain ⟨y, yr2, yn2⟩ := ch1 0 t1
  have yn2 : nd Hb D.G (dd - 1) y (tkk c 0) := yn2
  obtain ⟨b1_2, b2_2, b3_2, b4_2⟩ := ar_at ai1 (by decide) (Nat.lt_of_lt_of_le t1 al1) (Nat.lt_of_le_of_lt ax1 (by decide))
  have y2_2 : mu_r H ar1 (0 : Int32).toNatClampNeg = some y := yr2
  refine mw_go mu_g411 (k := 4) (f1 := (160, [(0, .inr (.inr (some 169))), (1, .inr (.inr (some q))), (2, .inr (.inr (some (D.ip j))))], [.inr (.inr (mu_r H q 1)), .inr (.inr (some 169)), .inl (1 : Int32)], H)) (C := [mu_is H (some q) 18]) rfl (show mu_is H (some q) 18 from is1) ?_
  refine mw_fr (f' := (160, [(0, .inr (.inr (some 169))), (1, .inr (.inr (some q))), (2, .inr (.inr (some (D.ip j))))], [.inr (.inr (some ar1)), .inr (.inr (some 169)), .inl (1 : Int32)], H)) (by first | (rw [aq1]; done) | (rw [aq1]; rfl)) ?_
  refine mw_go mu_g411 (k := 2) (f1 := (162, [(0, .inr (.inr (some 169))), (1, .inr (.inr (some q))), (2, .inr (.inr (some (D.ip j))))], [.inr (.inr (mu_r H ar1 (0 : Int32).toNatClampNeg)), .inr (.inr (some 169)), .inl (1 : Int32)], H)) (C := [mu_is H (some ar1) (mu_k H ar1), 103 ≤ mu_k H ar1 ∧ mu_k H ar1 ≤ 110 ∧ mu_k H ar1 ≠ 108, vp_in (0 : Int32) (mu_n H ar1)]) rfl (show (mu_is H (some ar1) (mu_k H ar1)) ∧ (103 ≤ mu_k H ar1 ∧ mu_k H ar1 ≤ 110 ∧ mu_k H ar1 ≠ 108) ∧ (vp_in (0 : Int32) (mu_n H ar1)) from ⟨b1_2, b2_2, b3_2⟩) ?_
  refine mw_fr (f' := (162, [(0, .inr (.inr (some 169))), (1, .inr (.inr (some q))), (2, .inr (.inr (some (D.ip j))))], [.inr (.inr (some y)), .inr (.inr (some 169)), .inl (1 : Int32)], H)) (by first | (rw [y2_2]; done) | (rw [y2_2]; rfl)) ?_
  refine mw_go mu_g411 (k := 1) (f1 := (163, [(0, .inr (.inr (some 169))), (1, .inr (.inr (some q))), (2, .inr (.inr (some (D.ip j))))], [.inr (.inr (some (D.ip j))), .inr (.inr (some y)), .inr (.inr (some 169)), .inl (1 : Int32)], H)) (C := []) rfl trivial ?_
  refine mw_cI (fun _ => rfl) (show mu_is H (some 169) 1 from hv.1.2.2.1.1) (mu_TI.up (show f + 2 * l + 6 ≤ f + 2 * l + 7 by omega) (ih _ _ _ _ hv yn2 (hw.t n66 t1 hst).1 (hw.t n66 t1 hst).2)) (fun x3 H3 q3 => ?_)
  obtain ⟨hv3, hf3⟩ := q3
  refine mw_go mu_g411 (k := 1) (f1 := (167, [(0, .inr (.inr (some 169))), (1, .inr (.inr (some q))), (2, .inr (.inr (some (D.ip j))))], [.inl ((1 : Int32) - x3)], H3)) (C := []) rfl trivial ?_
  exact mw_of (fun _ => mu_ret rfl trivial ⟨_, _, rfl, hv3, ((vfk.rf (pk := pk) (pa := pa) (H := H)).tr hf3)⟩)
theorem rp_v65 {tr : Prop} {Hb H : mu_H} {D : MD} {ph pt pk pa j f l dd q : Nat} {c : Tre} (hv : vsta tr Hb D ph pt pk pa H) (hn : nd Hb D.G dd q c) (hw : vcw tr D j (l + 1) c) (hst : hlx D (l + 1) j c) (ih : vlk tr Hb D ph pt pk pa j f l) (ek : tkd c = 65) : mu_W (mu_D (f + 2 * l + 7)) mu_m411 (0, [(0, .inr (.inr (some 169))), (1, .inr (.inr (some q))), (2, .inr (.inr (some (D.ip j))))], [], H) (fun r => ∃ x H1, r = (.inl (some (.inl x)), H1) ∧ vsta tr Hb D ph pt pk pa H1 ∧ vfk pk pa H H1) := by
  obtain ⟨kd1, ⟨is1, nF1, lt1⟩, ⟨st1, sr1, sf1⟩, ⟨n2_1, n3_1, n7_1⟩, nm1, ar1, aq1, aF1, ai1, ⟨al1, am1, ax1⟩, ch1, dp1⟩ := nd.ra (c := c) hn hv.1.2.1
  have n66 : ¬ tkd c = 66 := by rw [ek]; decide
  refine mw_go mu_g411 (k := 2) (f1 := (4, [(0, .inr (.inr (some 169))), (1, .inr (.inr (some q))), (2, .inr (.inr (some (D.ip j))))], [.inl (mu_i H q 7)], H)) (C := [mu_is H (some q) 18]) rfl (show mu_is H (some q) 18 from is1) ?_
  refine mw_fr (f' := (4, [(0, .inr (.inr (some 169))), (1, .inr (.inr (some q))), (2, .inr (.inr (some (D.ip j))))], [.inl (cof (txt (tkd c)))], H)) (by first | (rw [n7_1]; done) | (rw [n7_1]; rfl)) ?_
  refine mw_fr (f' := (4, [(0, .inr (.inr (some 169))), (1, .inr (.inr (some q))), (2, .inr (.inr (some (D.ip j))))], [.inl (7 : Int32)], H)) (by rw [show (cof (txt (tkd c))) = (7 : Int32) by rw [ek]; decide]) ?_
  refine mw_swi (i := 6) rfl (by decide) rfl (by decide) (by decide) ?_
  show mu_W _ mu_m411 (168, [(0, .inr (.inr (some 169))), (1, .inr (.inr (some q))), (2, .inr (.inr (some (D.ip j))))], [], H) _
  have t1 : 0 < tsn c := exw_1 hw.1 (by rw [ek]; decide)
  obtain ⟨y, yr2, yn2⟩ := ch1 0 t1
  have yn2 : nd Hb D.G (dd - 1) y (tkk c 0) := yn2
  obtain ⟨b1_2, b2_2, b3_2, b4_2⟩ := ar_at ai1 (by decide) (Nat.lt_of_lt_of_le t1 al1) (Nat.lt_of_le_of_lt ax1 (by decide))
  have y2_2 : mu_r H ar1 (0 : Int32).toNatClampNeg = some y := yr2
  refine mw_go mu_g411 (k := 3) (f1 := (173, [(0, .inr (.inr (some 169))), (1, .inr (.inr (some q))), (2, .inr (.inr (some (D.ip j))))], [.inr (.inr (mu_r H q 1)), .inr (.inr (some 169))], H)) (C := [mu_is H (some q) 18]) rfl (show mu_is H (some q) 18 from is1) ?_
  refine mw_fr (f' := (173, [(0, .inr (.inr (some 169))), (1, .inr (.inr (some q))), (2, .inr (.inr (some (D.ip j))))], [.inr (.inr (some ar1)), .inr (.inr (some 169))], H)) (by first | (rw [aq1]; done) | (rw [aq1]; rfl)) ?_
  refine mw_go mu_g411 (k := 2) (f1 := (175, [(0, .inr (.inr (some 169))), (1, .inr (.inr (some q))), (2, .inr (.inr (some (D.ip j))))], [.inr (.inr (mu_r H ar1 (0 : Int32).toNatClampNeg)), .inr (.inr (some 169))], H)) (C := [mu_is H (some ar1) (mu_k H ar1), 103 ≤ mu_k H ar1 ∧ mu_k H ar1 ≤ 110 ∧ mu_k H ar1 ≠ 108, vp_in (0 : Int32) (mu_n H ar1)]) rfl (show (mu_is H (some ar1) (mu_k H ar1)) ∧ (103 ≤ mu_k H ar1 ∧ mu_k H ar1 ≤ 110 ∧ mu_k H ar1 ≠ 108) ∧ (vp_in (0 : Int32) (mu_n H ar1)) from ⟨b1_2, b2_2, b3_2⟩) ?_
  refine mw_fr (f' := (175, [(0, .inr (.inr (some 169))), (1, .inr (.inr (some q))), (2, .inr (.inr (some (D.ip j))))], [.inr (.inr (some y)), .inr (.inr (some 169))], H)) (by first | (rw [y2_2]; done) | (rw [y2_2]; rfl)) ?_
  refine mw_go mu_g411 (k := 1) (f1 := (176, [(0, .inr (.inr (some 169))), (1, .inr (.inr (some q))), (2, .inr (.inr (some (D.ip j))))], [.inr (.inr (some (D.ip j))), .inr (.inr (some y)), .inr (.inr (some 169))], H)) (C := []) rfl trivial ?_
  refine mw_cI (fun _ => rfl) (show mu_is H (some 169) 1 from hv.1.2.2.1.1) (mu_TI.up (show f + 2 * l + 6 ≤ f + 2 * l + 7 by omega) (ih _ _ _ _ hv yn2 (hw.t n66 t1 hst).1 (hw.t n66 t1 hst).2)) (fun x3 H3 q3 => ?_)
  obtain ⟨hv3, hf3⟩ := q3
  refine mw_go mu_g411 (k := 1) (f1 := (180, [(0, .inr (.inr (some 169))), (1, .inr (.inr (some q))), (2, .inr (.inr (some (D.ip j))))], [.inl (-x3)], H3)) (C := []) rfl trivial ?_
  refine mw_cIe (fun _ => rfl) trivial (rp_wrap (d := f + 2 * l + 6)) ?_
  exact mw_of (fun _ => mu_ret rfl trivial ⟨_, _, rfl, hv3, ((vfk.rf (pk := pk) (pa := pa) (H := H)).tr hf3)⟩)
theorem rp_vL9 {tr : Prop} {Hb H0 : mu_H} {D : MD} {ph pt pk pa j f l dd q : Nat} {c : Tre} (hn : nd Hb D.G dd q c) (hw : vcw tr D j (l + 1) c) (hst : hlx D (l + 1) j c) (ih : vlk tr Hb D ph pt pk pa j f l) (n66 : ¬ tkd c = 66) : ∀ m_ k H, k + m_ = tsn c → vsta tr Hb D ph pt pk pa H → vfk pk pa H0 H → mu_W (mu_D (f + 2 * l + 7)) mu_m411 (241, [(4, .inl (nI k)), (0, .inr (.inr (some 169))), (1, .inr (.inr (some q))), (2, .inr (.inr (some (D.ip j))))], [], H) (fun r => ∃ x H1, r = (.inl (some (.inl x)), H1) ∧ vsta tr Hb D ph pt pk pa H1 ∧ vfk pk pa H0 H1)
  | 0, k, H, hm_, hv, hf => by
    obtain ⟨kd1, ⟨is1, nF1, lt1⟩, ⟨st1, sr1, sf1⟩, ⟨n2_1, n3_1, n7_1⟩, nm1, ar1, aq1, aF1, ai1, ⟨al1, am1, ax1⟩, ch1, dp1⟩ := nd.ra (c := c) hn hv.1.2.1
    have hl := hn.s26
    refine mw_go mu_g411 (k := 3) (f1 := (247, [(4, .inl (nI k)), (0, .inr (.inr (some 169))), (1, .inr (.inr (some q))), (2, .inr (.inr (some (D.ip j))))], [.inl (mu_i H q 2), .inl (nI k)], H)) (C := [mu_is H (some q) 18]) rfl (show mu_is H (some q) 18 from is1) ?_
    refine mw_fr (f' := (247, [(4, .inl (nI k)), (0, .inr (.inr (some 169))), (1, .inr (.inr (some q))), (2, .inr (.inr (some (D.ip j))))], [.inl (nI (tsn c)), .inl (nI k)], H)) (by first | (rw [n2_1]; done) | (rw [n2_1]; rfl)) ?_
    refine mw_if (P := (nI k) < (nI (tsn c))) (a := 250) (b := 273) (fun _ => rfl) trivial (fun h1 => absurd h1 (by rw [show k = tsn c by omega]; exact Int32.lt_irrefl)) (fun h1 => ?_)
    refine mw_go mu_g411 (k := 1) (f1 := (274, [(4, .inl (nI k)), (0, .inr (.inr (some 169))), (1, .inr (.inr (some q))), (2, .inr (.inr (some (D.ip j))))], [.inl (1 : Int32)], H)) (C := []) rfl trivial ?_
    exact mw_of (fun _ => mu_ret rfl trivial ⟨_, _, rfl, hv, hf⟩)
  | m_ + 1, k, H, hm_, hv, hf => by
    obtain ⟨kd1, ⟨is1, nF1, lt1⟩, ⟨st1, sr1, sf1⟩, ⟨n2_1, n3_1, n7_1⟩, nm1, ar1, aq1, aF1, ai1, ⟨al1, am1, ax1⟩, ch1, dp1⟩ := nd.ra (c := c) hn hv.1.2.1
    have hl := hn.s26
    have kt : k < tsn c := by omega
    refine mw_go mu_g411 (k := 3) (f1 := (247, [(4, .inl (nI k)), (0, .inr (.inr (some 169))), (1, .inr (.inr (some q))), (2, .inr (.inr (some (D.ip j))))], [.inl (mu_i H q 2), .inl (nI k)], H)) (C := [mu_is H (some q) 18]) rfl (show mu_is H (some q) 18 from is1) ?_
    refine mw_fr (f' := (247, [(4, .inl (nI k)), (0, .inr (.inr (some 169))), (1, .inr (.inr (some q))), (2, .inr (.inr (some (D.ip j))))], [.inl (nI (tsn c)), .inl (nI k)], H)) (by first | (rw [n2_1]; done) | (rw [n2_1]; rfl)) ?_
    refine mw_if (P := (nI k) < (nI (tsn c))) (a := 250) (b := 273) (fun _ => rfl) trivial (fun h1 => ?_) (fun h1 => absurd (nI_lt kt (by omega)) h1)
    obtain ⟨y, yr2, yn2⟩ := ch1 k kt
    have yn2 : nd Hb D.G (dd - 1) y (tkk c k) := yn2
    obtain ⟨b1_2, b2_2, b3_2, b4_2⟩ := ar_at ai1 (by decide) (Nat.lt_of_lt_of_le kt al1) (Nat.lt_of_le_of_lt ax1 (by decide))
    have y2_2 : mu_r H ar1 (nI k).toNatClampNeg = some y := by rw [b4_2]; exact yr2
    refine mw_go mu_g411 (k := 3) (f1 := (255, [(4, .inl (nI k)), (0, .inr (.inr (some 169))), (1, .inr (.inr (some q))), (2, .inr (.inr (some (D.ip j))))], [.inr (.inr (mu_r H q 1)), .inr (.inr (some 169))], H)) (C := [mu_is H (some q) 18]) rfl (show mu_is H (some q) 18 from is1) ?_
    refine mw_fr (f' := (255, [(4, .inl (nI k)), (0, .inr (.inr (some 169))), (1, .inr (.inr (some q))), (2, .inr (.inr (some (D.ip j))))], [.inr (.inr (some ar1)), .inr (.inr (some 169))], H)) (by first | (rw [aq1]; done) | (rw [aq1]; rfl)) ?_
    refine mw_go mu_g411 (k := 2) (f1 := (258, [(4, .inl (nI k)), (0, .inr (.inr (some 169))), (1, .inr (.inr (some q))), (2, .inr (.inr (some (D.ip j))))], [.inr (.inr (mu_r H ar1 (nI k).toNatClampNeg)), .inr (.inr (some 169))], H)) (C := [mu_is H (some ar1) (mu_k H ar1), 103 ≤ mu_k H ar1 ∧ mu_k H ar1 ≤ 110 ∧ mu_k H ar1 ≠ 108, vp_in (nI k) (mu_n H ar1)]) rfl (show (mu_is H (some ar1) (mu_k H ar1)) ∧ (103 ≤ mu_k H ar1 ∧ mu_k H ar1 ≤ 110 ∧ mu_k H ar1 ≠ 108) ∧ (vp_in (nI k) (mu_n H ar1)) from ⟨b1_2, b2_2, b3_2⟩) ?_
    refine mw_fr (f' := (258, [(4, .inl (nI k)), (0, .inr (.inr (some 169))), (1, .inr (.inr (some q))), (2, .inr (.inr (some (D.ip j))))], [.inr (.inr (some y)), .inr (.inr (some 169))], H)) (by first | (rw [y2_2]; done) | (rw [y2_2]; rfl)) ?_
    refine mw_go mu_g411 (k := 1) (f1 := (259, [(4, .inl (nI k)), (0, .inr (.inr (some 169))), (1, .inr (.inr (some q))), (2, .inr (.inr (some (D.ip j))))], [.inr (.inr (some (D.ip j))), .inr (.inr (some y)), .inr (.inr (some 169))], H)) (C := []) rfl trivial ?_
    refine mw_cI (fun _ => rfl) (show mu_is H (some 169) 1 from hv.1.2.2.1.1) (mu_TI.up (show f + 2 * l + 6 ≤ f + 2 * l + 7 by omega) (ih _ _ _ _ hv yn2 (hw.t n66 kt hst).1 (hw.t n66 kt hst).2)) (fun x3 H3 q3 => ?_)
    obtain ⟨hv3, hf3⟩ := q3
    refine mw_if (P := x3 = 0) (a := 265) (b := 267) (fun _ => rfl) trivial (fun h2 => ?_) (fun h2 => ?_)
    · -- 265
      refine mw_go mu_g411 (k := 1) (f1 := (266, [(4, .inl (nI k)), (0, .inr (.inr (some 169))), (1, .inr (.inr (some q))), (2, .inr (.inr (some (D.ip j))))], [.inl (0 : Int32)], H3)) (C := []) rfl trivial ?_
      exact mw_of (fun _ => mu_ret rfl trivial ⟨_, _, rfl, hv3, (hf.tr hf3)⟩)
    · -- 267
      refine mw_go mu_g411 (k := 2) (f1 := (241, [(4, .inl ((nI k) + 1)), (0, .inr (.inr (some 169))), (1, .inr (.inr (some q))), (2, .inr (.inr (some (D.ip j))))], [], H3)) (C := []) rfl trivial ?_
      refine mw_sub (L' := [(4, .inl (nI (k + 1))), (0, .inr (.inr (some 169))), (1, .inr (.inr (some q))), (2, .inr (.inr (some (D.ip j))))]) (by intro x hx; simp only [List.mem_cons, List.not_mem_nil, or_false] at hx ⊢; rcases hx with rfl | rfl | rfl | rfl <;> first | (simp [nI_add, show (1 : Int32) = nI 1 from rfl, show (2 : Int32) = nI 2 from rfl]; done) | simp [nI]) ?_
      exact rp_vL9 hn hw hst ih n66 m_ (k + 1) _ (by omega) hv3 (hf.tr hf3)
theorem rp_v19 {tr : Prop} {Hb H : mu_H} {D : MD} {ph pt pk pa j f l dd q : Nat} {c : Tre} (hv : vsta tr Hb D ph pt pk pa H) (hn : nd Hb D.G dd q c) (hw : vcw tr D j (l + 1) c) (hst : hlx D (l + 1) j c) (ih : vlk tr Hb D ph pt pk pa j f l) (ek : tkd c = 19) : mu_W (mu_D (f + 2 * l + 7)) mu_m411 (0, [(0, .inr (.inr (some 169))), (1, .inr (.inr (some q))), (2, .inr (.inr (some (D.ip j))))], [], H) (fun r => ∃ x H1, r = (.inl (some (.inl x)), H1) ∧ vsta tr Hb D ph pt pk pa H1 ∧ vfk pk pa H H1) := by
  obtain ⟨kd1, ⟨is1, nF1, lt1⟩, ⟨st1, sr1, sf1⟩, ⟨n2_1, n3_1, n7_1⟩, nm1, ar1, aq1, aF1, ai1, ⟨al1, am1, ax1⟩, ch1, dp1⟩ := nd.ra (c := c) hn hv.1.2.1
  have n66 : ¬ tkd c = 66 := by rw [ek]; decide
  refine mw_go mu_g411 (k := 2) (f1 := (4, [(0, .inr (.inr (some 169))), (1, .inr (.inr (some q))), (2, .inr (.inr (some (D.ip j))))], [.inl (mu_i H q 7)], H)) (C := [mu_is H (some q) 18]) rfl (show mu_is H (some q) 18 from is1) ?_
  refine mw_fr (f' := (4, [(0, .inr (.inr (some 169))), (1, .inr (.inr (some q))), (2, .inr (.inr (some (D.ip j))))], [.inl (cof (txt (tkd c)))], H)) (by first | (rw [n7_1]; done) | (rw [n7_1]; rfl)) ?_
  refine mw_fr (f' := (4, [(0, .inr (.inr (some 169))), (1, .inr (.inr (some q))), (2, .inr (.inr (some (D.ip j))))], [.inl (9 : Int32)], H)) (by rw [show (cof (txt (tkd c))) = (9 : Int32) by rw [ek]; decide]) ?_
  refine mw_swi (i := 8) rfl (by decide) rfl (by decide) (by decide) ?_
  show mu_W _ mu_m411 (238, [(0, .inr (.inr (some 169))), (1, .inr (.inr (some q))), (2, .inr (.inr (some (D.ip j))))], [], H) _
  refine mw_go mu_g411 (k := 2) (f1 := (241, [(4, .inl (0 : Int32)), (0, .inr (.inr (some 169))), (1, .inr (.inr (some q))), (2, .inr (.inr (some (D.ip j))))], [], H)) (C := []) rfl trivial ?_
  refine mw_sub (L' := [(4, .inl (nI 0)), (0, .inr (.inr (some 169))), (1, .inr (.inr (some q))), (2, .inr (.inr (some (D.ip j))))]) (by intro x hx; simp only [List.mem_cons, List.not_mem_nil, or_false] at hx ⊢; rcases hx with rfl | rfl | rfl | rfl <;> first | (simp [nI_add, show (1 : Int32) = nI 1 from rfl, show (2 : Int32) = nI 2 from rfl]; done) | simp [nI]) ?_
  exact rp_vL9 hn hw hst ih n66 (tsn c) 0 _ (Nat.zero_add _) hv vfk.rf
theorem rp_vL2 {tr : Prop} {Hb H0 : mu_H} {D : MD} {ph pt pk pa j f l dd q : Nat} {c : Tre} (hn : nd Hb D.G dd q c) (hw : vcw tr D j (l + 1) c) (hst : hlx D (l + 1) j c) (ih : vlk tr Hb D ph pt pk pa j f l) (n66 : ¬ tkd c = 66) (h2t : 2 ≤ tsn c) : ∀ m_ k H, k + 1 + m_ = tsn c → vsta tr Hb D ph pt pk pa H → vfk pk pa H0 H → mu_W (mu_D (f + 2 * l + 7)) mu_m411 (187, [(4, .inl (nI k)), (0, .inr (.inr (some 169))), (1, .inr (.inr (some q))), (2, .inr (.inr (some (D.ip j))))], [], H) (fun r => ∃ x H1, r = (.inl (some (.inl x)), H1) ∧ vsta tr Hb D ph pt pk pa H1 ∧ vfk pk pa H0 H1)
  | 0, k, H, hm_, hv, hf => by
    obtain ⟨kd1, ⟨is1, nF1, lt1⟩, ⟨st1, sr1, sf1⟩, ⟨n2_1, n3_1, n7_1⟩, nm1, ar1, aq1, aF1, ai1, ⟨al1, am1, ax1⟩, ch1, dp1⟩ := nd.ra (c := c) hn hv.1.2.1
    have hl := hn.s26
    have eS : nI (tsn c) - (1 : Int32) = nI (tsn c - 1) := by rw [pI_sub, show tsn c = (tsn c - 1) + 1 by omega]; rfl
    refine mw_go mu_g411 (k := 3) (f1 := (193, [(4, .inl (nI k)), (0, .inr (.inr (some 169))), (1, .inr (.inr (some q))), (2, .inr (.inr (some (D.ip j))))], [.inl (mu_i H q 2), .inl (nI k)], H)) (C := [mu_is H (some q) 18]) rfl (show mu_is H (some q) 18 from is1) ?_
    refine mw_fr (f' := (193, [(4, .inl (nI k)), (0, .inr (.inr (some 169))), (1, .inr (.inr (some q))), (2, .inr (.inr (some (D.ip j))))], [.inl (nI (tsn c)), .inl (nI k)], H)) (by first | (rw [n2_1]; done) | (rw [n2_1]; rfl)) ?_
    refine mw_go mu_g411 (k := 2) (f1 := (195, [(4, .inl (nI k)), (0, .inr (.inr (some 169))), (1, .inr (.inr (some q))), (2, .inr (.inr (some (D.ip j))))], [.inl ((nI (tsn c)) - (1 : Int32)), .inl (nI k)], H)) (C := []) rfl trivial ?_
    refine mw_fr (f' := (195, [(4, .inl (nI k)), (0, .inr (.inr (some 169))), (1, .inr (.inr (some q))), (2, .inr (.inr (some (D.ip j))))], [.inl (nI (tsn c - 1)), .inl (nI k)], H)) (by first | (rw [eS]; done) | (rw [eS]; rfl)) ?_
    refine mw_if (P := (nI k) < (nI (tsn c - 1))) (a := 198) (b := 221) (fun _ => rfl) trivial (fun h1 => absurd h1 (by rw [show k = tsn c - 1 by omega]; exact Int32.lt_irrefl)) (fun h1 => ?_)
    have kt : tsn c - 1 < tsn c := by omega
    obtain ⟨y, yr2, yn2⟩ := ch1 (tsn c - 1) kt
    have yn2 : nd Hb D.G (dd - 1) y (tkk c (tsn c - 1)) := yn2
    obtain ⟨b1_2, b2_2, b3_2, b4_2⟩ := ar_at ai1 (by decide) (Nat.lt_of_lt_of_le kt al1) (Nat.lt_of_le_of_lt ax1 (by decide))
    have y2_2 : mu_r H ar1 (nI (tsn c - 1)).toNatClampNeg = some y := by rw [b4_2]; exact yr2
    refine mw_go mu_g411 (k := 3) (f1 := (226, [(4, .inl (nI k)), (0, .inr (.inr (some 169))), (1, .inr (.inr (some q))), (2, .inr (.inr (some (D.ip j))))], [.inr (.inr (mu_r H q 1)), .inr (.inr (some 169))], H)) (C := [mu_is H (some q) 18]) rfl (show mu_is H (some q) 18 from is1) ?_
    refine mw_fr (f' := (226, [(4, .inl (nI k)), (0, .inr (.inr (some 169))), (1, .inr (.inr (some q))), (2, .inr (.inr (some (D.ip j))))], [.inr (.inr (some ar1)), .inr (.inr (some 169))], H)) (by first | (rw [aq1]; done) | (rw [aq1]; rfl)) ?_
    refine mw_go mu_g411 (k := 2) (f1 := (230, [(4, .inl (nI k)), (0, .inr (.inr (some 169))), (1, .inr (.inr (some q))), (2, .inr (.inr (some (D.ip j))))], [.inl (mu_i H q 2), .inr (.inr (some ar1)), .inr (.inr (some 169))], H)) (C := [mu_is H (some q) 18]) rfl (show mu_is H (some q) 18 from is1) ?_
    refine mw_fr (f' := (230, [(4, .inl (nI k)), (0, .inr (.inr (some 169))), (1, .inr (.inr (some q))), (2, .inr (.inr (some (D.ip j))))], [.inl (nI (tsn c)), .inr (.inr (some ar1)), .inr (.inr (some 169))], H)) (by first | (rw [n2_1]; done) | (rw [n2_1]; rfl)) ?_
    refine mw_go mu_g411 (k := 2) (f1 := (232, [(4, .inl (nI k)), (0, .inr (.inr (some 169))), (1, .inr (.inr (some q))), (2, .inr (.inr (some (D.ip j))))], [.inl ((nI (tsn c)) - (1 : Int32)), .inr (.inr (some ar1)), .inr (.inr (some 169))], H)) (C := []) rfl trivial ?_
    refine mw_fr (f' := (232, [(4, .inl (nI k)), (0, .inr (.inr (some 169))), (1, .inr (.inr (some q))), (2, .inr (.inr (some (D.ip j))))], [.inl (nI (tsn c - 1)), .inr (.inr (some ar1)), .inr (.inr (some 169))], H)) (by first | (rw [eS]; done) | (rw [eS]; rfl)) ?_
    refine mw_go mu_g411 (k := 1) (f1 := (233, [(4, .inl (nI k)), (0, .inr (.inr (some 169))), (1, .inr (.inr (some q))), (2, .inr (.inr (some (D.ip j))))], [.inr (.inr (mu_r H ar1 (nI (tsn c - 1)).toNatClampNeg)), .inr (.inr (some 169))], H)) (C := [mu_is H (some ar1) (mu_k H ar1), 103 ≤ mu_k H ar1 ∧ mu_k H ar1 ≤ 110 ∧ mu_k H ar1 ≠ 108, vp_in (nI (tsn c - 1)) (mu_n H ar1)]) rfl (show (mu_is H (some ar1) (mu_k H ar1)) ∧ (103 ≤ mu_k H ar1 ∧ mu_k H ar1 ≤ 110 ∧ mu_k H ar1 ≠ 108) ∧ (vp_in (nI (tsn c - 1)) (mu_n H ar1)) from ⟨b1_2, b2_2, b3_2⟩) ?_
    refine mw_fr (f' := (233, [(4, .inl (nI k)), (0, .inr (.inr (some 169))), (1, .inr (.inr (some q))), (2, .inr (.inr (some (D.ip j))))], [.inr (.inr (some y)), .inr (.inr (some 169))], H)) (by first | (rw [y2_2]; done) | (rw [y2_2]; rfl)) ?_
    refine mw_go mu_g411 (k := 1) (f1 := (234, [(4, .inl (nI k)), (0, .inr (.inr (some 169))), (1, .inr (.inr (some q))), (2, .inr (.inr (some (D.ip j))))], [.inr (.inr (some (D.ip j))), .inr (.inr (some y)), .inr (.inr (some 169))], H)) (C := []) rfl trivial ?_
    refine mw_cI (fun _ => rfl) (show mu_is H (some 169) 1 from hv.1.2.2.1.1) (mu_TI.up (show f + 2 * l + 6 ≤ f + 2 * l + 7 by omega) (ih _ _ _ _ hv yn2 (hw.t n66 kt hst).1 (hw.t n66 kt hst).2)) (fun x3 H3 q3 => ?_)
    obtain ⟨hv3, hf3⟩ := q3
    exact mw_of (fun _ => mu_ret rfl trivial ⟨_, _, rfl, hv3, (hf.tr hf3)⟩)
  | m_ + 1, k, H, hm_, hv, hf => by
    obtain ⟨kd1, ⟨is1, nF1, lt1⟩, ⟨st1, sr1, sf1⟩, ⟨n2_1, n3_1, n7_1⟩, nm1, ar1, aq1, aF1, ai1, ⟨al1, am1, ax1⟩, ch1, dp1⟩ := nd.ra (c := c) hn hv.1.2.1
    have hl := hn.s26
    have eS : nI (tsn c) - (1 : Int32) = nI (tsn c - 1) := by rw [pI_sub, show tsn c = (tsn c - 1) + 1 by omega]; rfl
    have kt : k < tsn c := by omega
    refine mw_go mu_g411 (k := 3) (f1 := (193, [(4, .inl (nI k)), (0, .inr (.inr (some 169))), (1, .inr (.inr (some q))), (2, .inr (.inr (some (D.ip j))))], [.inl (mu_i H q 2), .inl (nI k)], H)) (C := [mu_is H (some q) 18]) rfl (show mu_is H (some q) 18 from is1) ?_
    refine mw_fr (f' := (193, [(4, .inl (nI k)), (0, .inr (.inr (some 169))), (1, .inr (.inr (some q))), (2, .inr (.inr (some (D.ip j))))], [.inl (nI (tsn c)), .inl (nI k)], H)) (by first | (rw [n2_1]; done) | (rw [n2_1]; rfl)) ?_
    refine mw_go mu_g411 (k := 2) (f1 := (195, [(4, .inl (nI k)), (0, .inr (.inr (some 169))), (1, .inr (.inr (some q))), (2, .inr (.inr (some (D.ip j))))], [.inl ((nI (tsn c)) - (1 : Int32)), .inl (nI k)], H)) (C := []) rfl trivial ?_
    refine mw_fr (f' := (195, [(4, .inl (nI k)), (0, .inr (.inr (some 169))), (1, .inr (.inr (some q))), (2, .inr (.inr (some (D.ip j))))], [.inl (nI (tsn c - 1)), .inl (nI k)], H)) (by first | (rw [eS]; done) | (rw [eS]; rfl)) ?_
    refine mw_if (P := (nI k) < (nI (tsn c - 1))) (a := 198) (b := 221) (fun _ => rfl) trivial (fun h1 => ?_) (fun h1 => absurd (nI_lt (show k < tsn c - 1 by omega) (by omega)) h1)
    obtain ⟨y, yr2, yn2⟩ := ch1 k kt
    have yn2 : nd Hb D.G (dd - 1) y (tkk c k) := yn2
    obtain ⟨b1_2, b2_2, b3_2, b4_2⟩ := ar_at ai1 (by decide) (Nat.lt_of_lt_of_le kt al1) (Nat.lt_of_le_of_lt ax1 (by decide))
    have y2_2 : mu_r H ar1 (nI k).toNatClampNeg = some y := by rw [b4_2]; exact yr2
    refine mw_go mu_g411 (k := 3) (f1 := (203, [(4, .inl (nI k)), (0, .inr (.inr (some 169))), (1, .inr (.inr (some q))), (2, .inr (.inr (some (D.ip j))))], [.inr (.inr (mu_r H q 1)), .inr (.inr (some 169))], H)) (C := [mu_is H (some q) 18]) rfl (show mu_is H (some q) 18 from is1) ?_
    refine mw_fr (f' := (203, [(4, .inl (nI k)), (0, .inr (.inr (some 169))), (1, .inr (.inr (some q))), (2, .inr (.inr (some (D.ip j))))], [.inr (.inr (some ar1)), .inr (.inr (some 169))], H)) (by first | (rw [aq1]; done) | (rw [aq1]; rfl)) ?_
    refine mw_go mu_g411 (k := 2) (f1 := (206, [(4, .inl (nI k)), (0, .inr (.inr (some 169))), (1, .inr (.inr (some q))), (2, .inr (.inr (some (D.ip j))))], [.inr (.inr (mu_r H ar1 (nI k).toNatClampNeg)), .inr (.inr (some 169))], H)) (C := [mu_is H (some ar1) (mu_k H ar1), 103 ≤ mu_k H ar1 ∧ mu_k H ar1 ≤ 110 ∧ mu_k H ar1 ≠ 108, vp_in (nI k) (mu_n H ar1)]) rfl (show (mu_is H (some ar1) (mu_k H ar1)) ∧ (103 ≤ mu_k H ar1 ∧ mu_k H ar1 ≤ 110 ∧ mu_k H ar1 ≠ 108) ∧ (vp_in (nI k) (mu_n H ar1)) from ⟨b1_2, b2_2, b3_2⟩) ?_
    refine mw_fr (f' := (206, [(4, .inl (nI k)), (0, .inr (.inr (some 169))), (1, .inr (.inr (some q))), (2, .inr (.inr (some (D.ip j))))], [.inr (.inr (some y)), .inr (.inr (some 169))], H)) (by first | (rw [y2_2]; done) | (rw [y2_2]; rfl)) ?_
    refine mw_go mu_g411 (k := 1) (f1 := (207, [(4, .inl (nI k)), (0, .inr (.inr (some 169))), (1, .inr (.inr (some q))), (2, .inr (.inr (some (D.ip j))))], [.inr (.inr (some (D.ip j))), .inr (.inr (some y)), .inr (.inr (some 169))], H)) (C := []) rfl trivial ?_
    refine mw_cI (fun _ => rfl) (show mu_is H (some 169) 1 from hv.1.2.2.1.1) (mu_TI.up (show f + 2 * l + 6 ≤ f + 2 * l + 7 by omega) (ih _ _ _ _ hv yn2 (hw.t n66 kt hst).1 (hw.t n66 kt hst).2)) (fun x3 H3 q3 => ?_)
    obtain ⟨hv3, hf3⟩ := q3
    refine mw_if (P := x3 = 0) (a := 213) (b := 215) (fun _ => rfl) trivial (fun h2 => ?_) (fun h2 => ?_)
    · -- 213
      refine mw_go mu_g411 (k := 1) (f1 := (214, [(4, .inl (nI k)), (0, .inr (.inr (some 169))), (1, .inr (.inr (some q))), (2, .inr (.inr (some (D.ip j))))], [.inl (1 : Int32)], H3)) (C := []) rfl trivial ?_
      exact mw_of (fun _ => mu_ret rfl trivial ⟨_, _, rfl, hv3, (hf.tr hf3)⟩)
    · -- 215
      refine mw_go mu_g411 (k := 2) (f1 := (187, [(4, .inl ((nI k) + 1)), (0, .inr (.inr (some 169))), (1, .inr (.inr (some q))), (2, .inr (.inr (some (D.ip j))))], [], H3)) (C := []) rfl trivial ?_
      refine mw_sub (L' := [(4, .inl (nI (k + 1))), (0, .inr (.inr (some 169))), (1, .inr (.inr (some q))), (2, .inr (.inr (some (D.ip j))))]) (by intro x hx; simp only [List.mem_cons, List.not_mem_nil, or_false] at hx ⊢; rcases hx with rfl | rfl | rfl | rfl <;> first | (simp [nI_add, show (1 : Int32) = nI 1 from rfl, show (2 : Int32) = nI 2 from rfl]; done) | simp [nI]) ?_
      exact rp_vL2 hn hw hst ih n66 h2t m_ (k + 1) _ (by omega) hv3 (hf.tr hf3)
theorem rp_v2 {tr : Prop} {Hb H : mu_H} {D : MD} {ph pt pk pa j f l dd q : Nat} {c : Tre} (hv : vsta tr Hb D ph pt pk pa H) (hn : nd Hb D.G dd q c) (hw : vcw tr D j (l + 1) c) (hst : hlx D (l + 1) j c) (ih : vlk tr Hb D ph pt pk pa j f l) (ek : tkd c = 2) : mu_W (mu_D (f + 2 * l + 7)) mu_m411 (0, [(0, .inr (.inr (some 169))), (1, .inr (.inr (some q))), (2, .inr (.inr (some (D.ip j))))], [], H) (fun r => ∃ x H1, r = (.inl (some (.inl x)), H1) ∧ vsta tr Hb D ph pt pk pa H1 ∧ vfk pk pa H H1) := by
  obtain ⟨kd1, ⟨is1, nF1, lt1⟩, ⟨st1, sr1, sf1⟩, ⟨n2_1, n3_1, n7_1⟩, nm1, ar1, aq1, aF1, ai1, ⟨al1, am1, ax1⟩, ch1, dp1⟩ := nd.ra (c := c) hn hv.1.2.1
  have n66 : ¬ tkd c = 66 := by rw [ek]; decide
  refine mw_go mu_g411 (k := 2) (f1 := (4, [(0, .inr (.inr (some 169))), (1, .inr (.inr (some q))), (2, .inr (.inr (some (D.ip j))))], [.inl (mu_i H q 7)], H)) (C := [mu_is H (some q) 18]) rfl (show mu_is H (some q) 18 from is1) ?_
  refine mw_fr (f' := (4, [(0, .inr (.inr (some 169))), (1, .inr (.inr (some q))), (2, .inr (.inr (some (D.ip j))))], [.inl (cof (txt (tkd c)))], H)) (by first | (rw [n7_1]; done) | (rw [n7_1]; rfl)) ?_
  refine mw_fr (f' := (4, [(0, .inr (.inr (some 169))), (1, .inr (.inr (some q))), (2, .inr (.inr (some (D.ip j))))], [.inl (8 : Int32)], H)) (by rw [show (cof (txt (tkd c))) = (8 : Int32) by rw [ek]; decide]) ?_
  refine mw_swi (i := 7) rfl (by decide) rfl (by decide) (by decide) ?_
  show mu_W _ mu_m411 (184, [(0, .inr (.inr (some 169))), (1, .inr (.inr (some q))), (2, .inr (.inr (some (D.ip j))))], [], H) _
  have h2t := exw_2 hw.1 (by rw [ek]; decide)
  refine mw_go mu_g411 (k := 2) (f1 := (187, [(4, .inl (0 : Int32)), (0, .inr (.inr (some 169))), (1, .inr (.inr (some q))), (2, .inr (.inr (some (D.ip j))))], [], H)) (C := []) rfl trivial ?_
  refine mw_sub (L' := [(4, .inl (nI 0)), (0, .inr (.inr (some 169))), (1, .inr (.inr (some q))), (2, .inr (.inr (some (D.ip j))))]) (by intro x hx; simp only [List.mem_cons, List.not_mem_nil, or_false] at hx ⊢; rcases hx with rfl | rfl | rfl | rfl <;> first | (simp [nI_add, show (1 : Int32) = nI 1 from rfl, show (2 : Int32) = nI 2 from rfl]; done) | simp [nI]) ?_
  exact rp_vL2 hn hw hst ih n66 h2t (tsn c - 1) 0 _ (by omega) hv vfk.rf
theorem rp_vL1 {tr : Prop} {Hb H0 : mu_H} {D : MD} {ph pt pk pa j f l dd q : Nat} {c : Tre} (hn : nd Hb D.G dd q c) (hw : vcw tr D j (l + 1) c) (hst : hlx D (l + 1) j c) (ih : vlk tr Hb D ph pt pk pa j f l) (n66 : ¬ tkd c = 66) : ∀ m_ k r H, k + m_ = tsn c → vsta tr Hb D ph pt pk pa H → vfk pk pa H0 H → mu_W (mu_D (f + 2 * l + 7)) mu_m411 (291, [(5, .inl (nI k)), (4, .inl r), (0, .inr (.inr (some 169))), (1, .inr (.inr (some q))), (2, .inr (.inr (some (D.ip j))))], [], H) (fun r => ∃ x H1, r = (.inl (some (.inl x)), H1) ∧ vsta tr Hb D ph pt pk pa H1 ∧ vfk pk pa H0 H1)
  | 0, k, r, H, hm_, hv, hf => by
    obtain ⟨kd1, ⟨is1, nF1, lt1⟩, ⟨st1, sr1, sf1⟩, ⟨n2_1, n3_1, n7_1⟩, nm1, ar1, aq1, aF1, ai1, ⟨al1, am1, ax1⟩, ch1, dp1⟩ := nd.ra (c := c) hn hv.1.2.1
    have hl := hn.s26
    refine mw_go mu_g411 (k := 3) (f1 := (297, [(5, .inl (nI k)), (4, .inl r), (0, .inr (.inr (some 169))), (1, .inr (.inr (some q))), (2, .inr (.inr (some (D.ip j))))], [.inl (mu_i H q 2), .inl (nI k)], H)) (C := [mu_is H (some q) 18]) rfl (show mu_is H (some q) 18 from is1) ?_
    refine mw_fr (f' := (297, [(5, .inl (nI k)), (4, .inl r), (0, .inr (.inr (some 169))), (1, .inr (.inr (some q))), (2, .inr (.inr (some (D.ip j))))], [.inl (nI (tsn c)), .inl (nI k)], H)) (by first | (rw [n2_1]; done) | (rw [n2_1]; rfl)) ?_
    refine mw_if (P := (nI k) < (nI (tsn c))) (a := 300) (b := 334) (fun _ => rfl) trivial (fun h1 => absurd h1 (by rw [show k = tsn c by omega]; exact Int32.lt_irrefl)) (fun h1 => ?_)
    refine mw_go mu_g411 (k := 1) (f1 := (336, [(5, .inl (nI k)), (4, .inl r), (0, .inr (.inr (some 169))), (1, .inr (.inr (some q))), (2, .inr (.inr (some (D.ip j))))], [.inl r], H)) (C := []) rfl trivial ?_
    exact mw_of (fun _ => mu_ret rfl trivial ⟨_, _, rfl, hv, hf⟩)
  | m_ + 1, k, r, H, hm_, hv, hf => by
    obtain ⟨kd1, ⟨is1, nF1, lt1⟩, ⟨st1, sr1, sf1⟩, ⟨n2_1, n3_1, n7_1⟩, nm1, ar1, aq1, aF1, ai1, ⟨al1, am1, ax1⟩, ch1, dp1⟩ := nd.ra (c := c) hn hv.1.2.1
    have hl := hn.s26
    have kt : k < tsn c := by omega
    refine mw_go mu_g411 (k := 3) (f1 := (297, [(5, .inl (nI k)), (4, .inl r), (0, .inr (.inr (some 169))), (1, .inr (.inr (some q))), (2, .inr (.inr (some (D.ip j))))], [.inl (mu_i H q 2), .inl (nI k)], H)) (C := [mu_is H (some q) 18]) rfl (show mu_is H (some q) 18 from is1) ?_
    refine mw_fr (f' := (297, [(5, .inl (nI k)), (4, .inl r), (0, .inr (.inr (some 169))), (1, .inr (.inr (some q))), (2, .inr (.inr (some (D.ip j))))], [.inl (nI (tsn c)), .inl (nI k)], H)) (by first | (rw [n2_1]; done) | (rw [n2_1]; rfl)) ?_
    refine mw_if (P := (nI k) < (nI (tsn c))) (a := 300) (b := 334) (fun _ => rfl) trivial (fun h1 => ?_) (fun h1 => absurd (nI_lt kt (by omega)) h1)
    obtain ⟨y, yr2, yn2⟩ := ch1 k kt
    have yn2 : nd Hb D.G (dd - 1) y (tkk c k) := yn2
    obtain ⟨b1_2, b2_2, b3_2, b4_2⟩ := ar_at ai1 (by decide) (Nat.lt_of_lt_of_le kt al1) (Nat.lt_of_le_of_lt ax1 (by decide))
    have y2_2 : mu_r H ar1 (nI k).toNatClampNeg = some y := by rw [b4_2]; exact yr2
    refine mw_go mu_g411 (k := 5) (f1 := (308, [(5, .inl (nI k)), (4, .inl r), (0, .inr (.inr (some 169))), (1, .inr (.inr (some q))), (2, .inr (.inr (some (D.ip j))))], [.inr (.inr (mu_r H q 1)), .inr (.inr (some 169)), .inl r, .inr (.inr (some 169))], H)) (C := [mu_is H (some q) 18]) rfl (show mu_is H (some q) 18 from is1) ?_
    refine mw_fr (f' := (308, [(5, .inl (nI k)), (4, .inl r), (0, .inr (.inr (some 169))), (1, .inr (.inr (some q))), (2, .inr (.inr (some (D.ip j))))], [.inr (.inr (some ar1)), .inr (.inr (some 169)), .inl r, .inr (.inr (some 169))], H)) (by first | (rw [aq1]; done) | (rw [aq1]; rfl)) ?_
    refine mw_go mu_g411 (k := 2) (f1 := (311, [(5, .inl (nI k)), (4, .inl r), (0, .inr (.inr (some 169))), (1, .inr (.inr (some q))), (2, .inr (.inr (some (D.ip j))))], [.inr (.inr (mu_r H ar1 (nI k).toNatClampNeg)), .inr (.inr (some 169)), .inl r, .inr (.inr (some 169))], H)) (C := [mu_is H (some ar1) (mu_k H ar1), 103 ≤ mu_k H ar1 ∧ mu_k H ar1 ≤ 110 ∧ mu_k H ar1 ≠ 108, vp_in (nI k) (mu_n H ar1)]) rfl (show (mu_is H (some ar1) (mu_k H ar1)) ∧ (103 ≤ mu_k H ar1 ∧ mu_k H ar1 ≤ 110 ∧ mu_k H ar1 ≠ 108) ∧ (vp_in (nI k) (mu_n H ar1)) from ⟨b1_2, b2_2, b3_2⟩) ?_
    refine mw_fr (f' := (311, [(5, .inl (nI k)), (4, .inl r), (0, .inr (.inr (some 169))), (1, .inr (.inr (some q))), (2, .inr (.inr (some (D.ip j))))], [.inr (.inr (some y)), .inr (.inr (some 169)), .inl r, .inr (.inr (some 169))], H)) (by first | (rw [y2_2]; done) | (rw [y2_2]; rfl)) ?_
    refine mw_go mu_g411 (k := 1) (f1 := (312, [(5, .inl (nI k)), (4, .inl r), (0, .inr (.inr (some 169))), (1, .inr (.inr (some q))), (2, .inr (.inr (some (D.ip j))))], [.inr (.inr (some (D.ip j))), .inr (.inr (some y)), .inr (.inr (some 169)), .inl r, .inr (.inr (some 169))], H)) (C := []) rfl trivial ?_
    refine mw_cI (fun _ => rfl) (show mu_is H (some 169) 1 from hv.1.2.2.1.1) (mu_TI.up (show f + 2 * l + 6 ≤ f + 2 * l + 7 by omega) (ih _ _ _ _ hv yn2 (hw.t n66 kt hst).1 (hw.t n66 kt hst).2)) (fun x3 H3 q3 => ?_)
    obtain ⟨hv3, hf3⟩ := q3
    refine mw_if (P := r = x3) (a := 318) (b := 322) (fun _ => rfl) trivial (fun h2 => ?_) (fun h2 => ?_)
    · -- 318
      refine mw_go mu_g411 (k := 2) (f1 := (323, [(5, .inl (nI k)), (4, .inl r), (0, .inr (.inr (some 169))), (1, .inr (.inr (some q))), (2, .inr (.inr (some (D.ip j))))], [.inl (1 : Int32), .inr (.inr (some 169))], H3)) (C := []) rfl trivial ?_
      refine mw_cIe (fun _ => rfl) (show mu_is H3 (some 169) 1 from hv3.1.2.2.1.1) (rp_truth (d := f + 2 * l + 6) (x := 1)) ?_
      refine mw_go mu_g411 (k := 3) (f1 := (291, [(5, .inl ((nI k) + 1)), (4, .inl (if (1 : Int32) = 0 then 0 else 1)), (0, .inr (.inr (some 169))), (1, .inr (.inr (some q))), (2, .inr (.inr (some (D.ip j))))], [], H3)) (C := []) rfl trivial ?_
      refine mw_sub (L' := [(5, .inl (nI (k + 1))), (4, .inl (if (1 : Int32) = 0 then 0 else 1)), (0, .inr (.inr (some 169))), (1, .inr (.inr (some q))), (2, .inr (.inr (some (D.ip j))))]) (by intro x hx; simp only [List.mem_cons, List.not_mem_nil, or_false] at hx ⊢; rcases hx with rfl | rfl | rfl | rfl | rfl <;> simp [nI_add, show (1 : Int32) = nI 1 from rfl]) ?_
      exact rp_vL1 hn hw hst ih n66 m_ (k + 1) _ _ (by omega) hv3 (hf.tr hf3)
    · -- 322
      refine mw_go mu_g411 (k := 1) (f1 := (323, [(5, .inl (nI k)), (4, .inl r), (0, .inr (.inr (some 169))), (1, .inr (.inr (some q))), (2, .inr (.inr (some (D.ip j))))], [.inl (0 : Int32), .inr (.inr (some 169))], H3)) (C := []) rfl trivial ?_
      refine mw_cIe (fun _ => rfl) (show mu_is H3 (some 169) 1 from hv3.1.2.2.1.1) (rp_truth (d := f + 2 * l + 6) (x := 0)) ?_
      refine mw_go mu_g411 (k := 3) (f1 := (291, [(5, .inl ((nI k) + 1)), (4, .inl (if (0 : Int32) = 0 then 0 else 1)), (0, .inr (.inr (some 169))), (1, .inr (.inr (some q))), (2, .inr (.inr (some (D.ip j))))], [], H3)) (C := []) rfl trivial ?_
      refine mw_sub (L' := [(5, .inl (nI (k + 1))), (4, .inl (if (0 : Int32) = 0 then 0 else 1)), (0, .inr (.inr (some 169))), (1, .inr (.inr (some q))), (2, .inr (.inr (some (D.ip j))))]) (by intro x hx; simp only [List.mem_cons, List.not_mem_nil, or_false] at hx ⊢; rcases hx with rfl | rfl | rfl | rfl | rfl <;> simp [nI_add, show (1 : Int32) = nI 1 from rfl]) ?_
      exact rp_vL1 hn hw hst ih n66 m_ (k + 1) _ _ (by omega) hv3 (hf.tr hf3)
theorem rp_v1 {tr : Prop} {Hb H : mu_H} {D : MD} {ph pt pk pa j f l dd q : Nat} {c : Tre} (hv : vsta tr Hb D ph pt pk pa H) (hn : nd Hb D.G dd q c) (hw : vcw tr D j (l + 1) c) (hst : hlx D (l + 1) j c) (ih : vlk tr Hb D ph pt pk pa j f l) (ek : tkd c = 1) : mu_W (mu_D (f + 2 * l + 7)) mu_m411 (0, [(0, .inr (.inr (some 169))), (1, .inr (.inr (some q))), (2, .inr (.inr (some (D.ip j))))], [], H) (fun r => ∃ x H1, r = (.inl (some (.inl x)), H1) ∧ vsta tr Hb D ph pt pk pa H1 ∧ vfk pk pa H H1) := by
  obtain ⟨kd1, ⟨is1, nF1, lt1⟩, ⟨st1, sr1, sf1⟩, ⟨n2_1, n3_1, n7_1⟩, nm1, ar1, aq1, aF1, ai1, ⟨al1, am1, ax1⟩, ch1, dp1⟩ := nd.ra (c := c) hn hv.1.2.1
  have n66 : ¬ tkd c = 66 := by rw [ek]; decide
  refine mw_go mu_g411 (k := 2) (f1 := (4, [(0, .inr (.inr (some 169))), (1, .inr (.inr (some q))), (2, .inr (.inr (some (D.ip j))))], [.inl (mu_i H q 7)], H)) (C := [mu_is H (some q) 18]) rfl (show mu_is H (some q) 18 from is1) ?_
  refine mw_fr (f' := (4, [(0, .inr (.inr (some 169))), (1, .inr (.inr (some q))), (2, .inr (.inr (some (D.ip j))))], [.inl (cof (txt (tkd c)))], H)) (by first | (rw [n7_1]; done) | (rw [n7_1]; rfl)) ?_
  refine mw_fr (f' := (4, [(0, .inr (.inr (some 169))), (1, .inr (.inr (some q))), (2, .inr (.inr (some (D.ip j))))], [.inl (10 : Int32)], H)) (by rw [show (cof (txt (tkd c))) = (10 : Int32) by rw [ek]; decide]) ?_
  refine mw_swi (i := 9) rfl (by decide) rfl (by decide) (by decide) ?_
  show mu_W _ mu_m411 (275, [(0, .inr (.inr (some 169))), (1, .inr (.inr (some q))), (2, .inr (.inr (some (D.ip j))))], [], H) _
  have h2t := exw_2 hw.1 (by rw [ek]; decide)
  have t1 : 0 < tsn c := by omega
  obtain ⟨y, yr2, yn2⟩ := ch1 0 t1
  have yn2 : nd Hb D.G (dd - 1) y (tkk c 0) := yn2
  obtain ⟨b1_2, b2_2, b3_2, b4_2⟩ := ar_at ai1 (by decide) (Nat.lt_of_lt_of_le t1 al1) (Nat.lt_of_le_of_lt ax1 (by decide))
  have y2_2 : mu_r H ar1 (0 : Int32).toNatClampNeg = some y := yr2
  refine mw_go mu_g411 (k := 3) (f1 := (280, [(0, .inr (.inr (some 169))), (1, .inr (.inr (some q))), (2, .inr (.inr (some (D.ip j))))], [.inr (.inr (mu_r H q 1)), .inr (.inr (some 169))], H)) (C := [mu_is H (some q) 18]) rfl (show mu_is H (some q) 18 from is1) ?_
  refine mw_fr (f' := (280, [(0, .inr (.inr (some 169))), (1, .inr (.inr (some q))), (2, .inr (.inr (some (D.ip j))))], [.inr (.inr (some ar1)), .inr (.inr (some 169))], H)) (by first | (rw [aq1]; done) | (rw [aq1]; rfl)) ?_
  refine mw_go mu_g411 (k := 2) (f1 := (282, [(0, .inr (.inr (some 169))), (1, .inr (.inr (some q))), (2, .inr (.inr (some (D.ip j))))], [.inr (.inr (mu_r H ar1 (0 : Int32).toNatClampNeg)), .inr (.inr (some 169))], H)) (C := [mu_is H (some ar1) (mu_k H ar1), 103 ≤ mu_k H ar1 ∧ mu_k H ar1 ≤ 110 ∧ mu_k H ar1 ≠ 108, vp_in (0 : Int32) (mu_n H ar1)]) rfl (show (mu_is H (some ar1) (mu_k H ar1)) ∧ (103 ≤ mu_k H ar1 ∧ mu_k H ar1 ≤ 110 ∧ mu_k H ar1 ≠ 108) ∧ (vp_in (0 : Int32) (mu_n H ar1)) from ⟨b1_2, b2_2, b3_2⟩) ?_
  refine mw_fr (f' := (282, [(0, .inr (.inr (some 169))), (1, .inr (.inr (some q))), (2, .inr (.inr (some (D.ip j))))], [.inr (.inr (some y)), .inr (.inr (some 169))], H)) (by first | (rw [y2_2]; done) | (rw [y2_2]; rfl)) ?_
  refine mw_go mu_g411 (k := 1) (f1 := (283, [(0, .inr (.inr (some 169))), (1, .inr (.inr (some q))), (2, .inr (.inr (some (D.ip j))))], [.inr (.inr (some (D.ip j))), .inr (.inr (some y)), .inr (.inr (some 169))], H)) (C := []) rfl trivial ?_
  refine mw_cI (fun _ => rfl) (show mu_is H (some 169) 1 from hv.1.2.2.1.1) (mu_TI.up (show f + 2 * l + 6 ≤ f + 2 * l + 7 by omega) (ih _ _ _ _ hv yn2 (hw.t n66 t1 hst).1 (hw.t n66 t1 hst).2)) (fun x3 H3 q3 => ?_)
  obtain ⟨hv3, hf3⟩ := q3
  refine mw_go mu_g411 (k := 3) (f1 := (291, [(5, .inl (1 : Int32)), (4, .inl x3), (0, .inr (.inr (some 169))), (1, .inr (.inr (some q))), (2, .inr (.inr (some (D.ip j))))], [], H3)) (C := []) rfl trivial ?_
  refine mw_sub (L' := [(5, .inl (nI 1)), (4, .inl x3), (0, .inr (.inr (some 169))), (1, .inr (.inr (some q))), (2, .inr (.inr (some (D.ip j))))]) (by intro x hx; simp only [List.mem_cons, List.not_mem_nil, or_false] at hx ⊢; rcases hx with rfl | rfl | rfl | rfl | rfl <;> first | (simp [nI_add, show (1 : Int32) = nI 1 from rfl, show (2 : Int32) = nI 2 from rfl]; done) | simp [nI]) ?_
  exact rp_vL1 hn hw hst ih n66 (tsn c - 1) 1 _ _ (by omega) hv3 ((vfk.rf (pk := pk) (pa := pa) (H := H)).tr hf3)
theorem rp_vLC {tr : Prop} {Hb H0 : mu_H} {D : MD} {ph pt pk pa j f l dd q : Nat} {c : Tre} (hn : nd Hb D.G dd q c) (hw : vcw tr D j (l + 1) c) (hst : hlx D (l + 1) j c) (ih : vlk tr Hb D ph pt pk pa j f l) (n66 : ¬ tkd c = 66) : ∀ m_ k H, k + 2 * m_ = tsn c → vsta tr Hb D ph pt pk pa H → vfk pk pa H0 H → mu_W (mu_D (f + 2 * l + 7)) mu_m411 (340, [(5, .inl (nI k)), (0, .inr (.inr (some 169))), (1, .inr (.inr (some q))), (2, .inr (.inr (some (D.ip j))))], [], H) (fun r => ∃ x H1, r = (.inl (some (.inl x)), H1) ∧ vsta tr Hb D ph pt pk pa H1 ∧ vfk pk pa H0 H1)
  | 0, k, H, hm_, hv, hf => by
    obtain ⟨kd1, ⟨is1, nF1, lt1⟩, ⟨st1, sr1, sf1⟩, ⟨n2_1, n3_1, n7_1⟩, nm1, ar1, aq1, aF1, ai1, ⟨al1, am1, ax1⟩, ch1, dp1⟩ := nd.ra (c := c) hn hv.1.2.1
    have hl := hn.s26
    refine mw_go mu_g411 (k := 3) (f1 := (346, [(5, .inl (nI k)), (0, .inr (.inr (some 169))), (1, .inr (.inr (some q))), (2, .inr (.inr (some (D.ip j))))], [.inl (mu_i H q 2), .inl (nI k)], H)) (C := [mu_is H (some q) 18]) rfl (show mu_is H (some q) 18 from is1) ?_
    refine mw_fr (f' := (346, [(5, .inl (nI k)), (0, .inr (.inr (some 169))), (1, .inr (.inr (some q))), (2, .inr (.inr (some (D.ip j))))], [.inl (nI (tsn c)), .inl (nI k)], H)) (by first | (rw [n2_1]; done) | (rw [n2_1]; rfl)) ?_
    refine mw_if (P := (nI k) < (nI (tsn c))) (a := 349) (b := 386) (fun _ => rfl) trivial (fun h1 => absurd h1 (by rw [show k = tsn c by omega]; exact Int32.lt_irrefl)) (fun h1 => ?_)
    refine mw_go mu_g411 (k := 1) (f1 := (387, [(5, .inl (nI k)), (0, .inr (.inr (some 169))), (1, .inr (.inr (some q))), (2, .inr (.inr (some (D.ip j))))], [.inl (0 : Int32)], H)) (C := []) rfl trivial ?_
    exact mw_of (fun _ => mu_ret rfl trivial ⟨_, _, rfl, hv, hf⟩)
  | m_ + 1, k, H, hm_, hv, hf => by
    obtain ⟨kd1, ⟨is1, nF1, lt1⟩, ⟨st1, sr1, sf1⟩, ⟨n2_1, n3_1, n7_1⟩, nm1, ar1, aq1, aF1, ai1, ⟨al1, am1, ax1⟩, ch1, dp1⟩ := nd.ra (c := c) hn hv.1.2.1
    have hl := hn.s26
    have kt : k < tsn c := by omega
    have k1t : k + 1 < tsn c := by omega
    refine mw_go mu_g411 (k := 3) (f1 := (346, [(5, .inl (nI k)), (0, .inr (.inr (some 169))), (1, .inr (.inr (some q))), (2, .inr (.inr (some (D.ip j))))], [.inl (mu_i H q 2), .inl (nI k)], H)) (C := [mu_is H (some q) 18]) rfl (show mu_is H (some q) 18 from is1) ?_
    refine mw_fr (f' := (346, [(5, .inl (nI k)), (0, .inr (.inr (some 169))), (1, .inr (.inr (some q))), (2, .inr (.inr (some (D.ip j))))], [.inl (nI (tsn c)), .inl (nI k)], H)) (by first | (rw [n2_1]; done) | (rw [n2_1]; rfl)) ?_
    refine mw_if (P := (nI k) < (nI (tsn c))) (a := 349) (b := 386) (fun _ => rfl) trivial (fun h1 => ?_) (fun h1 => absurd (nI_lt kt (by omega)) h1)
    obtain ⟨y, yr2, yn2⟩ := ch1 k kt
    have yn2 : nd Hb D.G (dd - 1) y (tkk c k) := yn2
    obtain ⟨b1_2, b2_2, b3_2, b4_2⟩ := ar_at ai1 (by decide) (Nat.lt_of_lt_of_le kt al1) (Nat.lt_of_le_of_lt ax1 (by decide))
    have y2_2 : mu_r H ar1 (nI k).toNatClampNeg = some y := by rw [b4_2]; exact yr2
    refine mw_go mu_g411 (k := 3) (f1 := (354, [(5, .inl (nI k)), (0, .inr (.inr (some 169))), (1, .inr (.inr (some q))), (2, .inr (.inr (some (D.ip j))))], [.inr (.inr (mu_r H q 1)), .inr (.inr (some 169))], H)) (C := [mu_is H (some q) 18]) rfl (show mu_is H (some q) 18 from is1) ?_
    refine mw_fr (f' := (354, [(5, .inl (nI k)), (0, .inr (.inr (some 169))), (1, .inr (.inr (some q))), (2, .inr (.inr (some (D.ip j))))], [.inr (.inr (some ar1)), .inr (.inr (some 169))], H)) (by first | (rw [aq1]; done) | (rw [aq1]; rfl)) ?_
    refine mw_go mu_g411 (k := 2) (f1 := (357, [(5, .inl (nI k)), (0, .inr (.inr (some 169))), (1, .inr (.inr (some q))), (2, .inr (.inr (some (D.ip j))))], [.inr (.inr (mu_r H ar1 (nI k).toNatClampNeg)), .inr (.inr (some 169))], H)) (C := [mu_is H (some ar1) (mu_k H ar1), 103 ≤ mu_k H ar1 ∧ mu_k H ar1 ≤ 110 ∧ mu_k H ar1 ≠ 108, vp_in (nI k) (mu_n H ar1)]) rfl (show (mu_is H (some ar1) (mu_k H ar1)) ∧ (103 ≤ mu_k H ar1 ∧ mu_k H ar1 ≤ 110 ∧ mu_k H ar1 ≠ 108) ∧ (vp_in (nI k) (mu_n H ar1)) from ⟨b1_2, b2_2, b3_2⟩) ?_
    refine mw_fr (f' := (357, [(5, .inl (nI k)), (0, .inr (.inr (some 169))), (1, .inr (.inr (some q))), (2, .inr (.inr (some (D.ip j))))], [.inr (.inr (some y)), .inr (.inr (some 169))], H)) (by first | (rw [y2_2]; done) | (rw [y2_2]; rfl)) ?_
    refine mw_go mu_g411 (k := 1) (f1 := (358, [(5, .inl (nI k)), (0, .inr (.inr (some 169))), (1, .inr (.inr (some q))), (2, .inr (.inr (some (D.ip j))))], [.inr (.inr (some (D.ip j))), .inr (.inr (some y)), .inr (.inr (some 169))], H)) (C := []) rfl trivial ?_
    refine mw_cI (fun _ => rfl) (show mu_is H (some 169) 1 from hv.1.2.2.1.1) (mu_TI.up (show f + 2 * l + 6 ≤ f + 2 * l + 7 by omega) (ih _ _ _ _ hv yn2 (hw.t n66 kt hst).1 (hw.t n66 kt hst).2)) (fun x3 H3 q3 => ?_)
    obtain ⟨hv3, hf3⟩ := q3
    refine mw_go mu_g411 (k := 1) (f1 := (362, [(5, .inl (nI k)), (0, .inr (.inr (some 169))), (1, .inr (.inr (some q))), (2, .inr (.inr (some (D.ip j))))], [.inl (1 : Int32), .inl x3], H3)) (C := []) rfl trivial ?_
    refine mw_if (P := x3 = (1 : Int32)) (a := 365) (b := 380) (fun _ => rfl) trivial (fun h2 => ?_) (fun h2 => ?_)
    · -- 365
      obtain ⟨kd4, ⟨is4, nF4, lt4⟩, ⟨st4, sr4, sf4⟩, ⟨n2_4, n3_4, n7_4⟩, nm4, ar4, aq4, aF4, ai4, ⟨al4, am4, ax4⟩, ch4, dp4⟩ := nd.ra (c := c) hn hv3.1.2.1
      have e1 : nI k + (1 : Int32) = nI (k + 1) := nI_add _ _
      obtain ⟨y2, yr5, yn5⟩ := ch4 (k + 1) k1t
      have yn5 : nd Hb D.G (dd - 1) y2 (tkk c (k + 1)) := yn5
      obtain ⟨b1_5, b2_5, b3_5, b4_5⟩ := ar_at ai4 (by decide) (Nat.lt_of_lt_of_le k1t al4) (Nat.lt_of_le_of_lt ax4 (by decide))
      have y2_5 : mu_r H3 ar4 (nI (k + 1)).toNatClampNeg = some y2 := by rw [b4_5]; exact yr5
      refine mw_go mu_g411 (k := 3) (f1 := (370, [(5, .inl (nI k)), (0, .inr (.inr (some 169))), (1, .inr (.inr (some q))), (2, .inr (.inr (some (D.ip j))))], [.inr (.inr (mu_r H3 q 1)), .inr (.inr (some 169))], H3)) (C := [mu_is H3 (some q) 18]) rfl (show mu_is H3 (some q) 18 from is4) ?_
      refine mw_fr (f' := (370, [(5, .inl (nI k)), (0, .inr (.inr (some 169))), (1, .inr (.inr (some q))), (2, .inr (.inr (some (D.ip j))))], [.inr (.inr (some ar4)), .inr (.inr (some 169))], H3)) (by first | (rw [aq4]; done) | (rw [aq4]; rfl)) ?_
      refine mw_go mu_g411 (k := 3) (f1 := (374, [(5, .inl (nI k)), (0, .inr (.inr (some 169))), (1, .inr (.inr (some q))), (2, .inr (.inr (some (D.ip j))))], [.inl ((nI k) + (1 : Int32)), .inr (.inr (some ar4)), .inr (.inr (some 169))], H3)) (C := []) rfl trivial ?_
      refine mw_fr (f' := (374, [(5, .inl (nI k)), (0, .inr (.inr (some 169))), (1, .inr (.inr (some q))), (2, .inr (.inr (some (D.ip j))))], [.inl (nI (k + 1)), .inr (.inr (some ar4)), .inr (.inr (some 169))], H3)) (by first | (rw [e1]; done) | (rw [e1]; rfl)) ?_
      refine mw_go mu_g411 (k := 1) (f1 := (375, [(5, .inl (nI k)), (0, .inr (.inr (some 169))), (1, .inr (.inr (some q))), (2, .inr (.inr (some (D.ip j))))], [.inr (.inr (mu_r H3 ar4 (nI (k + 1)).toNatClampNeg)), .inr (.inr (some 169))], H3)) (C := [mu_is H3 (some ar4) (mu_k H3 ar4), 103 ≤ mu_k H3 ar4 ∧ mu_k H3 ar4 ≤ 110 ∧ mu_k H3 ar4 ≠ 108, vp_in (nI (k + 1)) (mu_n H3 ar4)]) rfl (show (mu_is H3 (some ar4) (mu_k H3 ar4)) ∧ (103 ≤ mu_k H3 ar4 ∧ mu_k H3 ar4 ≤ 110 ∧ mu_k H3 ar4 ≠ 108) ∧ (vp_in (nI (k + 1)) (mu_n H3 ar4)) from ⟨b1_5, b2_5, b3_5⟩) ?_
      refine mw_fr (f' := (375, [(5, .inl (nI k)), (0, .inr (.inr (some 169))), (1, .inr (.inr (some q))), (2, .inr (.inr (some (D.ip j))))], [.inr (.inr (some y2)), .inr (.inr (some 169))], H3)) (by first | (rw [y2_5]; done) | (rw [y2_5]; rfl)) ?_
      refine mw_go mu_g411 (k := 1) (f1 := (376, [(5, .inl (nI k)), (0, .inr (.inr (some 169))), (1, .inr (.inr (some q))), (2, .inr (.inr (some (D.ip j))))], [.inr (.inr (some (D.ip j))), .inr (.inr (some y2)), .inr (.inr (some 169))], H3)) (C := []) rfl trivial ?_
      refine mw_cI (fun _ => rfl) (show mu_is H3 (some 169) 1 from hv3.1.2.2.1.1) (mu_TI.up (show f + 2 * l + 6 ≤ f + 2 * l + 7 by omega) (ih _ _ _ _ hv3 yn5 (hw.t n66 k1t hst).1 (hw.t n66 k1t hst).2)) (fun x6 H6 q6 => ?_)
      obtain ⟨hv6, hf6⟩ := q6
      exact mw_of (fun _ => mu_ret rfl trivial ⟨_, _, rfl, hv6, ((hf.tr hf3).tr hf6)⟩)
    · -- 380
      refine mw_go mu_g411 (k := 2) (f1 := (340, [(5, .inl ((nI k) + 2)), (0, .inr (.inr (some 169))), (1, .inr (.inr (some q))), (2, .inr (.inr (some (D.ip j))))], [], H3)) (C := []) rfl trivial ?_
      refine mw_sub (L' := [(5, .inl (nI (k + 2))), (0, .inr (.inr (some 169))), (1, .inr (.inr (some q))), (2, .inr (.inr (some (D.ip j))))]) (by intro x hx; simp only [List.mem_cons, List.not_mem_nil, or_false] at hx ⊢; rcases hx with rfl | rfl | rfl | rfl <;> first | (simp [nI_add, show (1 : Int32) = nI 1 from rfl, show (2 : Int32) = nI 2 from rfl]; done) | simp [nI]) ?_
      exact rp_vLC hn hw hst ih n66 m_ (k + 2) _ (by omega) hv3 (hf.tr hf3)
theorem rp_v52 {tr : Prop} {Hb H : mu_H} {D : MD} {ph pt pk pa j f l dd q : Nat} {c : Tre} (hv : vsta tr Hb D ph pt pk pa H) (hn : nd Hb D.G dd q c) (hw : vcw tr D j (l + 1) c) (hst : hlx D (l + 1) j c) (ih : vlk tr Hb D ph pt pk pa j f l) (ek : tkd c = 52) : mu_W (mu_D (f + 2 * l + 7)) mu_m411 (0, [(0, .inr (.inr (some 169))), (1, .inr (.inr (some q))), (2, .inr (.inr (some (D.ip j))))], [], H) (fun r => ∃ x H1, r = (.inl (some (.inl x)), H1) ∧ vsta tr Hb D ph pt pk pa H1 ∧ vfk pk pa H H1) := by
  obtain ⟨kd1, ⟨is1, nF1, lt1⟩, ⟨st1, sr1, sf1⟩, ⟨n2_1, n3_1, n7_1⟩, nm1, ar1, aq1, aF1, ai1, ⟨al1, am1, ax1⟩, ch1, dp1⟩ := nd.ra (c := c) hn hv.1.2.1
  have n66 : ¬ tkd c = 66 := by rw [ek]; decide
  refine mw_go mu_g411 (k := 2) (f1 := (4, [(0, .inr (.inr (some 169))), (1, .inr (.inr (some q))), (2, .inr (.inr (some (D.ip j))))], [.inl (mu_i H q 7)], H)) (C := [mu_is H (some q) 18]) rfl (show mu_is H (some q) 18 from is1) ?_
  refine mw_fr (f' := (4, [(0, .inr (.inr (some 169))), (1, .inr (.inr (some q))), (2, .inr (.inr (some (D.ip j))))], [.inl (cof (txt (tkd c)))], H)) (by first | (rw [n7_1]; done) | (rw [n7_1]; rfl)) ?_
  refine mw_fr (f' := (4, [(0, .inr (.inr (some 169))), (1, .inr (.inr (some q))), (2, .inr (.inr (some (D.ip j))))], [.inl (11 : Int32)], H)) (by rw [show (cof (txt (tkd c))) = (11 : Int32) by rw [ek]; decide]) ?_
  refine mw_swi (i := 10) rfl (by decide) rfl (by decide) (by decide) ?_
  show mu_W _ mu_m411 (337, [(0, .inr (.inr (some 169))), (1, .inr (.inr (some q))), (2, .inr (.inr (some (D.ip j))))], [], H) _
  have ev := chw_even hw.1.ch ek
  refine mw_go mu_g411 (k := 2) (f1 := (340, [(5, .inl (0 : Int32)), (0, .inr (.inr (some 169))), (1, .inr (.inr (some q))), (2, .inr (.inr (some (D.ip j))))], [], H)) (C := []) rfl trivial ?_
  refine mw_sub (L' := [(5, .inl (nI 0)), (0, .inr (.inr (some 169))), (1, .inr (.inr (some q))), (2, .inr (.inr (some (D.ip j))))]) (by intro x hx; simp only [List.mem_cons, List.not_mem_nil, or_false] at hx ⊢; rcases hx with rfl | rfl | rfl | rfl <;> first | (simp [nI_add, show (1 : Int32) = nI 1 from rfl, show (2 : Int32) = nI 2 from rfl]; done) | simp [nI]) ?_
  exact rp_vLC hn hw hst ih n66 (tsn c / 2) 0 _ (by omega) hv vfk.rf
