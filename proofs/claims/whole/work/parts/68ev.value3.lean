/-! The reference: chainValue, compared -/
/-- PathProverModel.chainValue(LPathProverModel$Node;LPathProverModel$Instance;)I -/
abbrev mu_m439 : ev_M := (6, (some .int), [], ev_b439)
theorem mu_g439 : mu_good mu_m439 := mu_goodk ev_k439
/-- PathProverModel.compared(LPathProverModel$Node;LPathProverModel$Instance;)I -/
abbrev mu_m440 : ev_M := (5, (some .int), [], ev_b440)
theorem mu_g440 : mu_good mu_m440 := mu_goodk ev_k440
theorem exw_mk {l : Nat} {c : Tre} (h : exw (l + 1) c) (h6 : tkd c = 66) {k : Nat} (h0 : 0 < k) (hk : k < tsn c) : tkd (tkk c k) ∈ [20, 40, 24, 25, 26, 27, 51] ∧ tsn (tkk c k) = 1 := by
  have no : ∀ {ks : List Nat}, tkd c ∈ ks → 66 ∈ ks := fun h1 => by rw [← h6]; exact h1
  rcases h with h | h | h | h | h | h | ⟨h1, h2, h3, ms, h4, h5⟩
  · exact absurd (no h.1) (by decide)
  · exact absurd (no h.1) (by decide)
  · exact absurd (no h.1) (by decide)
  · exact absurd (no h.1) (by decide)
  · exact absurd (no h.1) (by decide)
  · exact absurd (h6.symm.trans h.1) (by decide)
  · have q := h5 k h0 hk
    refine ⟨?_, q.2.1⟩
    have q1 := q.1
    simp only [List.mem_cons, List.not_mem_nil, or_false] at h4
    rcases h4 with e | e | e <;> subst e <;> simp only [List.mem_cons, List.not_mem_nil, or_false] at q1 ⊢ <;> omega
theorem rp_chV0 {tr : Prop} {Hb H0 : mu_H} {D : MD} {ph pt pk pa j f l dd q : Nat} {c : Tre} (hn : nd Hb D.G dd q c) (hw : vcw tr D j (l + 1) c) (hst : hlx D (l + 1) j c) (ih : vlk tr Hb D ph pt pk pa j f l) (h66 : tkd c = 66) : ∀ m_ k r H, k + m_ = tsn c → 0 < k → vsta tr Hb D ph pt pk pa H → vfk pk pa H0 H → mu_W (mu_D (f + 2 * l + 6)) mu_m439 (15, [(4, .inl (nI k)), (3, .inl r), (0, .inr (.inr (some 169))), (1, .inr (.inr (some q))), (2, .inr (.inr (some (D.ip j))))], [], H) (fun r => ∃ x H1, r = (.inl (some (.inl x)), H1) ∧ vsta tr Hb D ph pt pk pa H1 ∧ vfk pk pa H0 H1)
  | 0, k, r, H, hm_, k0, hv, hf => by
    obtain ⟨kd1, ⟨is1, nF1, lt1⟩, ⟨st1, sr1, sf1⟩, ⟨n2_1, n3_1, n7_1⟩, nm1, ar1, aq1, aF1, ai1, ⟨al1, am1, ax1⟩, ch1, dp1⟩ := nd.ra (c := c) hn hv.1.2.1
    have hl := hn.s26
    refine mw_go mu_g439 (k := 3) (f1 := (21, [(4, .inl (nI k)), (3, .inl r), (0, .inr (.inr (some 169))), (1, .inr (.inr (some q))), (2, .inr (.inr (some (D.ip j))))], [.inl (mu_i H q 2), .inl (nI k)], H)) (C := [mu_is H (some q) 18]) rfl (show mu_is H (some q) 18 from is1) ?_
    refine mw_fr (f' := (21, [(4, .inl (nI k)), (3, .inl r), (0, .inr (.inr (some 169))), (1, .inr (.inr (some q))), (2, .inr (.inr (some (D.ip j))))], [.inl (nI (tsn c)), .inl (nI k)], H)) (by first | (rw [n2_1]; done) | (rw [n2_1]; rfl)) ?_
    refine mw_if (P := (nI k) < (nI (tsn c))) (a := 24) (b := 184) (fun _ => rfl) trivial (fun h1 => absurd h1 (by rw [show k = tsn c by omega]; exact Int32.lt_irrefl)) (fun h1 => ?_)
    refine mw_go mu_g439 (k := 1) (f1 := (185, [(4, .inl (nI k)), (3, .inl r), (0, .inr (.inr (some 169))), (1, .inr (.inr (some q))), (2, .inr (.inr (some (D.ip j))))], [.inl r], H)) (C := []) rfl trivial ?_
    exact mw_of (fun _ => mu_ret rfl trivial ⟨_, _, rfl, hv, hf⟩)
  | m_ + 1, k, r, H, hm_, k0, hv, hf => by
    obtain ⟨kd1, ⟨is1, nF1, lt1⟩, ⟨st1, sr1, sf1⟩, ⟨n2_1, n3_1, n7_1⟩, nm1, ar1, aq1, aF1, ai1, ⟨al1, am1, ax1⟩, ch1, dp1⟩ := nd.ra (c := c) hn hv.1.2.1
    have hl := hn.s26
    have kt : k < tsn c := by omega
    obtain ⟨mk, m1⟩ := exw_mk hw.1 h66 k0 kt
    have el : lkp c k = tkk (tkk c k) 0 := if_pos ⟨h66, k0⟩
    refine mw_go mu_g439 (k := 3) (f1 := (21, [(4, .inl (nI k)), (3, .inl r), (0, .inr (.inr (some 169))), (1, .inr (.inr (some q))), (2, .inr (.inr (some (D.ip j))))], [.inl (mu_i H q 2), .inl (nI k)], H)) (C := [mu_is H (some q) 18]) rfl (show mu_is H (some q) 18 from is1) ?_
    refine mw_fr (f' := (21, [(4, .inl (nI k)), (3, .inl r), (0, .inr (.inr (some 169))), (1, .inr (.inr (some q))), (2, .inr (.inr (some (D.ip j))))], [.inl (nI (tsn c)), .inl (nI k)], H)) (by first | (rw [n2_1]; done) | (rw [n2_1]; rfl)) ?_
    refine mw_if (P := (nI k) < (nI (tsn c))) (a := 24) (b := 184) (fun _ => rfl) trivial (fun h1 => ?_) (fun h1 => absurd (nI_lt kt (by omega)) h1)
    obtain ⟨y, yr2, yn2⟩ := ch1 k kt
    have yn2 : nd Hb D.G (dd - 1) y (tkk c k) := yn2
    obtain ⟨b1_2, b2_2, b3_2, b4_2⟩ := ar_at ai1 (by decide) (Nat.lt_of_lt_of_le kt al1) (Nat.lt_of_le_of_lt ax1 (by decide))
    have y2_2 : mu_r H ar1 (nI k).toNatClampNeg = some y := by rw [b4_2]; exact yr2
    obtain ⟨kd3, ⟨is3, nF3, lt3⟩, ⟨st3, sr3, sf3⟩, ⟨n2_3, n3_3, n7_3⟩, nm3, ar3, aq3, aF3, ai3, ⟨al3, am3, ax3⟩, ch3, dp3⟩ := nd.ra (c := (tkk c k)) yn2 hv.1.2.1
    obtain ⟨z, yr4, yn4⟩ := ch3 0 (by rw [m1]; exact Nat.one_pos)
    have yn4 : nd Hb D.G ((dd - 1) - 1) z (tkk (tkk c k) 0) := yn4
    obtain ⟨b1_4, b2_4, b3_4, b4_4⟩ := ar_at ai3 (by decide) (Nat.lt_of_lt_of_le (by rw [m1]; exact Nat.one_pos) al3) (Nat.lt_of_le_of_lt ax3 (by decide))
    have y2_4 : mu_r H ar3 (0 : Int32).toNatClampNeg = some z := yr4
    refine mw_go mu_g439 (k := 3) (f1 := (29, [(4, .inl (nI k)), (3, .inl r), (0, .inr (.inr (some 169))), (1, .inr (.inr (some q))), (2, .inr (.inr (some (D.ip j))))], [.inr (.inr (mu_r H q 1)), .inr (.inr (some 169))], H)) (C := [mu_is H (some q) 18]) rfl (show mu_is H (some q) 18 from is1) ?_
    refine mw_fr (f' := (29, [(4, .inl (nI k)), (3, .inl r), (0, .inr (.inr (some 169))), (1, .inr (.inr (some q))), (2, .inr (.inr (some (D.ip j))))], [.inr (.inr (some ar1)), .inr (.inr (some 169))], H)) (by first | (rw [aq1]; done) | (rw [aq1]; rfl)) ?_
    refine mw_go mu_g439 (k := 2) (f1 := (32, [(4, .inl (nI k)), (3, .inl r), (0, .inr (.inr (some 169))), (1, .inr (.inr (some q))), (2, .inr (.inr (some (D.ip j))))], [.inr (.inr (mu_r H ar1 (nI k).toNatClampNeg)), .inr (.inr (some 169))], H)) (C := [mu_is H (some ar1) (mu_k H ar1), 103 ≤ mu_k H ar1 ∧ mu_k H ar1 ≤ 110 ∧ mu_k H ar1 ≠ 108, vp_in (nI k) (mu_n H ar1)]) rfl (show (mu_is H (some ar1) (mu_k H ar1)) ∧ (103 ≤ mu_k H ar1 ∧ mu_k H ar1 ≤ 110 ∧ mu_k H ar1 ≠ 108) ∧ (vp_in (nI k) (mu_n H ar1)) from ⟨b1_2, b2_2, b3_2⟩) ?_
    refine mw_fr (f' := (32, [(4, .inl (nI k)), (3, .inl r), (0, .inr (.inr (some 169))), (1, .inr (.inr (some q))), (2, .inr (.inr (some (D.ip j))))], [.inr (.inr (some y)), .inr (.inr (some 169))], H)) (by first | (rw [y2_2]; done) | (rw [y2_2]; rfl)) ?_
    refine mw_go mu_g439 (k := 1) (f1 := (35, [(4, .inl (nI k)), (3, .inl r), (0, .inr (.inr (some 169))), (1, .inr (.inr (some q))), (2, .inr (.inr (some (D.ip j))))], [.inr (.inr (mu_r H y 1)), .inr (.inr (some 169))], H)) (C := [mu_is H (some y) 18]) rfl (show mu_is H (some y) 18 from is3) ?_
    refine mw_fr (f' := (35, [(4, .inl (nI k)), (3, .inl r), (0, .inr (.inr (some 169))), (1, .inr (.inr (some q))), (2, .inr (.inr (some (D.ip j))))], [.inr (.inr (some ar3)), .inr (.inr (some 169))], H)) (by first | (rw [aq3]; done) | (rw [aq3]; rfl)) ?_
    refine mw_go mu_g439 (k := 2) (f1 := (37, [(4, .inl (nI k)), (3, .inl r), (0, .inr (.inr (some 169))), (1, .inr (.inr (some q))), (2, .inr (.inr (some (D.ip j))))], [.inr (.inr (mu_r H ar3 (0 : Int32).toNatClampNeg)), .inr (.inr (some 169))], H)) (C := [mu_is H (some ar3) (mu_k H ar3), 103 ≤ mu_k H ar3 ∧ mu_k H ar3 ≤ 110 ∧ mu_k H ar3 ≠ 108, vp_in (0 : Int32) (mu_n H ar3)]) rfl (show (mu_is H (some ar3) (mu_k H ar3)) ∧ (103 ≤ mu_k H ar3 ∧ mu_k H ar3 ≤ 110 ∧ mu_k H ar3 ≠ 108) ∧ (vp_in (0 : Int32) (mu_n H ar3)) from ⟨b1_4, b2_4, b3_4⟩) ?_
    refine mw_fr (f' := (37, [(4, .inl (nI k)), (3, .inl r), (0, .inr (.inr (some 169))), (1, .inr (.inr (some q))), (2, .inr (.inr (some (D.ip j))))], [.inr (.inr (some z)), .inr (.inr (some 169))], H)) (by first | (rw [y2_4]; done) | (rw [y2_4]; rfl)) ?_
    refine mw_go mu_g439 (k := 1) (f1 := (38, [(4, .inl (nI k)), (3, .inl r), (0, .inr (.inr (some 169))), (1, .inr (.inr (some q))), (2, .inr (.inr (some (D.ip j))))], [.inr (.inr (some (D.ip j))), .inr (.inr (some z)), .inr (.inr (some 169))], H)) (C := []) rfl trivial ?_
    refine mw_cI (fun _ => rfl) (show mu_is H (some 169) 1 from hv.1.2.2.1.1) (ih _ (lkp c k) _ _ hv (by rw [el]; exact yn4) (hw.p kt) (hst.2 k kt)) (fun x5 H5 q5 => ?_)
    obtain ⟨hv5, hf5⟩ := q5
    obtain ⟨kd6, ⟨is6, nF6, lt6⟩, ⟨st6, sr6, sf6⟩, ⟨n2_6, n3_6, n7_6⟩, nm6, ar6, aq6, aF6, ai6, ⟨al6, am6, ax6⟩, ch6, dp6⟩ := nd.ra (c := c) hn hv5.1.2.1
    obtain ⟨y8, yr7, yn7⟩ := ch6 k kt
    have yn7 : nd Hb D.G (dd - 1) y8 (tkk c k) := yn7
    obtain ⟨b1_7, b2_7, b3_7, b4_7⟩ := ar_at ai6 (by decide) (Nat.lt_of_lt_of_le kt al6) (Nat.lt_of_le_of_lt ax6 (by decide))
    have y2_7 : mu_r H5 ar6 (nI k).toNatClampNeg = some y8 := by rw [b4_7]; exact yr7
    obtain ⟨kd8, ⟨is8, nF8, lt8⟩, ⟨st8, sr8, sf8⟩, ⟨n2_8, n3_8, n7_8⟩, nm8, ar8, aq8, aF8, ai8, ⟨al8, am8, ax8⟩, ch8, dp8⟩ := nd.ra (c := (tkk c k)) yn7 hv5.1.2.1
    refine mw_go mu_g439 (k := 3) (f1 := (47, [(5, .inl x5), (4, .inl (nI k)), (3, .inl r), (0, .inr (.inr (some 169))), (1, .inr (.inr (some q))), (2, .inr (.inr (some (D.ip j))))], [.inr (.inr (mu_r H5 q 1))], H5)) (C := [mu_is H5 (some q) 18]) rfl (show mu_is H5 (some q) 18 from is6) ?_
    refine mw_fr (f' := (47, [(5, .inl x5), (4, .inl (nI k)), (3, .inl r), (0, .inr (.inr (some 169))), (1, .inr (.inr (some q))), (2, .inr (.inr (some (D.ip j))))], [.inr (.inr (some ar6))], H5)) (by first | (rw [aq6]; done) | (rw [aq6]; rfl)) ?_
    refine mw_go mu_g439 (k := 2) (f1 := (50, [(5, .inl x5), (4, .inl (nI k)), (3, .inl r), (0, .inr (.inr (some 169))), (1, .inr (.inr (some q))), (2, .inr (.inr (some (D.ip j))))], [.inr (.inr (mu_r H5 ar6 (nI k).toNatClampNeg))], H5)) (C := [mu_is H5 (some ar6) (mu_k H5 ar6), 103 ≤ mu_k H5 ar6 ∧ mu_k H5 ar6 ≤ 110 ∧ mu_k H5 ar6 ≠ 108, vp_in (nI k) (mu_n H5 ar6)]) rfl (show (mu_is H5 (some ar6) (mu_k H5 ar6)) ∧ (103 ≤ mu_k H5 ar6 ∧ mu_k H5 ar6 ≤ 110 ∧ mu_k H5 ar6 ≠ 108) ∧ (vp_in (nI k) (mu_n H5 ar6)) from ⟨b1_7, b2_7, b3_7⟩) ?_
    refine mw_fr (f' := (50, [(5, .inl x5), (4, .inl (nI k)), (3, .inl r), (0, .inr (.inr (some 169))), (1, .inr (.inr (some q))), (2, .inr (.inr (some (D.ip j))))], [.inr (.inr (some y8))], H5)) (by first | (rw [y2_7]; done) | (rw [y2_7]; rfl)) ?_
    refine mw_go mu_g439 (k := 1) (f1 := (53, [(5, .inl x5), (4, .inl (nI k)), (3, .inl r), (0, .inr (.inr (some 169))), (1, .inr (.inr (some q))), (2, .inr (.inr (some (D.ip j))))], [.inl (mu_i H5 y8 7)], H5)) (C := [mu_is H5 (some y8) 18]) rfl (show mu_is H5 (some y8) 18 from is8) ?_
    refine mw_fr (f' := (53, [(5, .inl x5), (4, .inl (nI k)), (3, .inl r), (0, .inr (.inr (some 169))), (1, .inr (.inr (some q))), (2, .inr (.inr (some (D.ip j))))], [.inl (cof (txt (tkd (tkk c k))))], H5)) (by first | (rw [n7_8]; done) | (rw [n7_8]; rfl)) ?_
    simp only [List.mem_cons, List.not_mem_nil, or_false] at mk
    rcases mk with mk | mk | mk | mk | mk | mk | mk
    ·
      refine mw_fr (f' := (53, [(5, .inl x5), (4, .inl (nI k)), (3, .inl r), (0, .inr (.inr (some 169))), (1, .inr (.inr (some q))), (2, .inr (.inr (some (D.ip j))))], [.inl (20 : Int32)], H5)) (by rw [show (cof (txt (tkd (tkk c k)))) = (20 : Int32) by rw [mk]; decide]) ?_
      refine mw_swi (i := 0) rfl (by decide) rfl (by decide) (by decide) ?_
      show mu_W _ mu_m439 (92, [(5, .inl x5), (4, .inl (nI k)), (3, .inl r), (0, .inr (.inr (some 169))), (1, .inr (.inr (some q))), (2, .inr (.inr (some (D.ip j))))], [], H5) _
      refine mw_go mu_g439 (k := 5) (f1 := (178, [(3, .inl (r ||| x5)), (5, .inl x5), (4, .inl (nI k)), (0, .inr (.inr (some 169))), (1, .inr (.inr (some q))), (2, .inr (.inr (some (D.ip j))))], [], H5)) (C := []) rfl trivial ?_
      refine mw_go mu_g439 (k := 2) (f1 := (15, [(4, .inl ((nI k) + 1)), (3, .inl (r ||| x5)), (5, .inl x5), (0, .inr (.inr (some 169))), (1, .inr (.inr (some q))), (2, .inr (.inr (some (D.ip j))))], [], H5)) (C := []) rfl trivial ?_
      refine mw_sub (L' := [(4, .inl (nI (k + 1))), (3, .inl (r ||| x5)), (0, .inr (.inr (some 169))), (1, .inr (.inr (some q))), (2, .inr (.inr (some (D.ip j))))]) (by intro x hx; simp only [List.mem_cons, List.not_mem_nil, or_false] at hx ⊢; rcases hx with rfl | rfl | rfl | rfl | rfl <;> simp [nI_add, show (1 : Int32) = nI 1 from rfl]) ?_
      exact rp_chV0 hn hw hst ih h66 m_ (k + 1) _ _ (by omega) (by omega) hv5 (hf.tr hf5)
    ·
      refine mw_fr (f' := (53, [(5, .inl x5), (4, .inl (nI k)), (3, .inl r), (0, .inr (.inr (some 169))), (1, .inr (.inr (some q))), (2, .inr (.inr (some (D.ip j))))], [.inl (21 : Int32)], H5)) (by rw [show (cof (txt (tkd (tkk c k)))) = (21 : Int32) by rw [mk]; decide]) ?_
      refine mw_swi (i := 1) rfl (by decide) rfl (by decide) (by decide) ?_
      show mu_W _ mu_m439 (100, [(5, .inl x5), (4, .inl (nI k)), (3, .inl r), (0, .inr (.inr (some 169))), (1, .inr (.inr (some q))), (2, .inr (.inr (some (D.ip j))))], [], H5) _
      refine mw_go mu_g439 (k := 5) (f1 := (178, [(3, .inl (r ^^^ x5)), (5, .inl x5), (4, .inl (nI k)), (0, .inr (.inr (some 169))), (1, .inr (.inr (some q))), (2, .inr (.inr (some (D.ip j))))], [], H5)) (C := []) rfl trivial ?_
      refine mw_go mu_g439 (k := 2) (f1 := (15, [(4, .inl ((nI k) + 1)), (3, .inl (r ^^^ x5)), (5, .inl x5), (0, .inr (.inr (some 169))), (1, .inr (.inr (some q))), (2, .inr (.inr (some (D.ip j))))], [], H5)) (C := []) rfl trivial ?_
      refine mw_sub (L' := [(4, .inl (nI (k + 1))), (3, .inl (r ^^^ x5)), (0, .inr (.inr (some 169))), (1, .inr (.inr (some q))), (2, .inr (.inr (some (D.ip j))))]) (by intro x hx; simp only [List.mem_cons, List.not_mem_nil, or_false] at hx ⊢; rcases hx with rfl | rfl | rfl | rfl | rfl <;> simp [nI_add, show (1 : Int32) = nI 1 from rfl]) ?_
      exact rp_chV0 hn hw hst ih h66 m_ (k + 1) _ _ (by omega) (by omega) hv5 (hf.tr hf5)
    ·
      refine mw_fr (f' := (53, [(5, .inl x5), (4, .inl (nI k)), (3, .inl r), (0, .inr (.inr (some 169))), (1, .inr (.inr (some q))), (2, .inr (.inr (some (D.ip j))))], [.inl (22 : Int32)], H5)) (by rw [show (cof (txt (tkd (tkk c k)))) = (22 : Int32) by rw [mk]; decide]) ?_
      refine mw_swi (i := 2) rfl (by decide) rfl (by decide) (by decide) ?_
      show mu_W _ mu_m439 (108, [(5, .inl x5), (4, .inl (nI k)), (3, .inl r), (0, .inr (.inr (some 169))), (1, .inr (.inr (some q))), (2, .inr (.inr (some (D.ip j))))], [], H5) _
      refine mw_go mu_g439 (k := 3) (f1 := (112, [(5, .inl x5), (4, .inl (nI k)), (3, .inl r), (0, .inr (.inr (some 169))), (1, .inr (.inr (some q))), (2, .inr (.inr (some (D.ip j))))], [.inl (r + x5)], H5)) (C := []) rfl trivial ?_
      refine mw_cIe (fun _ => rfl) trivial (rp_wrap (d := f + 2 * l + 5)) ?_
      refine mw_go mu_g439 (k := 2) (f1 := (178, [(3, .inl ((r + x5).toInt16.toInt32)), (5, .inl x5), (4, .inl (nI k)), (0, .inr (.inr (some 169))), (1, .inr (.inr (some q))), (2, .inr (.inr (some (D.ip j))))], [], H5)) (C := []) rfl trivial ?_
      refine mw_go mu_g439 (k := 2) (f1 := (15, [(4, .inl ((nI k) + 1)), (3, .inl ((r + x5).toInt16.toInt32)), (5, .inl x5), (0, .inr (.inr (some 169))), (1, .inr (.inr (some q))), (2, .inr (.inr (some (D.ip j))))], [], H5)) (C := []) rfl trivial ?_
      refine mw_sub (L' := [(4, .inl (nI (k + 1))), (3, .inl ((r + x5).toInt16.toInt32)), (0, .inr (.inr (some 169))), (1, .inr (.inr (some q))), (2, .inr (.inr (some (D.ip j))))]) (by intro x hx; simp only [List.mem_cons, List.not_mem_nil, or_false] at hx ⊢; rcases hx with rfl | rfl | rfl | rfl | rfl <;> simp [nI_add, show (1 : Int32) = nI 1 from rfl]) ?_
      exact rp_chV0 hn hw hst ih h66 m_ (k + 1) _ _ (by omega) (by omega) hv5 (hf.tr hf5)
    ·
      refine mw_fr (f' := (53, [(5, .inl x5), (4, .inl (nI k)), (3, .inl r), (0, .inr (.inr (some 169))), (1, .inr (.inr (some q))), (2, .inr (.inr (some (D.ip j))))], [.inl (23 : Int32)], H5)) (by rw [show (cof (txt (tkd (tkk c k)))) = (23 : Int32) by rw [mk]; decide]) ?_
      refine mw_swi (i := 3) rfl (by decide) rfl (by decide) (by decide) ?_
      show mu_W _ mu_m439 (119, [(5, .inl x5), (4, .inl (nI k)), (3, .inl r), (0, .inr (.inr (some 169))), (1, .inr (.inr (some q))), (2, .inr (.inr (some (D.ip j))))], [], H5) _
      refine mw_go mu_g439 (k := 3) (f1 := (123, [(5, .inl x5), (4, .inl (nI k)), (3, .inl r), (0, .inr (.inr (some 169))), (1, .inr (.inr (some q))), (2, .inr (.inr (some (D.ip j))))], [.inl (r - x5)], H5)) (C := []) rfl trivial ?_
      refine mw_cIe (fun _ => rfl) trivial (rp_wrap (d := f + 2 * l + 5)) ?_
      refine mw_go mu_g439 (k := 2) (f1 := (178, [(3, .inl ((r - x5).toInt16.toInt32)), (5, .inl x5), (4, .inl (nI k)), (0, .inr (.inr (some 169))), (1, .inr (.inr (some q))), (2, .inr (.inr (some (D.ip j))))], [], H5)) (C := []) rfl trivial ?_
      refine mw_go mu_g439 (k := 2) (f1 := (15, [(4, .inl ((nI k) + 1)), (3, .inl ((r - x5).toInt16.toInt32)), (5, .inl x5), (0, .inr (.inr (some 169))), (1, .inr (.inr (some q))), (2, .inr (.inr (some (D.ip j))))], [], H5)) (C := []) rfl trivial ?_
      refine mw_sub (L' := [(4, .inl (nI (k + 1))), (3, .inl ((r - x5).toInt16.toInt32)), (0, .inr (.inr (some 169))), (1, .inr (.inr (some q))), (2, .inr (.inr (some (D.ip j))))]) (by intro x hx; simp only [List.mem_cons, List.not_mem_nil, or_false] at hx ⊢; rcases hx with rfl | rfl | rfl | rfl | rfl <;> simp [nI_add, show (1 : Int32) = nI 1 from rfl]) ?_
      exact rp_chV0 hn hw hst ih h66 m_ (k + 1) _ _ (by omega) (by omega) hv5 (hf.tr hf5)
    ·
      refine mw_fr (f' := (53, [(5, .inl x5), (4, .inl (nI k)), (3, .inl r), (0, .inr (.inr (some 169))), (1, .inr (.inr (some q))), (2, .inr (.inr (some (D.ip j))))], [.inl (24 : Int32)], H5)) (by rw [show (cof (txt (tkd (tkk c k)))) = (24 : Int32) by rw [mk]; decide]) ?_
      refine mw_swi (i := 4) rfl (by decide) rfl (by decide) (by decide) ?_
      show mu_W _ mu_m439 (130, [(5, .inl x5), (4, .inl (nI k)), (3, .inl r), (0, .inr (.inr (some 169))), (1, .inr (.inr (some q))), (2, .inr (.inr (some (D.ip j))))], [], H5) _
      refine mw_go mu_g439 (k := 3) (f1 := (134, [(5, .inl x5), (4, .inl (nI k)), (3, .inl r), (0, .inr (.inr (some 169))), (1, .inr (.inr (some q))), (2, .inr (.inr (some (D.ip j))))], [.inl (r * x5)], H5)) (C := []) rfl trivial ?_
      refine mw_cIe (fun _ => rfl) trivial (rp_wrap (d := f + 2 * l + 5)) ?_
      refine mw_go mu_g439 (k := 2) (f1 := (178, [(3, .inl ((r * x5).toInt16.toInt32)), (5, .inl x5), (4, .inl (nI k)), (0, .inr (.inr (some 169))), (1, .inr (.inr (some q))), (2, .inr (.inr (some (D.ip j))))], [], H5)) (C := []) rfl trivial ?_
      refine mw_go mu_g439 (k := 2) (f1 := (15, [(4, .inl ((nI k) + 1)), (3, .inl ((r * x5).toInt16.toInt32)), (5, .inl x5), (0, .inr (.inr (some 169))), (1, .inr (.inr (some q))), (2, .inr (.inr (some (D.ip j))))], [], H5)) (C := []) rfl trivial ?_
      refine mw_sub (L' := [(4, .inl (nI (k + 1))), (3, .inl ((r * x5).toInt16.toInt32)), (0, .inr (.inr (some 169))), (1, .inr (.inr (some q))), (2, .inr (.inr (some (D.ip j))))]) (by intro x hx; simp only [List.mem_cons, List.not_mem_nil, or_false] at hx ⊢; rcases hx with rfl | rfl | rfl | rfl | rfl <;> simp [nI_add, show (1 : Int32) = nI 1 from rfl]) ?_
      exact rp_chV0 hn hw hst ih h66 m_ (k + 1) _ _ (by omega) (by omega) hv5 (hf.tr hf5)
    ·
      refine mw_fr (f' := (53, [(5, .inl x5), (4, .inl (nI k)), (3, .inl r), (0, .inr (.inr (some 169))), (1, .inr (.inr (some q))), (2, .inr (.inr (some (D.ip j))))], [.inl (25 : Int32)], H5)) (by rw [show (cof (txt (tkd (tkk c k)))) = (25 : Int32) by rw [mk]; decide]) ?_
      refine mw_swi (i := 5) rfl (by decide) rfl (by decide) (by decide) ?_
      show mu_W _ mu_m439 (141, [(5, .inl x5), (4, .inl (nI k)), (3, .inl r), (0, .inr (.inr (some 169))), (1, .inr (.inr (some q))), (2, .inr (.inr (some (D.ip j))))], [], H5) _
      refine mw_go mu_g439 (k := 1) (f1 := (143, [(5, .inl x5), (4, .inl (nI k)), (3, .inl r), (0, .inr (.inr (some 169))), (1, .inr (.inr (some q))), (2, .inr (.inr (some (D.ip j))))], [.inl x5], H5)) (C := []) rfl trivial ?_
      refine mw_if (P := x5 = 0) (a := 146) (b := 150) (fun _ => rfl) trivial (fun h7 => ?_) (fun h7 => ?_)
      · -- 146
        refine mw_go mu_g439 (k := 4) (f1 := (178, [(3, .inl (0 : Int32)), (5, .inl x5), (4, .inl (nI k)), (0, .inr (.inr (some 169))), (1, .inr (.inr (some q))), (2, .inr (.inr (some (D.ip j))))], [], H5)) (C := []) rfl trivial ?_
        refine mw_go mu_g439 (k := 2) (f1 := (15, [(4, .inl ((nI k) + 1)), (3, .inl (0 : Int32)), (5, .inl x5), (0, .inr (.inr (some 169))), (1, .inr (.inr (some q))), (2, .inr (.inr (some (D.ip j))))], [], H5)) (C := []) rfl trivial ?_
        refine mw_sub (L' := [(4, .inl (nI (k + 1))), (3, .inl (0 : Int32)), (0, .inr (.inr (some 169))), (1, .inr (.inr (some q))), (2, .inr (.inr (some (D.ip j))))]) (by intro x hx; simp only [List.mem_cons, List.not_mem_nil, or_false] at hx ⊢; rcases hx with rfl | rfl | rfl | rfl | rfl <;> simp [nI_add, show (1 : Int32) = nI 1 from rfl]) ?_
        exact rp_chV0 hn hw hst ih h66 m_ (k + 1) _ _ (by omega) (by omega) hv5 (hf.tr hf5)
      · -- 150
        refine mw_go mu_g439 (k := 3) (f1 := (154, [(5, .inl x5), (4, .inl (nI k)), (3, .inl r), (0, .inr (.inr (some 169))), (1, .inr (.inr (some q))), (2, .inr (.inr (some (D.ip j))))], [.inl (r / x5)], H5)) (C := [¬ x5 = 0]) rfl (show ¬ x5 = 0 from h7) ?_
        refine mw_cIe (fun _ => rfl) trivial (rp_wrap (d := f + 2 * l + 5)) ?_
        refine mw_go mu_g439 (k := 2) (f1 := (178, [(3, .inl ((r / x5).toInt16.toInt32)), (5, .inl x5), (4, .inl (nI k)), (0, .inr (.inr (some 169))), (1, .inr (.inr (some q))), (2, .inr (.inr (some (D.ip j))))], [], H5)) (C := []) rfl trivial ?_
        refine mw_go mu_g439 (k := 2) (f1 := (15, [(4, .inl ((nI k) + 1)), (3, .inl ((r / x5).toInt16.toInt32)), (5, .inl x5), (0, .inr (.inr (some 169))), (1, .inr (.inr (some q))), (2, .inr (.inr (some (D.ip j))))], [], H5)) (C := []) rfl trivial ?_
        refine mw_sub (L' := [(4, .inl (nI (k + 1))), (3, .inl ((r / x5).toInt16.toInt32)), (0, .inr (.inr (some 169))), (1, .inr (.inr (some q))), (2, .inr (.inr (some (D.ip j))))]) (by intro x hx; simp only [List.mem_cons, List.not_mem_nil, or_false] at hx ⊢; rcases hx with rfl | rfl | rfl | rfl | rfl <;> simp [nI_add, show (1 : Int32) = nI 1 from rfl]) ?_
        exact rp_chV0 hn hw hst ih h66 m_ (k + 1) _ _ (by omega) (by omega) hv5 (hf.tr hf5)
    ·
      refine mw_fr (f' := (53, [(5, .inl x5), (4, .inl (nI k)), (3, .inl r), (0, .inr (.inr (some 169))), (1, .inr (.inr (some q))), (2, .inr (.inr (some (D.ip j))))], [.inl (26 : Int32)], H5)) (by rw [show (cof (txt (tkd (tkk c k)))) = (26 : Int32) by rw [mk]; decide]) ?_
      refine mw_swd rfl (by decide) (by decide) (by decide) ?_
      show mu_W _ mu_m439 (161, [(5, .inl x5), (4, .inl (nI k)), (3, .inl r), (0, .inr (.inr (some 169))), (1, .inr (.inr (some q))), (2, .inr (.inr (some (D.ip j))))], [], H5) _
      refine mw_go mu_g439 (k := 1) (f1 := (163, [(5, .inl x5), (4, .inl (nI k)), (3, .inl r), (0, .inr (.inr (some 169))), (1, .inr (.inr (some q))), (2, .inr (.inr (some (D.ip j))))], [.inl x5], H5)) (C := []) rfl trivial ?_
      refine mw_if (P := x5 = 0) (a := 166) (b := 170) (fun _ => rfl) trivial (fun h7 => ?_) (fun h7 => ?_)
      · -- 166
        refine mw_go mu_g439 (k := 3) (f1 := (178, [(3, .inl (0 : Int32)), (5, .inl x5), (4, .inl (nI k)), (0, .inr (.inr (some 169))), (1, .inr (.inr (some q))), (2, .inr (.inr (some (D.ip j))))], [], H5)) (C := []) rfl trivial ?_
        refine mw_go mu_g439 (k := 2) (f1 := (15, [(4, .inl ((nI k) + 1)), (3, .inl (0 : Int32)), (5, .inl x5), (0, .inr (.inr (some 169))), (1, .inr (.inr (some q))), (2, .inr (.inr (some (D.ip j))))], [], H5)) (C := []) rfl trivial ?_
        refine mw_sub (L' := [(4, .inl (nI (k + 1))), (3, .inl (0 : Int32)), (0, .inr (.inr (some 169))), (1, .inr (.inr (some q))), (2, .inr (.inr (some (D.ip j))))]) (by intro x hx; simp only [List.mem_cons, List.not_mem_nil, or_false] at hx ⊢; rcases hx with rfl | rfl | rfl | rfl | rfl <;> simp [nI_add, show (1 : Int32) = nI 1 from rfl]) ?_
        exact rp_chV0 hn hw hst ih h66 m_ (k + 1) _ _ (by omega) (by omega) hv5 (hf.tr hf5)
      · -- 170
        refine mw_go mu_g439 (k := 3) (f1 := (174, [(5, .inl x5), (4, .inl (nI k)), (3, .inl r), (0, .inr (.inr (some 169))), (1, .inr (.inr (some q))), (2, .inr (.inr (some (D.ip j))))], [.inl (r - r / x5 * x5)], H5)) (C := [¬ x5 = 0]) rfl (show ¬ x5 = 0 from h7) ?_
        refine mw_cIe (fun _ => rfl) trivial (rp_wrap (d := f + 2 * l + 5)) ?_
        refine mw_go mu_g439 (k := 1) (f1 := (178, [(3, .inl ((r - r / x5 * x5).toInt16.toInt32)), (5, .inl x5), (4, .inl (nI k)), (0, .inr (.inr (some 169))), (1, .inr (.inr (some q))), (2, .inr (.inr (some (D.ip j))))], [], H5)) (C := []) rfl trivial ?_
        refine mw_go mu_g439 (k := 2) (f1 := (15, [(4, .inl ((nI k) + 1)), (3, .inl ((r - r / x5 * x5).toInt16.toInt32)), (5, .inl x5), (0, .inr (.inr (some 169))), (1, .inr (.inr (some q))), (2, .inr (.inr (some (D.ip j))))], [], H5)) (C := []) rfl trivial ?_
        refine mw_sub (L' := [(4, .inl (nI (k + 1))), (3, .inl ((r - r / x5 * x5).toInt16.toInt32)), (0, .inr (.inr (some 169))), (1, .inr (.inr (some q))), (2, .inr (.inr (some (D.ip j))))]) (by intro x hx; simp only [List.mem_cons, List.not_mem_nil, or_false] at hx ⊢; rcases hx with rfl | rfl | rfl | rfl | rfl <;> simp [nI_add, show (1 : Int32) = nI 1 from rfl]) ?_
        exact rp_chV0 hn hw hst ih h66 m_ (k + 1) _ _ (by omega) (by omega) hv5 (hf.tr hf5)
theorem rp_chainValue {tr : Prop} {Hb H : mu_H} {D : MD} {ph pt pk pa j f l dd q : Nat} {c : Tre} (hv : vsta tr Hb D ph pt pk pa H) (hn : nd Hb D.G dd q c) (hw : vcw tr D j (l + 1) c) (hst : hlx D (l + 1) j c) (ih : vlk tr Hb D ph pt pk pa j f l) (h66 : tkd c = 66) : mu_TI (mu_D (f + 2 * l + 7)) 439 [.inr (.inr (some 169)), .inr (.inr (some q)), .inr (.inr (some (D.ip j)))] H (fun _ H1 => vsta tr Hb D ph pt pk pa H1 ∧ vfk pk pa H H1) := by
  refine mu_meth (M := mu_m439) rfl rfl ?_
  refine mw_ht (mu_fn_of (show [0, 1, 2].Nodup by decide)) ?_
  have h2t := exw_66 hw.1 h66
  have t1 : 0 < tsn c := by omega
  obtain ⟨kd1, ⟨is1, nF1, lt1⟩, ⟨st1, sr1, sf1⟩, ⟨n2_1, n3_1, n7_1⟩, nm1, ar1, aq1, aF1, ai1, ⟨al1, am1, ax1⟩, ch1, dp1⟩ := nd.ra (c := c) hn hv.1.2.1
  obtain ⟨y, yr2, yn2⟩ := ch1 0 t1
  have yn2 : nd Hb D.G (dd - 1) y (tkk c 0) := yn2
  obtain ⟨b1_2, b2_2, b3_2, b4_2⟩ := ar_at ai1 (by decide) (Nat.lt_of_lt_of_le t1 al1) (Nat.lt_of_le_of_lt ax1 (by decide))
  have y2_2 : mu_r H ar1 (0 : Int32).toNatClampNeg = some y := yr2
  refine mw_go mu_g439 (k := 3) (f1 := (5, [(0, .inr (.inr (some 169))), (1, .inr (.inr (some q))), (2, .inr (.inr (some (D.ip j))))], [.inr (.inr (mu_r H q 1)), .inr (.inr (some 169))], H)) (C := [mu_is H (some q) 18]) rfl (show mu_is H (some q) 18 from is1) ?_
  refine mw_fr (f' := (5, [(0, .inr (.inr (some 169))), (1, .inr (.inr (some q))), (2, .inr (.inr (some (D.ip j))))], [.inr (.inr (some ar1)), .inr (.inr (some 169))], H)) (by first | (rw [aq1]; done) | (rw [aq1]; rfl)) ?_
  refine mw_go mu_g439 (k := 2) (f1 := (7, [(0, .inr (.inr (some 169))), (1, .inr (.inr (some q))), (2, .inr (.inr (some (D.ip j))))], [.inr (.inr (mu_r H ar1 (0 : Int32).toNatClampNeg)), .inr (.inr (some 169))], H)) (C := [mu_is H (some ar1) (mu_k H ar1), 103 ≤ mu_k H ar1 ∧ mu_k H ar1 ≤ 110 ∧ mu_k H ar1 ≠ 108, vp_in (0 : Int32) (mu_n H ar1)]) rfl (show (mu_is H (some ar1) (mu_k H ar1)) ∧ (103 ≤ mu_k H ar1 ∧ mu_k H ar1 ≤ 110 ∧ mu_k H ar1 ≠ 108) ∧ (vp_in (0 : Int32) (mu_n H ar1)) from ⟨b1_2, b2_2, b3_2⟩) ?_
  refine mw_fr (f' := (7, [(0, .inr (.inr (some 169))), (1, .inr (.inr (some q))), (2, .inr (.inr (some (D.ip j))))], [.inr (.inr (some y)), .inr (.inr (some 169))], H)) (by first | (rw [y2_2]; done) | (rw [y2_2]; rfl)) ?_
  refine mw_go mu_g439 (k := 1) (f1 := (8, [(0, .inr (.inr (some 169))), (1, .inr (.inr (some q))), (2, .inr (.inr (some (D.ip j))))], [.inr (.inr (some (D.ip j))), .inr (.inr (some y)), .inr (.inr (some 169))], H)) (C := []) rfl trivial ?_
  refine mw_cI (fun _ => rfl) (show mu_is H (some 169) 1 from hv.1.2.2.1.1) (ih _ (lkp c 0) _ _ hv (by rw [lkp_0]; exact yn2) (hw.p t1) (hst.2 0 t1)) (fun x3 H3 q3 => ?_)
  obtain ⟨hv3, hf3⟩ := q3
  refine mw_go mu_g439 (k := 3) (f1 := (15, [(4, .inl (1 : Int32)), (3, .inl x3), (0, .inr (.inr (some 169))), (1, .inr (.inr (some q))), (2, .inr (.inr (some (D.ip j))))], [], H3)) (C := []) rfl trivial ?_
  refine mw_sub (L' := [(4, .inl (nI 1)), (3, .inl x3), (0, .inr (.inr (some 169))), (1, .inr (.inr (some q))), (2, .inr (.inr (some (D.ip j))))]) (by intro x hx; simp only [List.mem_cons, List.not_mem_nil, or_false] at hx ⊢; rcases hx with rfl | rfl | rfl | rfl | rfl <;> simp [nI]) ?_
  exact rp_chV0 hn hw hst ih h66 (tsn c - 1) 1 _ _ (by omega) (by decide) hv3 ((vfk.rf (pk := pk) (pa := pa) (H := H)).tr hf3)
theorem rp_cpL {tr : Prop} {Hb H0 : mu_H} {D : MD} {ph pt pk pa j f l dd q : Nat} {c : Tre} (hn : nd Hb D.G dd q c) (hw : vcw tr D j (l + 1) c) (hst : hlx D (l + 1) j c) (ih : vlk tr Hb D ph pt pk pa j f l) (n66 : ¬ tkd c = 66) : ∀ m_ k x H, k + m_ = tsn c → vsta tr Hb D ph pt pk pa H → vfk pk pa H0 H → mu_W (mu_D (f + 2 * l + 6)) mu_m440 (24, [(4, .inl (nI k)), (3, .inl x), (0, .inr (.inr (some 169))), (1, .inr (.inr (some q))), (2, .inr (.inr (some (D.ip j))))], [], H) (fun r => ∃ x H1, r = (.inl (some (.inl x)), H1) ∧ vsta tr Hb D ph pt pk pa H1 ∧ vfk pk pa H0 H1)
  | 0, k, x, H, hm_, hv, hf => by
    obtain ⟨kd1, ⟨is1, nF1, lt1⟩, ⟨st1, sr1, sf1⟩, ⟨n2_1, n3_1, n7_1⟩, nm1, ar1, aq1, aF1, ai1, ⟨al1, am1, ax1⟩, ch1, dp1⟩ := nd.ra (c := c) hn hv.1.2.1
    have hl := hn.s26
    refine mw_go mu_g440 (k := 3) (f1 := (30, [(4, .inl (nI k)), (3, .inl x), (0, .inr (.inr (some 169))), (1, .inr (.inr (some q))), (2, .inr (.inr (some (D.ip j))))], [.inl (mu_i H q 2), .inl (nI k)], H)) (C := [mu_is H (some q) 18]) rfl (show mu_is H (some q) 18 from is1) ?_
    refine mw_fr (f' := (30, [(4, .inl (nI k)), (3, .inl x), (0, .inr (.inr (some 169))), (1, .inr (.inr (some q))), (2, .inr (.inr (some (D.ip j))))], [.inl (nI (tsn c)), .inl (nI k)], H)) (by first | (rw [n2_1]; done) | (rw [n2_1]; rfl)) ?_
    refine mw_if (P := (nI k) < (nI (tsn c))) (a := 33) (b := 57) (fun _ => rfl) trivial (fun h1 => absurd h1 (by rw [show k = tsn c by omega]; exact Int32.lt_irrefl)) (fun h1 => ?_)
    refine mw_go mu_g440 (k := 1) (f1 := (58, [(4, .inl (nI k)), (3, .inl x), (0, .inr (.inr (some 169))), (1, .inr (.inr (some q))), (2, .inr (.inr (some (D.ip j))))], [.inl (0 : Int32)], H)) (C := []) rfl trivial ?_
    exact mw_of (fun _ => mu_ret rfl trivial ⟨_, _, rfl, hv, hf⟩)
  | m_ + 1, k, x, H, hm_, hv, hf => by
    obtain ⟨kd1, ⟨is1, nF1, lt1⟩, ⟨st1, sr1, sf1⟩, ⟨n2_1, n3_1, n7_1⟩, nm1, ar1, aq1, aF1, ai1, ⟨al1, am1, ax1⟩, ch1, dp1⟩ := nd.ra (c := c) hn hv.1.2.1
    have hl := hn.s26
    have kt : k < tsn c := by omega
    refine mw_go mu_g440 (k := 3) (f1 := (30, [(4, .inl (nI k)), (3, .inl x), (0, .inr (.inr (some 169))), (1, .inr (.inr (some q))), (2, .inr (.inr (some (D.ip j))))], [.inl (mu_i H q 2), .inl (nI k)], H)) (C := [mu_is H (some q) 18]) rfl (show mu_is H (some q) 18 from is1) ?_
    refine mw_fr (f' := (30, [(4, .inl (nI k)), (3, .inl x), (0, .inr (.inr (some 169))), (1, .inr (.inr (some q))), (2, .inr (.inr (some (D.ip j))))], [.inl (nI (tsn c)), .inl (nI k)], H)) (by first | (rw [n2_1]; done) | (rw [n2_1]; rfl)) ?_
    refine mw_if (P := (nI k) < (nI (tsn c))) (a := 33) (b := 57) (fun _ => rfl) trivial (fun h1 => ?_) (fun h1 => absurd (nI_lt kt (by omega)) h1)
    obtain ⟨y, yr2, yn2⟩ := ch1 k kt
    have yn2 : nd Hb D.G (dd - 1) y (tkk c k) := yn2
    obtain ⟨b1_2, b2_2, b3_2, b4_2⟩ := ar_at ai1 (by decide) (Nat.lt_of_lt_of_le kt al1) (Nat.lt_of_le_of_lt ax1 (by decide))
    have y2_2 : mu_r H ar1 (nI k).toNatClampNeg = some y := by rw [b4_2]; exact yr2
    refine mw_go mu_g440 (k := 3) (f1 := (38, [(4, .inl (nI k)), (3, .inl x), (0, .inr (.inr (some 169))), (1, .inr (.inr (some q))), (2, .inr (.inr (some (D.ip j))))], [.inr (.inr (mu_r H q 1)), .inr (.inr (some 169))], H)) (C := [mu_is H (some q) 18]) rfl (show mu_is H (some q) 18 from is1) ?_
    refine mw_fr (f' := (38, [(4, .inl (nI k)), (3, .inl x), (0, .inr (.inr (some 169))), (1, .inr (.inr (some q))), (2, .inr (.inr (some (D.ip j))))], [.inr (.inr (some ar1)), .inr (.inr (some 169))], H)) (by first | (rw [aq1]; done) | (rw [aq1]; rfl)) ?_
    refine mw_go mu_g440 (k := 2) (f1 := (41, [(4, .inl (nI k)), (3, .inl x), (0, .inr (.inr (some 169))), (1, .inr (.inr (some q))), (2, .inr (.inr (some (D.ip j))))], [.inr (.inr (mu_r H ar1 (nI k).toNatClampNeg)), .inr (.inr (some 169))], H)) (C := [mu_is H (some ar1) (mu_k H ar1), 103 ≤ mu_k H ar1 ∧ mu_k H ar1 ≤ 110 ∧ mu_k H ar1 ≠ 108, vp_in (nI k) (mu_n H ar1)]) rfl (show (mu_is H (some ar1) (mu_k H ar1)) ∧ (103 ≤ mu_k H ar1 ∧ mu_k H ar1 ≤ 110 ∧ mu_k H ar1 ≠ 108) ∧ (vp_in (nI k) (mu_n H ar1)) from ⟨b1_2, b2_2, b3_2⟩) ?_
    refine mw_fr (f' := (41, [(4, .inl (nI k)), (3, .inl x), (0, .inr (.inr (some 169))), (1, .inr (.inr (some q))), (2, .inr (.inr (some (D.ip j))))], [.inr (.inr (some y)), .inr (.inr (some 169))], H)) (by first | (rw [y2_2]; done) | (rw [y2_2]; rfl)) ?_
    refine mw_go mu_g440 (k := 1) (f1 := (42, [(4, .inl (nI k)), (3, .inl x), (0, .inr (.inr (some 169))), (1, .inr (.inr (some q))), (2, .inr (.inr (some (D.ip j))))], [.inr (.inr (some (D.ip j))), .inr (.inr (some y)), .inr (.inr (some 169))], H)) (C := []) rfl trivial ?_
    refine mw_cI (fun _ => rfl) (show mu_is H (some 169) 1 from hv.1.2.2.1.1) (ih _ _ _ _ hv yn2 (hw.t n66 kt hst).1 (hw.t n66 kt hst).2) (fun x3 H3 q3 => ?_)
    obtain ⟨hv3, hf3⟩ := q3
    refine mw_go mu_g440 (k := 1) (f1 := (46, [(4, .inl (nI k)), (3, .inl x), (0, .inr (.inr (some 169))), (1, .inr (.inr (some q))), (2, .inr (.inr (some (D.ip j))))], [.inl x, .inl x3], H3)) (C := []) rfl trivial ?_
    refine mw_if (P := x3 = x) (a := 49) (b := 51) (fun _ => rfl) trivial (fun h2 => ?_) (fun h2 => ?_)
    · -- 49
      refine mw_go mu_g440 (k := 1) (f1 := (50, [(4, .inl (nI k)), (3, .inl x), (0, .inr (.inr (some 169))), (1, .inr (.inr (some q))), (2, .inr (.inr (some (D.ip j))))], [.inl (1 : Int32)], H3)) (C := []) rfl trivial ?_
      exact mw_of (fun _ => mu_ret rfl trivial ⟨_, _, rfl, hv3, (hf.tr hf3)⟩)
    · -- 51
      refine mw_go mu_g440 (k := 2) (f1 := (24, [(4, .inl ((nI k) + 1)), (3, .inl x), (0, .inr (.inr (some 169))), (1, .inr (.inr (some q))), (2, .inr (.inr (some (D.ip j))))], [], H3)) (C := []) rfl trivial ?_
      refine mw_sub (L' := [(4, .inl (nI (k + 1))), (3, .inl x), (0, .inr (.inr (some 169))), (1, .inr (.inr (some q))), (2, .inr (.inr (some (D.ip j))))]) (by intro x hx; simp only [List.mem_cons, List.not_mem_nil, or_false] at hx ⊢; rcases hx with rfl | rfl | rfl | rfl | rfl <;> first | (simp [nI_add, show (1 : Int32) = nI 1 from rfl]; done) | simp [nI]) ?_
      exact rp_cpL hn hw hst ih n66 m_ (k + 1) _ _ (by omega) hv3 (hf.tr hf3)
theorem rp_compared {tr : Prop} {Hb H : mu_H} {D : MD} {ph pt pk pa j f l dd q : Nat} {c : Tre} (hv : vsta tr Hb D ph pt pk pa H) (hn : nd Hb D.G dd q c) (hw : vcw tr D j (l + 1) c) (hst : hlx D (l + 1) j c) (ih : vlk tr Hb D ph pt pk pa j f l) (hk : tkd c ∈ [21, 5, 22, 6, 23, 7, 50]) : mu_TI (mu_D (f + 2 * l + 7)) 440 [.inr (.inr (some 169)), .inr (.inr (some q)), .inr (.inr (some (D.ip j)))] H (fun _ H1 => vsta tr Hb D ph pt pk pa H1 ∧ vfk pk pa H H1) := by
  refine mu_meth (M := mu_m440) rfl rfl ?_
  refine mw_ht (mu_fn_of (show [0, 1, 2].Nodup by decide)) ?_
  have n66 : ¬ tkd c = 66 := fun e => by rw [e] at hk; exact absurd hk (by decide)
  have h2t : 2 ≤ tsn c := exw_2 hw.1 (by simp only [List.mem_cons, List.not_mem_nil, or_false] at hk ⊢; omega)
  have t1 : 0 < tsn c := by omega
  have t2 : 1 < tsn c := by omega
  obtain ⟨kd1, ⟨is1, nF1, lt1⟩, ⟨st1, sr1, sf1⟩, ⟨n2_1, n3_1, n7_1⟩, nm1, ar1, aq1, aF1, ai1, ⟨al1, am1, ax1⟩, ch1, dp1⟩ := nd.ra (c := c) hn hv.1.2.1
  obtain ⟨y, yr2, yn2⟩ := ch1 0 t1
  have yn2 : nd Hb D.G (dd - 1) y (tkk c 0) := yn2
  obtain ⟨b1_2, b2_2, b3_2, b4_2⟩ := ar_at ai1 (by decide) (Nat.lt_of_lt_of_le t1 al1) (Nat.lt_of_le_of_lt ax1 (by decide))
  have y2_2 : mu_r H ar1 (0 : Int32).toNatClampNeg = some y := yr2
  refine mw_go mu_g440 (k := 3) (f1 := (5, [(0, .inr (.inr (some 169))), (1, .inr (.inr (some q))), (2, .inr (.inr (some (D.ip j))))], [.inr (.inr (mu_r H q 1)), .inr (.inr (some 169))], H)) (C := [mu_is H (some q) 18]) rfl (show mu_is H (some q) 18 from is1) ?_
  refine mw_fr (f' := (5, [(0, .inr (.inr (some 169))), (1, .inr (.inr (some q))), (2, .inr (.inr (some (D.ip j))))], [.inr (.inr (some ar1)), .inr (.inr (some 169))], H)) (by first | (rw [aq1]; done) | (rw [aq1]; rfl)) ?_
  refine mw_go mu_g440 (k := 2) (f1 := (7, [(0, .inr (.inr (some 169))), (1, .inr (.inr (some q))), (2, .inr (.inr (some (D.ip j))))], [.inr (.inr (mu_r H ar1 (0 : Int32).toNatClampNeg)), .inr (.inr (some 169))], H)) (C := [mu_is H (some ar1) (mu_k H ar1), 103 ≤ mu_k H ar1 ∧ mu_k H ar1 ≤ 110 ∧ mu_k H ar1 ≠ 108, vp_in (0 : Int32) (mu_n H ar1)]) rfl (show (mu_is H (some ar1) (mu_k H ar1)) ∧ (103 ≤ mu_k H ar1 ∧ mu_k H ar1 ≤ 110 ∧ mu_k H ar1 ≠ 108) ∧ (vp_in (0 : Int32) (mu_n H ar1)) from ⟨b1_2, b2_2, b3_2⟩) ?_
  refine mw_fr (f' := (7, [(0, .inr (.inr (some 169))), (1, .inr (.inr (some q))), (2, .inr (.inr (some (D.ip j))))], [.inr (.inr (some y)), .inr (.inr (some 169))], H)) (by first | (rw [y2_2]; done) | (rw [y2_2]; rfl)) ?_
  refine mw_go mu_g440 (k := 1) (f1 := (8, [(0, .inr (.inr (some 169))), (1, .inr (.inr (some q))), (2, .inr (.inr (some (D.ip j))))], [.inr (.inr (some (D.ip j))), .inr (.inr (some y)), .inr (.inr (some 169))], H)) (C := []) rfl trivial ?_
  refine mw_cI (fun _ => rfl) (show mu_is H (some 169) 1 from hv.1.2.2.1.1) (ih _ _ _ _ hv yn2 (hw.t n66 t1 hst).1 (hw.t n66 t1 hst).2) (fun x3 H3 q3 => ?_)
  obtain ⟨hv3, hf3⟩ := q3
  obtain ⟨kd4, ⟨is4, nF4, lt4⟩, ⟨st4, sr4, sf4⟩, ⟨n2_4, n3_4, n7_4⟩, nm4, ar4, aq4, aF4, ai4, ⟨al4, am4, ax4⟩, ch4, dp4⟩ := nd.ra (c := c) hn hv3.1.2.1
  refine mw_go mu_g440 (k := 3) (f1 := (15, [(3, .inl x3), (0, .inr (.inr (some 169))), (1, .inr (.inr (some q))), (2, .inr (.inr (some (D.ip j))))], [.inr (.inr (some 1000050)), .inr (.inr (some q))], H3)) (C := []) rfl trivial ?_
  refine mw_cIe (fun _ => rfl) (show mu_is H3 (some q) 18 from is4) (agr.isL (e := f + 2 * l + 3) (j := 50) hn hv3.1.2.1 (by decide)) ?_
  refine mw_if (P := (if tkd c = 50 then 1 else 0) = 0) (a := 59) (b := 21) (fun _ => rfl) trivial (fun hi5 => ?_) (fun hi5 => ?_)
  · -- 59
    have ek5 : ¬ tkd c = 50 := fun e => by rw [if_pos e] at hi5; exact absurd hi5 (by decide)
    obtain ⟨y2, yr6, yn6⟩ := ch4 1 t2
    have yn6 : nd Hb D.G (dd - 1) y2 (tkk c 1) := yn6
    obtain ⟨b1_6, b2_6, b3_6, b4_6⟩ := ar_at ai4 (by decide) (Nat.lt_of_lt_of_le t2 al4) (Nat.lt_of_le_of_lt ax4 (by decide))
    have y2_6 : mu_r H3 ar4 (1 : Int32).toNatClampNeg = some y2 := yr6
    refine mw_go mu_g440 (k := 3) (f1 := (64, [(3, .inl x3), (0, .inr (.inr (some 169))), (1, .inr (.inr (some q))), (2, .inr (.inr (some (D.ip j))))], [.inr (.inr (mu_r H3 q 1)), .inr (.inr (some 169))], H3)) (C := [mu_is H3 (some q) 18]) rfl (show mu_is H3 (some q) 18 from is4) ?_
    refine mw_fr (f' := (64, [(3, .inl x3), (0, .inr (.inr (some 169))), (1, .inr (.inr (some q))), (2, .inr (.inr (some (D.ip j))))], [.inr (.inr (some ar4)), .inr (.inr (some 169))], H3)) (by first | (rw [aq4]; done) | (rw [aq4]; rfl)) ?_
    refine mw_go mu_g440 (k := 2) (f1 := (66, [(3, .inl x3), (0, .inr (.inr (some 169))), (1, .inr (.inr (some q))), (2, .inr (.inr (some (D.ip j))))], [.inr (.inr (mu_r H3 ar4 (1 : Int32).toNatClampNeg)), .inr (.inr (some 169))], H3)) (C := [mu_is H3 (some ar4) (mu_k H3 ar4), 103 ≤ mu_k H3 ar4 ∧ mu_k H3 ar4 ≤ 110 ∧ mu_k H3 ar4 ≠ 108, vp_in (1 : Int32) (mu_n H3 ar4)]) rfl (show (mu_is H3 (some ar4) (mu_k H3 ar4)) ∧ (103 ≤ mu_k H3 ar4 ∧ mu_k H3 ar4 ≤ 110 ∧ mu_k H3 ar4 ≠ 108) ∧ (vp_in (1 : Int32) (mu_n H3 ar4)) from ⟨b1_6, b2_6, b3_6⟩) ?_
    refine mw_fr (f' := (66, [(3, .inl x3), (0, .inr (.inr (some 169))), (1, .inr (.inr (some q))), (2, .inr (.inr (some (D.ip j))))], [.inr (.inr (some y2)), .inr (.inr (some 169))], H3)) (by first | (rw [y2_6]; done) | (rw [y2_6]; rfl)) ?_
    refine mw_go mu_g440 (k := 1) (f1 := (67, [(3, .inl x3), (0, .inr (.inr (some 169))), (1, .inr (.inr (some q))), (2, .inr (.inr (some (D.ip j))))], [.inr (.inr (some (D.ip j))), .inr (.inr (some y2)), .inr (.inr (some 169))], H3)) (C := []) rfl trivial ?_
    refine mw_cI (fun _ => rfl) (show mu_is H3 (some 169) 1 from hv3.1.2.2.1.1) (ih _ _ _ _ hv3 yn6 (hw.t n66 t2 hst).1 (hw.t n66 t2 hst).2) (fun x7 H7 q7 => ?_)
    obtain ⟨hv7, hf7⟩ := q7
    obtain ⟨kd8, ⟨is8, nF8, lt8⟩, ⟨st8, sr8, sf8⟩, ⟨n2_8, n3_8, n7_8⟩, nm8, ar8, aq8, aF8, ai8, ⟨al8, am8, ax8⟩, ch8, dp8⟩ := nd.ra (c := c) hn hv7.1.2.1
    refine mw_go mu_g440 (k := 3) (f1 := (76, [(4, .inl x7), (3, .inl x3), (0, .inr (.inr (some 169))), (1, .inr (.inr (some q))), (2, .inr (.inr (some (D.ip j))))], [.inl (mu_i H7 q 7)], H7)) (C := [mu_is H7 (some q) 18]) rfl (show mu_is H7 (some q) 18 from is8) ?_
    refine mw_fr (f' := (76, [(4, .inl x7), (3, .inl x3), (0, .inr (.inr (some 169))), (1, .inr (.inr (some q))), (2, .inr (.inr (some (D.ip j))))], [.inl (cof (txt (tkd c)))], H7)) (by first | (rw [n7_8]; done) | (rw [n7_8]; rfl)) ?_
    simp only [List.mem_cons, List.not_mem_nil, or_false] at hk
    rcases hk with ek | ek | ek | ek | ek | ek | ek
    ·
      refine mw_fr (f' := (76, [(4, .inl x7), (3, .inl x3), (0, .inr (.inr (some 169))), (1, .inr (.inr (some q))), (2, .inr (.inr (some (D.ip j))))], [.inl (13 : Int32)], H7)) (by rw [show (cof (txt (tkd c))) = (13 : Int32) by rw [ek]; decide]) ?_
      refine mw_swi (i := 0) rfl (by decide) rfl (by decide) (by decide) ?_
      show mu_W _ mu_m440 (112, [(4, .inl x7), (3, .inl x3), (0, .inr (.inr (some 169))), (1, .inr (.inr (some q))), (2, .inr (.inr (some (D.ip j))))], [], H7) _
      refine mw_go mu_g440 (k := 3) (f1 := (116, [(4, .inl x7), (3, .inl x3), (0, .inr (.inr (some 169))), (1, .inr (.inr (some q))), (2, .inr (.inr (some (D.ip j))))], [.inl x7, .inl x3, .inr (.inr (some 169))], H7)) (C := []) rfl trivial ?_
      refine mw_if (P := x3 = x7) (a := 119) (b := 123) (fun _ => rfl) trivial (fun h7 => ?_) (fun h7 => ?_)
      · -- 119
        refine mw_go mu_g440 (k := 2) (f1 := (124, [(4, .inl x7), (3, .inl x3), (0, .inr (.inr (some 169))), (1, .inr (.inr (some q))), (2, .inr (.inr (some (D.ip j))))], [.inl (1 : Int32), .inr (.inr (some 169))], H7)) (C := []) rfl trivial ?_
        refine mw_cIe (fun _ => rfl) (show mu_is H7 (some 169) 1 from hv7.1.2.2.1.1) (rp_truth (d := f + 2 * l + 5) (x := 1)) ?_
        exact mw_of (fun _ => mu_ret rfl trivial ⟨_, _, rfl, hv7, (((vfk.rf (pk := pk) (pa := pa) (H := H)).tr hf3).tr hf7)⟩)
      · -- 123
        refine mw_go mu_g440 (k := 1) (f1 := (124, [(4, .inl x7), (3, .inl x3), (0, .inr (.inr (some 169))), (1, .inr (.inr (some q))), (2, .inr (.inr (some (D.ip j))))], [.inl (0 : Int32), .inr (.inr (some 169))], H7)) (C := []) rfl trivial ?_
        refine mw_cIe (fun _ => rfl) (show mu_is H7 (some 169) 1 from hv7.1.2.2.1.1) (rp_truth (d := f + 2 * l + 5) (x := 0)) ?_
        exact mw_of (fun _ => mu_ret rfl trivial ⟨_, _, rfl, hv7, (((vfk.rf (pk := pk) (pa := pa) (H := H)).tr hf3).tr hf7)⟩)
    ·
      refine mw_fr (f' := (76, [(4, .inl x7), (3, .inl x3), (0, .inr (.inr (some 169))), (1, .inr (.inr (some q))), (2, .inr (.inr (some (D.ip j))))], [.inl (14 : Int32)], H7)) (by rw [show (cof (txt (tkd c))) = (14 : Int32) by rw [ek]; decide]) ?_
      refine mw_swi (i := 1) rfl (by decide) rfl (by decide) (by decide) ?_
      show mu_W _ mu_m440 (128, [(4, .inl x7), (3, .inl x3), (0, .inr (.inr (some 169))), (1, .inr (.inr (some q))), (2, .inr (.inr (some (D.ip j))))], [], H7) _
      refine mw_go mu_g440 (k := 3) (f1 := (132, [(4, .inl x7), (3, .inl x3), (0, .inr (.inr (some 169))), (1, .inr (.inr (some q))), (2, .inr (.inr (some (D.ip j))))], [.inl x7, .inl x3, .inr (.inr (some 169))], H7)) (C := []) rfl trivial ?_
      refine mw_if (P := x3 = x7) (a := 139) (b := 135) (fun _ => rfl) trivial (fun h7 => ?_) (fun h7 => ?_)
      · -- 139
        refine mw_go mu_g440 (k := 1) (f1 := (140, [(4, .inl x7), (3, .inl x3), (0, .inr (.inr (some 169))), (1, .inr (.inr (some q))), (2, .inr (.inr (some (D.ip j))))], [.inl (0 : Int32), .inr (.inr (some 169))], H7)) (C := []) rfl trivial ?_
        refine mw_cIe (fun _ => rfl) (show mu_is H7 (some 169) 1 from hv7.1.2.2.1.1) (rp_truth (d := f + 2 * l + 5) (x := 0)) ?_
        exact mw_of (fun _ => mu_ret rfl trivial ⟨_, _, rfl, hv7, (((vfk.rf (pk := pk) (pa := pa) (H := H)).tr hf3).tr hf7)⟩)
      · -- 135
        refine mw_go mu_g440 (k := 2) (f1 := (140, [(4, .inl x7), (3, .inl x3), (0, .inr (.inr (some 169))), (1, .inr (.inr (some q))), (2, .inr (.inr (some (D.ip j))))], [.inl (1 : Int32), .inr (.inr (some 169))], H7)) (C := []) rfl trivial ?_
        refine mw_cIe (fun _ => rfl) (show mu_is H7 (some 169) 1 from hv7.1.2.2.1.1) (rp_truth (d := f + 2 * l + 5) (x := 1)) ?_
        exact mw_of (fun _ => mu_ret rfl trivial ⟨_, _, rfl, hv7, (((vfk.rf (pk := pk) (pa := pa) (H := H)).tr hf3).tr hf7)⟩)
    ·
      refine mw_fr (f' := (76, [(4, .inl x7), (3, .inl x3), (0, .inr (.inr (some 169))), (1, .inr (.inr (some q))), (2, .inr (.inr (some (D.ip j))))], [.inl (15 : Int32)], H7)) (by rw [show (cof (txt (tkd c))) = (15 : Int32) by rw [ek]; decide]) ?_
      refine mw_swi (i := 2) rfl (by decide) rfl (by decide) (by decide) ?_
      show mu_W _ mu_m440 (144, [(4, .inl x7), (3, .inl x3), (0, .inr (.inr (some 169))), (1, .inr (.inr (some q))), (2, .inr (.inr (some (D.ip j))))], [], H7) _
      refine mw_go mu_g440 (k := 3) (f1 := (148, [(4, .inl x7), (3, .inl x3), (0, .inr (.inr (some 169))), (1, .inr (.inr (some q))), (2, .inr (.inr (some (D.ip j))))], [.inl x7, .inl x3, .inr (.inr (some 169))], H7)) (C := []) rfl trivial ?_
      refine mw_if (P := x3 < x7) (a := 151) (b := 155) (fun _ => rfl) trivial (fun h7 => ?_) (fun h7 => ?_)
      · -- 151
        refine mw_go mu_g440 (k := 2) (f1 := (156, [(4, .inl x7), (3, .inl x3), (0, .inr (.inr (some 169))), (1, .inr (.inr (some q))), (2, .inr (.inr (some (D.ip j))))], [.inl (1 : Int32), .inr (.inr (some 169))], H7)) (C := []) rfl trivial ?_
        refine mw_cIe (fun _ => rfl) (show mu_is H7 (some 169) 1 from hv7.1.2.2.1.1) (rp_truth (d := f + 2 * l + 5) (x := 1)) ?_
        exact mw_of (fun _ => mu_ret rfl trivial ⟨_, _, rfl, hv7, (((vfk.rf (pk := pk) (pa := pa) (H := H)).tr hf3).tr hf7)⟩)
      · -- 155
        refine mw_go mu_g440 (k := 1) (f1 := (156, [(4, .inl x7), (3, .inl x3), (0, .inr (.inr (some 169))), (1, .inr (.inr (some q))), (2, .inr (.inr (some (D.ip j))))], [.inl (0 : Int32), .inr (.inr (some 169))], H7)) (C := []) rfl trivial ?_
        refine mw_cIe (fun _ => rfl) (show mu_is H7 (some 169) 1 from hv7.1.2.2.1.1) (rp_truth (d := f + 2 * l + 5) (x := 0)) ?_
        exact mw_of (fun _ => mu_ret rfl trivial ⟨_, _, rfl, hv7, (((vfk.rf (pk := pk) (pa := pa) (H := H)).tr hf3).tr hf7)⟩)
    ·
      refine mw_fr (f' := (76, [(4, .inl x7), (3, .inl x3), (0, .inr (.inr (some 169))), (1, .inr (.inr (some q))), (2, .inr (.inr (some (D.ip j))))], [.inl (16 : Int32)], H7)) (by rw [show (cof (txt (tkd c))) = (16 : Int32) by rw [ek]; decide]) ?_
      refine mw_swi (i := 3) rfl (by decide) rfl (by decide) (by decide) ?_
      show mu_W _ mu_m440 (160, [(4, .inl x7), (3, .inl x3), (0, .inr (.inr (some 169))), (1, .inr (.inr (some q))), (2, .inr (.inr (some (D.ip j))))], [], H7) _
      refine mw_go mu_g440 (k := 3) (f1 := (164, [(4, .inl x7), (3, .inl x3), (0, .inr (.inr (some 169))), (1, .inr (.inr (some q))), (2, .inr (.inr (some (D.ip j))))], [.inl x7, .inl x3, .inr (.inr (some 169))], H7)) (C := []) rfl trivial ?_
      refine mw_if (P := x7 < x3) (a := 171) (b := 167) (fun _ => rfl) trivial (fun h7 => ?_) (fun h7 => ?_)
      · -- 171
        refine mw_go mu_g440 (k := 1) (f1 := (172, [(4, .inl x7), (3, .inl x3), (0, .inr (.inr (some 169))), (1, .inr (.inr (some q))), (2, .inr (.inr (some (D.ip j))))], [.inl (0 : Int32), .inr (.inr (some 169))], H7)) (C := []) rfl trivial ?_
        refine mw_cIe (fun _ => rfl) (show mu_is H7 (some 169) 1 from hv7.1.2.2.1.1) (rp_truth (d := f + 2 * l + 5) (x := 0)) ?_
        exact mw_of (fun _ => mu_ret rfl trivial ⟨_, _, rfl, hv7, (((vfk.rf (pk := pk) (pa := pa) (H := H)).tr hf3).tr hf7)⟩)
      · -- 167
        refine mw_go mu_g440 (k := 2) (f1 := (172, [(4, .inl x7), (3, .inl x3), (0, .inr (.inr (some 169))), (1, .inr (.inr (some q))), (2, .inr (.inr (some (D.ip j))))], [.inl (1 : Int32), .inr (.inr (some 169))], H7)) (C := []) rfl trivial ?_
        refine mw_cIe (fun _ => rfl) (show mu_is H7 (some 169) 1 from hv7.1.2.2.1.1) (rp_truth (d := f + 2 * l + 5) (x := 1)) ?_
        exact mw_of (fun _ => mu_ret rfl trivial ⟨_, _, rfl, hv7, (((vfk.rf (pk := pk) (pa := pa) (H := H)).tr hf3).tr hf7)⟩)
    ·
      refine mw_fr (f' := (76, [(4, .inl x7), (3, .inl x3), (0, .inr (.inr (some 169))), (1, .inr (.inr (some q))), (2, .inr (.inr (some (D.ip j))))], [.inl (17 : Int32)], H7)) (by rw [show (cof (txt (tkd c))) = (17 : Int32) by rw [ek]; decide]) ?_
      refine mw_swi (i := 4) rfl (by decide) rfl (by decide) (by decide) ?_
      show mu_W _ mu_m440 (176, [(4, .inl x7), (3, .inl x3), (0, .inr (.inr (some 169))), (1, .inr (.inr (some q))), (2, .inr (.inr (some (D.ip j))))], [], H7) _
      refine mw_go mu_g440 (k := 3) (f1 := (180, [(4, .inl x7), (3, .inl x3), (0, .inr (.inr (some 169))), (1, .inr (.inr (some q))), (2, .inr (.inr (some (D.ip j))))], [.inl x7, .inl x3, .inr (.inr (some 169))], H7)) (C := []) rfl trivial ?_
      refine mw_if (P := x7 < x3) (a := 183) (b := 187) (fun _ => rfl) trivial (fun h7 => ?_) (fun h7 => ?_)
      · -- 183
        refine mw_go mu_g440 (k := 2) (f1 := (188, [(4, .inl x7), (3, .inl x3), (0, .inr (.inr (some 169))), (1, .inr (.inr (some q))), (2, .inr (.inr (some (D.ip j))))], [.inl (1 : Int32), .inr (.inr (some 169))], H7)) (C := []) rfl trivial ?_
        refine mw_cIe (fun _ => rfl) (show mu_is H7 (some 169) 1 from hv7.1.2.2.1.1) (rp_truth (d := f + 2 * l + 5) (x := 1)) ?_
        exact mw_of (fun _ => mu_ret rfl trivial ⟨_, _, rfl, hv7, (((vfk.rf (pk := pk) (pa := pa) (H := H)).tr hf3).tr hf7)⟩)
      · -- 187
        refine mw_go mu_g440 (k := 1) (f1 := (188, [(4, .inl x7), (3, .inl x3), (0, .inr (.inr (some 169))), (1, .inr (.inr (some q))), (2, .inr (.inr (some (D.ip j))))], [.inl (0 : Int32), .inr (.inr (some 169))], H7)) (C := []) rfl trivial ?_
        refine mw_cIe (fun _ => rfl) (show mu_is H7 (some 169) 1 from hv7.1.2.2.1.1) (rp_truth (d := f + 2 * l + 5) (x := 0)) ?_
        exact mw_of (fun _ => mu_ret rfl trivial ⟨_, _, rfl, hv7, (((vfk.rf (pk := pk) (pa := pa) (H := H)).tr hf3).tr hf7)⟩)
    ·
      refine mw_fr (f' := (76, [(4, .inl x7), (3, .inl x3), (0, .inr (.inr (some 169))), (1, .inr (.inr (some q))), (2, .inr (.inr (some (D.ip j))))], [.inl (18 : Int32)], H7)) (by rw [show (cof (txt (tkd c))) = (18 : Int32) by rw [ek]; decide]) ?_
      refine mw_swd rfl (by decide) (by decide) (by decide) ?_
      show mu_W _ mu_m440 (192, [(4, .inl x7), (3, .inl x3), (0, .inr (.inr (some 169))), (1, .inr (.inr (some q))), (2, .inr (.inr (some (D.ip j))))], [], H7) _
      refine mw_go mu_g440 (k := 3) (f1 := (196, [(4, .inl x7), (3, .inl x3), (0, .inr (.inr (some 169))), (1, .inr (.inr (some q))), (2, .inr (.inr (some (D.ip j))))], [.inl x7, .inl x3, .inr (.inr (some 169))], H7)) (C := []) rfl trivial ?_
      refine mw_if (P := x3 < x7) (a := 203) (b := 199) (fun _ => rfl) trivial (fun h7 => ?_) (fun h7 => ?_)
      · -- 203
        refine mw_go mu_g440 (k := 1) (f1 := (204, [(4, .inl x7), (3, .inl x3), (0, .inr (.inr (some 169))), (1, .inr (.inr (some q))), (2, .inr (.inr (some (D.ip j))))], [.inl (0 : Int32), .inr (.inr (some 169))], H7)) (C := []) rfl trivial ?_
        refine mw_cIe (fun _ => rfl) (show mu_is H7 (some 169) 1 from hv7.1.2.2.1.1) (rp_truth (d := f + 2 * l + 5) (x := 0)) ?_
        exact mw_of (fun _ => mu_ret rfl trivial ⟨_, _, rfl, hv7, (((vfk.rf (pk := pk) (pa := pa) (H := H)).tr hf3).tr hf7)⟩)
      · -- 199
        refine mw_go mu_g440 (k := 2) (f1 := (204, [(4, .inl x7), (3, .inl x3), (0, .inr (.inr (some 169))), (1, .inr (.inr (some q))), (2, .inr (.inr (some (D.ip j))))], [.inl (1 : Int32), .inr (.inr (some 169))], H7)) (C := []) rfl trivial ?_
        refine mw_cIe (fun _ => rfl) (show mu_is H7 (some 169) 1 from hv7.1.2.2.1.1) (rp_truth (d := f + 2 * l + 5) (x := 1)) ?_
        exact mw_of (fun _ => mu_ret rfl trivial ⟨_, _, rfl, hv7, (((vfk.rf (pk := pk) (pa := pa) (H := H)).tr hf3).tr hf7)⟩)
    · exact absurd ek ek5
  · -- 21
    have ek5 : tkd c = 50 := Decidable.byContradiction (fun e => hi5 (if_neg e))
    refine mw_go mu_g440 (k := 2) (f1 := (24, [(4, .inl (1 : Int32)), (3, .inl x3), (0, .inr (.inr (some 169))), (1, .inr (.inr (some q))), (2, .inr (.inr (some (D.ip j))))], [], H3)) (C := []) rfl trivial ?_
    refine mw_sub (L' := [(4, .inl (nI 1)), (3, .inl x3), (0, .inr (.inr (some 169))), (1, .inr (.inr (some q))), (2, .inr (.inr (some (D.ip j))))]) (by intro x hx; simp only [List.mem_cons, List.not_mem_nil, or_false] at hx ⊢; rcases hx with rfl | rfl | rfl | rfl | rfl <;> first | (simp [nI_add, show (1 : Int32) = nI 1 from rfl]; done) | simp [nI]) ?_
    exact rp_cpL hn hw hst ih n66 (tsn c - 1) 1 _ _ (by omega) hv3 ((vfk.rf (pk := pk) (pa := pa) (H := H)).tr hf3)
