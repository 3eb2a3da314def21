/-! The reference: allHeights, the parts -/
def hoj (D : MD) (hs : Nat → Int32) (j k : Nat) : Prop := (tkd (nth (D.md j).2.2 k) ∈ [32, 33, 75] → ¬ 120 < hgc D j hs 905 (tkk (nth (D.md j).2.2 k) 0)) ∧ (¬ tkd (nth (D.md j).2.2 k) ∈ [32, 33, 75] → ¬ tkd (nth (D.md j).2.2 k) = 73 → ¬ tkd (nth (D.md j).2.2 k) = 74 → ¬ 120 < hgt D j hs 905 (tkk (nth (D.md j).2.2 k) 0))
theorem ptw_c {p : Tre} (h : ptw p) (hk : tkd p ∈ [32, 33, 75]) : chw 905 (tkk p 0) := by
  rcases h.2 with z | z | z
  · rw [z.1] at hk; exact absurd hk (by decide)
  · exact z.2.ch
  · exact z.2
theorem ptw_e {p : Tre} (h : ptw p) (hk : ¬ tkd p ∈ [32, 33, 75]) (h73 : ¬ tkd p = 73) : exw 905 (tkk p 0) := by
  rcases h.2 with z | z | z
  · exact absurd z.1 h73
  · exact z.2
  · refine absurd ?_ hk
    have z := z.1
    simp only [List.mem_cons, List.not_mem_nil, or_false] at z ⊢
    omega
theorem rp_ahI {Hb H0 : mu_H} {D : MD} {od hp l d j : Nat} {ol : Nat → Nat} {hs : Nat → Int32} {Φ : mu_R → Prop} (hb : mdb D) (hj : j < D.n) (hal : alj D l j) (hthr : ∀ H1, ¬ (∀ k, k < (D.md j).2.2.length → hoj D hs j k) → wfr [19, 20, 21] [26] 1 10 H0 H1 → Φ (.inr 3, H1)) (hnx : ∀ H, hah Hb D H0 od hp ol hs H → (∀ k, k < (D.md j).2.2.length → hoj D hs j k) → mu_W (mu_D (d + 913)) mu_m460 (249, [(1, .inl (nI j)), (0, .inr (.inr (some 169)))], [], H) Φ) : ∀ m_ k H, k + m_ = (D.md j).2.2.length → hah Hb D H0 od hp ol hs H → (∀ i, i < k → hoj D hs j i) → mu_W (mu_D (d + 913)) mu_m460 (129, [(3, .inl (nI k)), (2, .inr (.inr (some (D.ip j)))), (1, .inl (nI j)), (0, .inr (.inr (some 169)))], [], H) Φ
  | 0, k, H, hm_, hh, hd => by
    obtain ⟨ia1, ⟨m, im1, id1⟩, ig1, ⟨iv1, ii1, if1⟩, vz1, nz1, dz1, wf1, w31_1⟩ := hh.1.ins hj
    obtain ⟨mi2, ⟨mw2, mr0_2, ms2⟩, ⟨mp2, mr1_2, mpn2⟩, mq2, mr2_2, mqn2⟩ := mdf.ra (y := (D.md j)) id1 hh.1.2.1
    obtain ⟨kd3, ⟨is3, nF3, lt3⟩, ⟨st3, sr3, sf3⟩, ⟨n2_3, n3_3, n7_3⟩, nm3, ar3, aq3, aF3, ai3, ⟨al3, am3, ax3⟩, ch3, dp3⟩ := nd.ra (c := (tmk 67 0 [] (D.md j).2.2)) mqn2 hh.1.2.1
    refine mw_go mu_g460 (k := 3) (f1 := (134, [(3, .inl (nI k)), (2, .inr (.inr (some (D.ip j)))), (1, .inl (nI j)), (0, .inr (.inr (some 169)))], [.inr (.inr (mu_r H (D.ip j) 0)), .inl (nI k)], H)) (C := [mu_is H (some (D.ip j)) 15]) rfl (show mu_is H (some (D.ip j)) 15 from ia1) ?_
    refine mw_fr (f' := (134, [(3, .inl (nI k)), (2, .inr (.inr (some (D.ip j)))), (1, .inl (nI j)), (0, .inr (.inr (some 169)))], [.inr (.inr (some m)), .inl (nI k)], H)) (by first | (rw [im1]; done) | (rw [im1]; rfl)) ?_
    refine mw_go mu_g460 (k := 1) (f1 := (137, [(3, .inl (nI k)), (2, .inr (.inr (some (D.ip j)))), (1, .inl (nI j)), (0, .inr (.inr (some 169)))], [.inr (.inr (mu_r H m 2)), .inl (nI k)], H)) (C := [mu_is H (some m) 17]) rfl (show mu_is H (some m) 17 from mi2) ?_
    refine mw_fr (f' := (137, [(3, .inl (nI k)), (2, .inr (.inr (some (D.ip j)))), (1, .inl (nI j)), (0, .inr (.inr (some 169)))], [.inr (.inr (some mq2)), .inl (nI k)], H)) (by first | (rw [mr2_2]; done) | (rw [mr2_2]; rfl)) ?_
    refine mw_go mu_g460 (k := 1) (f1 := (140, [(3, .inl (nI k)), (2, .inr (.inr (some (D.ip j)))), (1, .inl (nI j)), (0, .inr (.inr (some 169)))], [.inl (mu_i H mq2 2), .inl (nI k)], H)) (C := [mu_is H (some mq2) 18]) rfl (show mu_is H (some mq2) 18 from is3) ?_
    refine mw_fr (f' := (140, [(3, .inl (nI k)), (2, .inr (.inr (some (D.ip j)))), (1, .inl (nI j)), (0, .inr (.inr (some 169)))], [.inl (nI (D.md j).2.2.length), .inl (nI k)], H)) (by first | (rw [n2_3]; done) | (rw [n2_3]; rfl)) ?_
    refine mw_if (P := (nI k) < (nI (D.md j).2.2.length)) (a := 143) (b := 249) (fun _ => rfl) trivial (fun h1 => absurd h1 (by rw [show k = (D.md j).2.2.length by omega]; exact Int32.lt_irrefl)) (fun h1 => ?_)
    refine mw_sub (L' := [(1, .inl (nI j)), (0, .inr (.inr (some 169)))]) (by simp) ?_
    exact hnx _ hh (fun i hi => hd i (by omega))
  | m_ + 1, k, H, hm_, hh, hd => by
    obtain ⟨ia1, ⟨m, im1, id1⟩, ig1, ⟨iv1, ii1, if1⟩, vz1, nz1, dz1, wf1, w31_1⟩ := hh.1.ins hj
    obtain ⟨mi2, ⟨mw2, mr0_2, ms2⟩, ⟨mp2, mr1_2, mpn2⟩, mq2, mr2_2, mqn2⟩ := mdf.ra (y := (D.md j)) id1 hh.1.2.1
    obtain ⟨kd3, ⟨is3, nF3, lt3⟩, ⟨st3, sr3, sf3⟩, ⟨n2_3, n3_3, n7_3⟩, nm3, ar3, aq3, aF3, ai3, ⟨al3, am3, ax3⟩, ch3, dp3⟩ := nd.ra (c := (tmk 67 0 [] (D.md j).2.2)) mqn2 hh.1.2.1
    have hk : k < (D.md j).2.2.length := by omega
    have hp := (wf1.2 k hk : ptw (nth (D.md j).2.2 k))
    refine mw_go mu_g460 (k := 3) (f1 := (134, [(3, .inl (nI k)), (2, .inr (.inr (some (D.ip j)))), (1, .inl (nI j)), (0, .inr (.inr (some 169)))], [.inr (.inr (mu_r H (D.ip j) 0)), .inl (nI k)], H)) (C := [mu_is H (some (D.ip j)) 15]) rfl (show mu_is H (some (D.ip j)) 15 from ia1) ?_
    refine mw_fr (f' := (134, [(3, .inl (nI k)), (2, .inr (.inr (some (D.ip j)))), (1, .inl (nI j)), (0, .inr (.inr (some 169)))], [.inr (.inr (some m)), .inl (nI k)], H)) (by first | (rw [im1]; done) | (rw [im1]; rfl)) ?_
    refine mw_go mu_g460 (k := 1) (f1 := (137, [(3, .inl (nI k)), (2, .inr (.inr (some (D.ip j)))), (1, .inl (nI j)), (0, .inr (.inr (some 169)))], [.inr (.inr (mu_r H m 2)), .inl (nI k)], H)) (C := [mu_is H (some m) 17]) rfl (show mu_is H (some m) 17 from mi2) ?_
    refine mw_fr (f' := (137, [(3, .inl (nI k)), (2, .inr (.inr (some (D.ip j)))), (1, .inl (nI j)), (0, .inr (.inr (some 169)))], [.inr (.inr (some mq2)), .inl (nI k)], H)) (by first | (rw [mr2_2]; done) | (rw [mr2_2]; rfl)) ?_
    refine mw_go mu_g460 (k := 1) (f1 := (140, [(3, .inl (nI k)), (2, .inr (.inr (some (D.ip j)))), (1, .inl (nI j)), (0, .inr (.inr (some 169)))], [.inl (mu_i H mq2 2), .inl (nI k)], H)) (C := [mu_is H (some mq2) 18]) rfl (show mu_is H (some mq2) 18 from is3) ?_
    refine mw_fr (f' := (140, [(3, .inl (nI k)), (2, .inr (.inr (some (D.ip j)))), (1, .inl (nI j)), (0, .inr (.inr (some 169)))], [.inl (nI (D.md j).2.2.length), .inl (nI k)], H)) (by first | (rw [n2_3]; done) | (rw [n2_3]; rfl)) ?_
    refine mw_if (P := (nI k) < (nI (D.md j).2.2.length)) (a := 143) (b := 249) (fun _ => rfl) trivial (fun h1 => ?_) (fun h1 => absurd (nI_lt hk (by omega)) h1)
    obtain ⟨p, yr4, yn4⟩ := ch3 k hk
    have yn4 : nd Hb D.G (D.lv - 1) p (nth (D.md j).2.2 k) := yn4
    obtain ⟨b1_4, b2_4, b3_4, b4_4⟩ := ar_at ai3 (by decide) (Nat.lt_of_lt_of_le hk al3) (Nat.lt_of_le_of_lt ax3 (by decide))
    have y2_4 : mu_r H ar3 (nI k).toNatClampNeg = some p := by rw [b4_4]; exact yr4
    obtain ⟨kd5, ⟨is5, nF5, lt5⟩, ⟨st5, sr5, sf5⟩, ⟨n2_5, n3_5, n7_5⟩, nm5, ar5, aq5, aF5, ai5, ⟨al5, am5, ax5⟩, ch5, dp5⟩ := nd.ra (c := (nth (D.md j).2.2 k)) yn4 hh.1.2.1
    have hp1 : 0 < tsn (nth (D.md j).2.2 k) := by rw [hp.1.2]; exact Nat.one_pos
    refine mw_go mu_g460 (k := 2) (f1 := (147, [(3, .inl (nI k)), (2, .inr (.inr (some (D.ip j)))), (1, .inl (nI j)), (0, .inr (.inr (some 169)))], [.inr (.inr (mu_r H (D.ip j) 0))], H)) (C := [mu_is H (some (D.ip j)) 15]) rfl (show mu_is H (some (D.ip j)) 15 from ia1) ?_
    refine mw_fr (f' := (147, [(3, .inl (nI k)), (2, .inr (.inr (some (D.ip j)))), (1, .inl (nI j)), (0, .inr (.inr (some 169)))], [.inr (.inr (some m))], H)) (by first | (rw [im1]; done) | (rw [im1]; rfl)) ?_
    refine mw_go mu_g460 (k := 1) (f1 := (150, [(3, .inl (nI k)), (2, .inr (.inr (some (D.ip j)))), (1, .inl (nI j)), (0, .inr (.inr (some 169)))], [.inr (.inr (mu_r H m 2))], H)) (C := [mu_is H (some m) 17]) rfl (show mu_is H (some m) 17 from mi2) ?_
    refine mw_fr (f' := (150, [(3, .inl (nI k)), (2, .inr (.inr (some (D.ip j)))), (1, .inl (nI j)), (0, .inr (.inr (some 169)))], [.inr (.inr (some mq2))], H)) (by first | (rw [mr2_2]; done) | (rw [mr2_2]; rfl)) ?_
    refine mw_go mu_g460 (k := 1) (f1 := (153, [(3, .inl (nI k)), (2, .inr (.inr (some (D.ip j)))), (1, .inl (nI j)), (0, .inr (.inr (some 169)))], [.inr (.inr (mu_r H mq2 1))], H)) (C := [mu_is H (some mq2) 18]) rfl (show mu_is H (some mq2) 18 from is3) ?_
    refine mw_fr (f' := (153, [(3, .inl (nI k)), (2, .inr (.inr (some (D.ip j)))), (1, .inl (nI j)), (0, .inr (.inr (some 169)))], [.inr (.inr (some ar3))], H)) (by first | (rw [aq3]; done) | (rw [aq3]; rfl)) ?_
    refine mw_go mu_g460 (k := 2) (f1 := (155, [(3, .inl (nI k)), (2, .inr (.inr (some (D.ip j)))), (1, .inl (nI j)), (0, .inr (.inr (some 169)))], [.inr (.inr (mu_r H ar3 (nI k).toNatClampNeg))], H)) (C := [mu_is H (some ar3) (mu_k H ar3), 103 ≤ mu_k H ar3 ∧ mu_k H ar3 ≤ 110 ∧ mu_k H ar3 ≠ 108, vp_in (nI k) (mu_n H ar3)]) rfl (show (mu_is H (some ar3) (mu_k H ar3)) ∧ (103 ≤ mu_k H ar3 ∧ mu_k H ar3 ≤ 110 ∧ mu_k H ar3 ≠ 108) ∧ (vp_in (nI k) (mu_n H ar3)) from ⟨b1_4, b2_4, b3_4⟩) ?_
    refine mw_fr (f' := (155, [(3, .inl (nI k)), (2, .inr (.inr (some (D.ip j)))), (1, .inl (nI j)), (0, .inr (.inr (some 169)))], [.inr (.inr (some p))], H)) (by first | (rw [y2_4]; done) | (rw [y2_4]; rfl)) ?_
    refine mw_go mu_g460 (k := 3) (f1 := (160, [(4, .inr (.inr (some p))), (3, .inl (nI k)), (2, .inr (.inr (some (D.ip j)))), (1, .inl (nI j)), (0, .inr (.inr (some 169)))], [.inr (.inr (some p)), .inr (.inr (some 169))], H)) (C := []) rfl trivial ?_
    refine mw_cIe (fun _ => rfl) (show mu_is H (some 169) 1 from hh.1.2.2.1.1) (rq_assigns (d := d + 909) yn4 hh.1.2.1) ?_
    refine mw_if (P := (if tkd (nth (D.md j).2.2 k) ∈ [32, 33, 75] then 1 else 0) = 0) (a := 195) (b := 166) (fun _ => rfl) trivial (fun h2 => ?_) (fun h2 => ?_)
    · -- 195
      have ka : ¬ tkd (nth (D.md j).2.2 k) ∈ [32, 33, 75] := fun e => by rw [if_pos e] at h2; exact absurd h2 (by decide)
      refine mw_go mu_g460 (k := 2) (f1 := (200, [(4, .inr (.inr (some p))), (3, .inl (nI k)), (2, .inr (.inr (some (D.ip j)))), (1, .inl (nI j)), (0, .inr (.inr (some 169)))], [.inr (.inr (some 1000073)), .inr (.inr (some p))], H)) (C := []) rfl trivial ?_
      refine mw_cIe (fun _ => rfl) (show mu_is H (some p) 18 from is5) (agr.isL (e := d + 910) (j := 73) yn4 hh.1.2.1 (by decide)) ?_
      refine mw_if (P := (if tkd (nth (D.md j).2.2 k) = 73 then 1 else 0) = 0) (a := 206) (b := 243) (fun _ => rfl) trivial (fun hi6 => ?_) (fun hi6 => ?_)
      · -- 206
        have ek6 : ¬ tkd (nth (D.md j).2.2 k) = 73 := fun e => by rw [if_pos e] at hi6; exact absurd hi6 (by decide)
        refine mw_go mu_g460 (k := 2) (f1 := (211, [(4, .inr (.inr (some p))), (3, .inl (nI k)), (2, .inr (.inr (some (D.ip j)))), (1, .inl (nI j)), (0, .inr (.inr (some 169)))], [.inr (.inr (some 1000074)), .inr (.inr (some p))], H)) (C := []) rfl trivial ?_
        refine mw_cIe (fun _ => rfl) (show mu_is H (some p) 18 from is5) (agr.isL (e := d + 910) (j := 74) yn4 hh.1.2.1 (by decide)) ?_
        refine mw_if (P := (if tkd (nth (D.md j).2.2 k) = 74 then 1 else 0) = 0) (a := 217) (b := 243) (fun _ => rfl) trivial (fun hi7 => ?_) (fun hi7 => ?_)
        · -- 217
          have ek7 : ¬ tkd (nth (D.md j).2.2 k) = 74 := fun e => by rw [if_pos e] at hi7; exact absurd hi7 (by decide)
          have nk := hal k hk ek6
          obtain ⟨y, yr8, yn8⟩ := ch5 0 hp1
          have yn8 : nd Hb D.G ((D.lv - 1) - 1) y (tkk (nth (D.md j).2.2 k) 0) := yn8
          obtain ⟨b1_8, b2_8, b3_8, b4_8⟩ := ar_at ai5 (by decide) (Nat.lt_of_lt_of_le hp1 al5) (Nat.lt_of_le_of_lt ax5 (by decide))
          have y2_8 : mu_r H ar5 (0 : Int32).toNatClampNeg = some y := yr8
          refine mw_go mu_g460 (k := 4) (f1 := (224, [(4, .inr (.inr (some p))), (3, .inl (nI k)), (2, .inr (.inr (some (D.ip j)))), (1, .inl (nI j)), (0, .inr (.inr (some 169)))], [.inr (.inr (mu_r H p 1)), .inr (.inr (some 169)), .inr (.inr (some 169))], H)) (C := [mu_is H (some p) 18]) rfl (show mu_is H (some p) 18 from is5) ?_
          refine mw_fr (f' := (224, [(4, .inr (.inr (some p))), (3, .inl (nI k)), (2, .inr (.inr (some (D.ip j)))), (1, .inl (nI j)), (0, .inr (.inr (some 169)))], [.inr (.inr (some ar5)), .inr (.inr (some 169)), .inr (.inr (some 169))], H)) (by first | (rw [aq5]; done) | (rw [aq5]; rfl)) ?_
          refine mw_go mu_g460 (k := 2) (f1 := (226, [(4, .inr (.inr (some p))), (3, .inl (nI k)), (2, .inr (.inr (some (D.ip j)))), (1, .inl (nI j)), (0, .inr (.inr (some 169)))], [.inr (.inr (mu_r H ar5 (0 : Int32).toNatClampNeg)), .inr (.inr (some 169)), .inr (.inr (some 169))], H)) (C := [mu_is H (some ar5) (mu_k H ar5), 103 ≤ mu_k H ar5 ∧ mu_k H ar5 ≤ 110 ∧ mu_k H ar5 ≠ 108, vp_in (0 : Int32) (mu_n H ar5)]) rfl (show (mu_is H (some ar5) (mu_k H ar5)) ∧ (103 ≤ mu_k H ar5 ∧ mu_k H ar5 ≤ 110 ∧ mu_k H ar5 ≠ 108) ∧ (vp_in (0 : Int32) (mu_n H ar5)) from ⟨b1_8, b2_8, b3_8⟩) ?_
          refine mw_fr (f' := (226, [(4, .inr (.inr (some p))), (3, .inl (nI k)), (2, .inr (.inr (some (D.ip j)))), (1, .inl (nI j)), (0, .inr (.inr (some 169)))], [.inr (.inr (some y)), .inr (.inr (some 169)), .inr (.inr (some 169))], H)) (by first | (rw [y2_8]; done) | (rw [y2_8]; rfl)) ?_
          refine mw_go mu_g460 (k := 1) (f1 := (227, [(4, .inr (.inr (some p))), (3, .inl (nI k)), (2, .inr (.inr (some (D.ip j)))), (1, .inl (nI j)), (0, .inr (.inr (some 169)))], [.inr (.inr (some (D.ip j))), .inr (.inr (some y)), .inr (.inr (some 169)), .inr (.inr (some 169))], H)) (C := []) rfl trivial ?_
          refine mw_cI (fun _ => rfl) (show mu_is H (some 169) 1 from hh.1.2.2.1.1) (mu_DcI (show d + 1 + 905 + 7 = d + 913 by omega) (rp_high (d := d + 1) hb 905 hh.1 hh.2.1 hj yn8 (ptw_e hp ka ek6) ⟨_, nk⟩)) (fun x9 H9 q9 => ?_)
          obtain ⟨q8, q9⟩ := q9
          subst q8
          show mu_W _ mu_m460 (230, [(4, .inr (.inr (some p))), (3, .inl (nI k)), (2, .inr (.inr (some (D.ip j)))), (1, .inl (nI j)), (0, .inr (.inr (some 169)))], [.inl (hgt D j hs 905 (tkk (nth (D.md j).2.2 k) 0)), .inr (.inr (some 169))], H9) _
          have hh1 := hh.ff q9
          refine mw_go mu_g460 (k := 1) (f1 := (232, [(4, .inr (.inr (some p))), (3, .inl (nI k)), (2, .inr (.inr (some (D.ip j)))), (1, .inl (nI j)), (0, .inr (.inr (some 169)))], [.inl (120 : Int32), .inl (hgt D j hs 905 (tkk (nth (D.md j).2.2 k) 0)), .inr (.inr (some 169))], H9)) (C := []) rfl trivial ?_
          refine mw_if (P := (120 : Int32) < (hgt D j hs 905 (tkk (nth (D.md j).2.2 k) 0))) (a := 239) (b := 235) (fun _ => rfl) trivial (fun h3 => ?_) (fun h3 => ?_)
          · -- 239
            refine mw_go mu_g460 (k := 1) (f1 := (240, [(4, .inr (.inr (some p))), (3, .inl (nI k)), (2, .inr (.inr (some (D.ip j)))), (1, .inl (nI j)), (0, .inr (.inr (some 169)))], [.inl (0 : Int32), .inr (.inr (some 169))], H9)) (C := []) rfl trivial ?_
            exact mw_cE (as := [.inl (0 : Int32)]) (o := some 169) (S1 := []) rfl rfl rfl rfl (Nat.le_of_ble_eq_true rfl) (by decide) hh1.1.2.2.1.1 rfl (by decide) (rp_small (x := 0)) (fun H9 e9 => by rw [e9.2]; exact hthr _ (fun z => (z k hk).2 ka ek6 ek7 h3) ((hh1.2.2.2.2.1.ex).wk (fun _ z => z) (fun _ z => z) (by decide) (by decide))) (fun v9 H9 e9 => absurd rfl e9.1)
          · -- 235
            refine mw_go mu_g460 (k := 2) (f1 := (240, [(4, .inr (.inr (some p))), (3, .inl (nI k)), (2, .inr (.inr (some (D.ip j)))), (1, .inl (nI j)), (0, .inr (.inr (some 169)))], [.inl (1 : Int32), .inr (.inr (some 169))], H9)) (C := []) rfl trivial ?_
            refine mw_cE (as := [.inl (1 : Int32)]) (o := some 169) (S1 := []) rfl rfl rfl rfl (Nat.le_of_ble_eq_true rfl) (by decide) hh1.1.2.2.1.1 rfl (by decide) (rp_small (x := 1)) (fun H9 e9 => absurd e9.1 (by decide)) (fun v9 H9 e9 => ?_)
            obtain ⟨_, rfl, e9⟩ := e9
            rw [e9]
            clear e9 H9
            show mu_W _ mu_m460 (243, [(4, .inr (.inr (some p))), (3, .inl (nI k)), (2, .inr (.inr (some (D.ip j)))), (1, .inl (nI j)), (0, .inr (.inr (some 169)))], [], H9) _
            refine mw_go mu_g460 (k := 2) (f1 := (129, [(3, .inl ((nI k) + 1)), (4, .inr (.inr (some p))), (2, .inr (.inr (some (D.ip j)))), (1, .inl (nI j)), (0, .inr (.inr (some 169)))], [], H9)) (C := []) rfl trivial ?_
            refine mw_sub (L' := [(3, .inl (nI (k + 1))), (2, .inr (.inr (some (D.ip j)))), (1, .inl (nI j)), (0, .inr (.inr (some 169)))]) (by intro x hx; simp only [List.mem_cons, List.not_mem_nil, or_false] at hx ⊢; rcases hx with rfl | rfl | rfl | rfl <;> first | (simp [nI_add, show (1 : Int32) = nI 1 from rfl]; done) | simp [nI]) ?_
            exact rp_ahI hb hj hal hthr hnx m_ (k + 1) _ (by omega) hh1 (fun i hi => by
                by_cases e : i = k
                · subst e; exact ⟨fun z => absurd z ka, fun _ _ _ => h3⟩
                · exact hd i (by omega))
        · -- 243
          have ek7 : tkd (nth (D.md j).2.2 k) = 74 := Decidable.byContradiction (fun e => hi7 (if_neg e))
          refine mw_go mu_g460 (k := 2) (f1 := (129, [(3, .inl ((nI k) + 1)), (4, .inr (.inr (some p))), (2, .inr (.inr (some (D.ip j)))), (1, .inl (nI j)), (0, .inr (.inr (some 169)))], [], H)) (C := []) rfl trivial ?_
          refine mw_sub (L' := [(3, .inl (nI (k + 1))), (2, .inr (.inr (some (D.ip j)))), (1, .inl (nI j)), (0, .inr (.inr (some 169)))]) (by intro x hx; simp only [List.mem_cons, List.not_mem_nil, or_false] at hx ⊢; rcases hx with rfl | rfl | rfl | rfl <;> first | (simp [nI_add, show (1 : Int32) = nI 1 from rfl]; done) | simp [nI]) ?_
          exact rp_ahI hb hj hal hthr hnx m_ (k + 1) _ (by omega) hh (fun i hi => by
              by_cases e : i = k
              · subst e; exact ⟨fun z => absurd z ka, fun _ _ z => absurd ek7 z⟩
              · exact hd i (by omega))
      · -- 243
        have ek6 : tkd (nth (D.md j).2.2 k) = 73 := Decidable.byContradiction (fun e => hi6 (if_neg e))
        refine mw_go mu_g460 (k := 2) (f1 := (129, [(3, .inl ((nI k) + 1)), (4, .inr (.inr (some p))), (2, .inr (.inr (some (D.ip j)))), (1, .inl (nI j)), (0, .inr (.inr (some 169)))], [], H)) (C := []) rfl trivial ?_
        refine mw_sub (L' := [(3, .inl (nI (k + 1))), (2, .inr (.inr (some (D.ip j)))), (1, .inl (nI j)), (0, .inr (.inr (some 169)))]) (by intro x hx; simp only [List.mem_cons, List.not_mem_nil, or_false] at hx ⊢; rcases hx with rfl | rfl | rfl | rfl <;> first | (simp [nI_add, show (1 : Int32) = nI 1 from rfl]; done) | simp [nI]) ?_
        exact rp_ahI hb hj hal hthr hnx m_ (k + 1) _ (by omega) hh (fun i hi => by
            by_cases e : i = k
            · subst e; exact ⟨fun z => absurd z ka, fun _ z => absurd ek6 z⟩
            · exact hd i (by omega))
    · -- 166
      have ka : tkd (nth (D.md j).2.2 k) ∈ [32, 33, 75] := Decidable.byContradiction (fun e => h2 (if_neg e))
      have nk := hal k hk (fun z => by rw [z] at ka; exact absurd ka (by decide))
      obtain ⟨y, yr9, yn9⟩ := ch5 0 hp1
      have yn9 : nd Hb D.G ((D.lv - 1) - 1) y (tkk (nth (D.md j).2.2 k) 0) := yn9
      obtain ⟨b1_9, b2_9, b3_9, b4_9⟩ := ar_at ai5 (by decide) (Nat.lt_of_lt_of_le hp1 al5) (Nat.lt_of_le_of_lt ax5 (by decide))
      have y2_9 : mu_r H ar5 (0 : Int32).toNatClampNeg = some y := yr9
      refine mw_go mu_g460 (k := 4) (f1 := (173, [(4, .inr (.inr (some p))), (3, .inl (nI k)), (2, .inr (.inr (some (D.ip j)))), (1, .inl (nI j)), (0, .inr (.inr (some 169)))], [.inr (.inr (mu_r H p 1)), .inr (.inr (some 169)), .inr (.inr (some 169))], H)) (C := [mu_is H (some p) 18]) rfl (show mu_is H (some p) 18 from is5) ?_
      refine mw_fr (f' := (173, [(4, .inr (.inr (some p))), (3, .inl (nI k)), (2, .inr (.inr (some (D.ip j)))), (1, .inl (nI j)), (0, .inr (.inr (some 169)))], [.inr (.inr (some ar5)), .inr (.inr (some 169)), .inr (.inr (some 169))], H)) (by first | (rw [aq5]; done) | (rw [aq5]; rfl)) ?_
      refine mw_go mu_g460 (k := 2) (f1 := (175, [(4, .inr (.inr (some p))), (3, .inl (nI k)), (2, .inr (.inr (some (D.ip j)))), (1, .inl (nI j)), (0, .inr (.inr (some 169)))], [.inr (.inr (mu_r H ar5 (0 : Int32).toNatClampNeg)), .inr (.inr (some 169)), .inr (.inr (some 169))], H)) (C := [mu_is H (some ar5) (mu_k H ar5), 103 ≤ mu_k H ar5 ∧ mu_k H ar5 ≤ 110 ∧ mu_k H ar5 ≠ 108, vp_in (0 : Int32) (mu_n H ar5)]) rfl (show (mu_is H (some ar5) (mu_k H ar5)) ∧ (103 ≤ mu_k H ar5 ∧ mu_k H ar5 ≤ 110 ∧ mu_k H ar5 ≠ 108) ∧ (vp_in (0 : Int32) (mu_n H ar5)) from ⟨b1_9, b2_9, b3_9⟩) ?_
      refine mw_fr (f' := (175, [(4, .inr (.inr (some p))), (3, .inl (nI k)), (2, .inr (.inr (some (D.ip j)))), (1, .inl (nI j)), (0, .inr (.inr (some 169)))], [.inr (.inr (some y)), .inr (.inr (some 169)), .inr (.inr (some 169))], H)) (by first | (rw [y2_9]; done) | (rw [y2_9]; rfl)) ?_
      refine mw_go mu_g460 (k := 1) (f1 := (176, [(4, .inr (.inr (some p))), (3, .inl (nI k)), (2, .inr (.inr (some (D.ip j)))), (1, .inl (nI j)), (0, .inr (.inr (some 169)))], [.inr (.inr (some (D.ip j))), .inr (.inr (some y)), .inr (.inr (some 169)), .inr (.inr (some 169))], H)) (C := []) rfl trivial ?_
      refine mw_cI (fun _ => rfl) (show mu_is H (some 169) 1 from hh.1.2.2.1.1) (mu_DcI (show d + 905 + 8 = d + 913 by omega) (rp_highC (d := d) hb 905 hh.1 hh.2.1 hj yn9 (ptw_c hp ka) ⟨_, nk⟩)) (fun x9 H9 q9 => ?_)
      obtain ⟨q8, q9⟩ := q9
      subst q8
      show mu_W _ mu_m460 (179, [(4, .inr (.inr (some p))), (3, .inl (nI k)), (2, .inr (.inr (some (D.ip j)))), (1, .inl (nI j)), (0, .inr (.inr (some 169)))], [.inl (hgc D j hs 905 (tkk (nth (D.md j).2.2 k) 0)), .inr (.inr (some 169))], H9) _
      have hh1 := hh.ff q9
      refine mw_go mu_g460 (k := 1) (f1 := (181, [(4, .inr (.inr (some p))), (3, .inl (nI k)), (2, .inr (.inr (some (D.ip j)))), (1, .inl (nI j)), (0, .inr (.inr (some 169)))], [.inl (120 : Int32), .inl (hgc D j hs 905 (tkk (nth (D.md j).2.2 k) 0)), .inr (.inr (some 169))], H9)) (C := []) rfl trivial ?_
      refine mw_if (P := (120 : Int32) < (hgc D j hs 905 (tkk (nth (D.md j).2.2 k) 0))) (a := 188) (b := 184) (fun _ => rfl) trivial (fun h3 => ?_) (fun h3 => ?_)
      · -- 188
        refine mw_go mu_g460 (k := 1) (f1 := (189, [(4, .inr (.inr (some p))), (3, .inl (nI k)), (2, .inr (.inr (some (D.ip j)))), (1, .inl (nI j)), (0, .inr (.inr (some 169)))], [.inl (0 : Int32), .inr (.inr (some 169))], H9)) (C := []) rfl trivial ?_
        exact mw_cE (as := [.inl (0 : Int32)]) (o := some 169) (S1 := []) rfl rfl rfl rfl (Nat.le_of_ble_eq_true rfl) (by decide) hh1.1.2.2.1.1 rfl (by decide) (rp_small (x := 0)) (fun H9 e9 => by rw [e9.2]; exact hthr _ (fun z => (z k hk).1 ka h3) ((hh1.2.2.2.2.1.ex).wk (fun _ z => z) (fun _ z => z) (by decide) (by decide))) (fun v9 H9 e9 => absurd rfl e9.1)
      · -- 184
        refine mw_go mu_g460 (k := 2) (f1 := (189, [(4, .inr (.inr (some p))), (3, .inl (nI k)), (2, .inr (.inr (some (D.ip j)))), (1, .inl (nI j)), (0, .inr (.inr (some 169)))], [.inl (1 : Int32), .inr (.inr (some 169))], H9)) (C := []) rfl trivial ?_
        refine mw_cE (as := [.inl (1 : Int32)]) (o := some 169) (S1 := []) rfl rfl rfl rfl (Nat.le_of_ble_eq_true rfl) (by decide) hh1.1.2.2.1.1 rfl (by decide) (rp_small (x := 1)) (fun H9 e9 => absurd e9.1 (by decide)) (fun v9 H9 e9 => ?_)
        obtain ⟨_, rfl, e9⟩ := e9
        rw [e9]
        clear e9 H9
        show mu_W _ mu_m460 (192, [(4, .inr (.inr (some p))), (3, .inl (nI k)), (2, .inr (.inr (some (D.ip j)))), (1, .inl (nI j)), (0, .inr (.inr (some 169)))], [], H9) _
        refine mw_go mu_g460 (k := 3) (f1 := (129, [(3, .inl ((nI k) + 1)), (4, .inr (.inr (some p))), (2, .inr (.inr (some (D.ip j)))), (1, .inl (nI j)), (0, .inr (.inr (some 169)))], [], H9)) (C := []) rfl trivial ?_
        refine mw_sub (L' := [(3, .inl (nI (k + 1))), (2, .inr (.inr (some (D.ip j)))), (1, .inl (nI j)), (0, .inr (.inr (some 169)))]) (by intro x hx; simp only [List.mem_cons, List.not_mem_nil, or_false] at hx ⊢; rcases hx with rfl | rfl | rfl | rfl <;> first | (simp [nI_add, show (1 : Int32) = nI 1 from rfl]; done) | simp [nI]) ?_
        exact rp_ahI hb hj hal hthr hnx m_ (k + 1) _ (by omega) hh1 (fun i hi => by
            by_cases e : i = k
            · subst e; exact ⟨fun _ => h3, fun z => absurd ka z⟩
            · exact hd i (by omega))
theorem rp_ahP {Hb H0 : mu_H} {D : MD} {od hp l d : Nat} {ol : Nat → Nat} {hs : Nat → Int32} {Φ : mu_R → Prop} (hb : mdb D) (hal : ∀ j, j < D.n → alj D l j) (hthr : ∀ H1, ¬ (∀ j, j < D.n → ∀ k, k < (D.md j).2.2.length → hoj D hs j k) → wfr [19, 20, 21] [26] 1 10 H0 H1 → Φ (.inr 3, H1)) (hfin : ∀ H, hah Hb D H0 od hp ol hs H → (∀ j, j < D.n → ∀ k, k < (D.md j).2.2.length → hoj D hs j k) → Φ (.inl none, H)) : ∀ m_ j H, j + m_ = D.n → hah Hb D H0 od hp ol hs H → (∀ i, i < j → ∀ k, k < (D.md i).2.2.length → hoj D hs i k) → mu_W (mu_D (d + 913)) mu_m460 (106, [(1, .inl (nI j)), (0, .inr (.inr (some 169)))], [], H) Φ
  | 0, j, H, hm_, hh, hd => by
    obtain ⟨om1, ⟨om0_1, om1_1⟩, ol1, on1, oc1, oj1⟩ := hh.1.mod
    refine mw_go mu_g460 (k := 3) (f1 := (111, [(1, .inl (nI j)), (0, .inr (.inr (some 169)))], [.inr (.inr (mu_r H 169 18)), .inl (nI j)], H)) (C := [mu_is H (some 169) 1]) rfl (show mu_is H (some 169) 1 from hh.1.2.2.1.1) ?_
    refine mw_fr (f' := (111, [(1, .inl (nI j)), (0, .inr (.inr (some 169)))], [.inr (.inr (some D.mp)), .inl (nI j)], H)) (by first | (rw [hh.1.2.2.1.2]; done) | (rw [hh.1.2.2.1.2]; rfl)) ?_
    refine mw_go mu_g460 (k := 1) (f1 := (114, [(1, .inl (nI j)), (0, .inr (.inr (some 169)))], [.inl (mu_i H D.mp 1), .inl (nI j)], H)) (C := [mu_is H (some D.mp) 16]) rfl (show mu_is H (some D.mp) 16 from om1) ?_
    refine mw_fr (f' := (114, [(1, .inl (nI j)), (0, .inr (.inr (some 169)))], [.inl (nI D.n), .inl (nI j)], H)) (by first | (rw [om1_1]; done) | (rw [om1_1]; rfl)) ?_
    refine mw_if (P := (nI j) < (nI D.n)) (a := 117) (b := 255) (fun _ => rfl) trivial (fun h1 => absurd h1 (by rw [show j = D.n by omega]; exact Int32.lt_irrefl)) (fun h1 => ?_)
    exact mw_of (fun _ => mu_ret rfl trivial (hfin _ hh (fun i hi => hd i (by omega))))
  | m_ + 1, j, H, hm_, hh, hd => by
    obtain ⟨om1, ⟨om0_1, om1_1⟩, ol1, on1, oc1, oj1⟩ := hh.1.mod
    have hj : j < D.n := by omega
    refine mw_go mu_g460 (k := 3) (f1 := (111, [(1, .inl (nI j)), (0, .inr (.inr (some 169)))], [.inr (.inr (mu_r H 169 18)), .inl (nI j)], H)) (C := [mu_is H (some 169) 1]) rfl (show mu_is H (some 169) 1 from hh.1.2.2.1.1) ?_
    refine mw_fr (f' := (111, [(1, .inl (nI j)), (0, .inr (.inr (some 169)))], [.inr (.inr (some D.mp)), .inl (nI j)], H)) (by first | (rw [hh.1.2.2.1.2]; done) | (rw [hh.1.2.2.1.2]; rfl)) ?_
    refine mw_go mu_g460 (k := 1) (f1 := (114, [(1, .inl (nI j)), (0, .inr (.inr (some 169)))], [.inl (mu_i H D.mp 1), .inl (nI j)], H)) (C := [mu_is H (some D.mp) 16]) rfl (show mu_is H (some D.mp) 16 from om1) ?_
    refine mw_fr (f' := (114, [(1, .inl (nI j)), (0, .inr (.inr (some 169)))], [.inl (nI D.n), .inl (nI j)], H)) (by first | (rw [om1_1]; done) | (rw [om1_1]; rfl)) ?_
    refine mw_if (P := (nI j) < (nI D.n)) (a := 117) (b := 255) (fun _ => rfl) trivial (fun h1 => ?_) (fun h1 => absurd (nI_lt hj (by omega)) h1)
    obtain ⟨oa2, ob2, od2, oe2⟩ := ar_at (i := j) ol1 (by decide) (by rw [on1]; omega) (by rw [on1]; decide)
    have of2 : mu_r H (D.loc 0) (nI j).toNatClampNeg = some (D.ip j) := by rw [oe2]; exact oj1 j hj
    refine mw_go mu_g460 (k := 2) (f1 := (121, [(1, .inl (nI j)), (0, .inr (.inr (some 169)))], [.inr (.inr (mu_r H 169 18))], H)) (C := [mu_is H (some 169) 1]) rfl (show mu_is H (some 169) 1 from hh.1.2.2.1.1) ?_
    refine mw_fr (f' := (121, [(1, .inl (nI j)), (0, .inr (.inr (some 169)))], [.inr (.inr (some D.mp))], H)) (by first | (rw [hh.1.2.2.1.2]; done) | (rw [hh.1.2.2.1.2]; rfl)) ?_
    refine mw_go mu_g460 (k := 1) (f1 := (124, [(1, .inl (nI j)), (0, .inr (.inr (some 169)))], [.inr (.inr (mu_r H D.mp 0))], H)) (C := [mu_is H (some D.mp) 16]) rfl (show mu_is H (some D.mp) 16 from om1) ?_
    refine mw_fr (f' := (124, [(1, .inl (nI j)), (0, .inr (.inr (some 169)))], [.inr (.inr (some (D.loc 0)))], H)) (by first | (rw [om0_1]; done) | (rw [om0_1]; rfl)) ?_
    refine mw_go mu_g460 (k := 2) (f1 := (126, [(1, .inl (nI j)), (0, .inr (.inr (some 169)))], [.inr (.inr (mu_r H (D.loc 0) (nI j).toNatClampNeg))], H)) (C := [mu_is H (some (D.loc 0)) (mu_k H (D.loc 0)), 103 ≤ mu_k H (D.loc 0) ∧ mu_k H (D.loc 0) ≤ 110 ∧ mu_k H (D.loc 0) ≠ 108, vp_in (nI j) (mu_n H (D.loc 0))]) rfl (show (mu_is H (some (D.loc 0)) (mu_k H (D.loc 0))) ∧ (103 ≤ mu_k H (D.loc 0) ∧ mu_k H (D.loc 0) ≤ 110 ∧ mu_k H (D.loc 0) ≠ 108) ∧ (vp_in (nI j) (mu_n H (D.loc 0))) from ⟨oa2, ob2, od2⟩) ?_
    refine mw_fr (f' := (126, [(1, .inl (nI j)), (0, .inr (.inr (some 169)))], [.inr (.inr (some (D.ip j)))], H)) (by first | (rw [of2]; done) | (rw [of2]; rfl)) ?_
    refine mw_go mu_g460 (k := 3) (f1 := (129, [(3, .inl (0 : Int32)), (2, .inr (.inr (some (D.ip j)))), (1, .inl (nI j)), (0, .inr (.inr (some 169)))], [], H)) (C := []) rfl trivial ?_
    refine mw_sub (L' := [(3, .inl (nI 0)), (2, .inr (.inr (some (D.ip j)))), (1, .inl (nI j)), (0, .inr (.inr (some 169)))]) (by intro x hx; simp only [List.mem_cons, List.not_mem_nil, or_false] at hx ⊢; rcases hx with rfl | rfl | rfl | rfl <;> simp [nI]) ?_
    refine rp_ahI (H0 := H0) hb hj (hal j hj) (fun H1 z1 z2 => hthr _ (fun z => z1 (z j hj)) z2) (fun H1 r1 z1 => ?_) (D.md j).2.2.length 0 _ (Nat.zero_add _) hh (fun i hi => absurd hi (Nat.not_lt_zero _))
    refine mw_go mu_g460 (k := 2) (f1 := (106, [(1, .inl ((nI j) + 1)), (0, .inr (.inr (some 169)))], [], H1)) (C := []) rfl trivial ?_
    refine mw_sub (L' := [(1, .inl (nI (j + 1))), (0, .inr (.inr (some 169)))]) (by intro x hx; simp only [List.mem_cons, List.not_mem_nil, or_false] at hx ⊢; rcases hx with rfl | rfl <;> first | (simp [nI_add, show (1 : Int32) = nI 1 from rfl]; done) | simp [nI]) ?_
    exact rp_ahP hb hal hthr hfin m_ (j + 1) _ (by omega) r1 (fun i hi => by
        by_cases e : i = j
        · subst e; exact z1
        · exact hd i (by omega))
