/-! The reference: noCycle -/
/-- PathProverModel.noCycle()V -/
abbrev mu_m483 : ev_M := (8, none, [], ev_b483)
theorem mu_g483 : mu_good mu_m483 := mu_goodk ev_k483
theorem rp_cy7 {d lv r z : Nat} {H0 : mu_H} {F : Nat → Prop} {ms : List Mdl} {Φ : mu_R → Prop} (ht0 : rtx H0 F lv r ms) (hw : alm ms) (hF : ∀ p, F p → p < mu_z H0) (hz6 : mu_z H0 < 1000000 ∧ 200 < mu_z H0) {H : mu_H} {g : Nat → Bool} {k j p : Nat} {b : Bool} (hg : gon H z ms.length g) (hk : kep (fun p => mu_z H0 ≤ p ∧ p < 1000000) 1 ms.length H0 H) (hpn : nd H F (lv - 1) p (nth (mth ms k).2.2 j)) (hpw : ptw (nth (mth ms k).2.2 j)) (hnn : (tns (tkk (nth (mth ms k).2.2 j) 0)).length = 1) {f0 : Bool} (hfin : ∀ f2, f2 = ikb ms g (nam (tkk (nth (mth ms k).2.2 j) 0)) ms.length 0 f0 → mu_W (mu_D (d + 4)) mu_m483 (160, [(5, .inl (nI j)), (4, .inl (bI f2)), (3, .inl (nI k)), (2, .inl (bI b)), (1, .inr (.inr (some z))), (0, .inr (.inr (some 169)))], [], H) Φ) : ∀ m_ i f, i + m_ = ms.length → ikb ms g (nam (tkk (nth (mth ms k).2.2 j) 0)) m_ i f = ikb ms g (nam (tkk (nth (mth ms k).2.2 j) 0)) ms.length 0 f0 → mu_W (mu_D (d + 4)) mu_m483 (107, [(7, .inl (nI i)), (6, .inr (.inr (some p))), (5, .inl (nI j)), (4, .inl (bI f)), (3, .inl (nI k)), (2, .inl (bI b)), (1, .inr (.inr (some z))), (0, .inr (.inr (some 169)))], [], H) Φ
  | 0, i, f, hm_, hfe => by
    have hFc : ∀ p, (mu_z H0 ≤ p ∧ p < 1000000) → ¬ F p ∧ p < 1000000 := fun p z => ⟨fun y => by have := hF p y; omega, z.2⟩
    have ht : rtx H F lv r ms := ht0.kp hk hFc (fun z => by have := z.1; omega) (fun z => by have := ht0.2.1.2.1; have : r < mu_z H0 := this; omega)
    obtain ⟨tx14, tx_is, tx_n, tx15, tx_m, tx9⟩ := ht
    refine mw_go mu_g483 (k := 3) (f1 := (113, [(7, .inl (nI i)), (6, .inr (.inr (some p))), (5, .inl (nI j)), (4, .inl (bI f)), (3, .inl (nI k)), (2, .inl (bI b)), (1, .inr (.inr (some z))), (0, .inr (.inr (some 169)))], [.inl (mu_i H 169 15), .inl (nI i)], H)) (C := [mu_is H (some 169) 1]) rfl (show mu_is H (some 169) 1 from tx9) ?_
    refine mw_fr (f' := (113, [(7, .inl (nI i)), (6, .inr (.inr (some p))), (5, .inl (nI j)), (4, .inl (bI f)), (3, .inl (nI k)), (2, .inl (bI b)), (1, .inr (.inr (some z))), (0, .inr (.inr (some 169)))], [.inl (nI ms.length), .inl (nI i)], H)) (by first | (rw [tx15]; done) | (rw [tx15]; rfl)) ?_
    refine mw_if (P := (nI i) < (nI ms.length)) (a := 116) (b := 160) (fun _ => rfl) trivial (fun h1 => absurd h1 (by rw [show i = ms.length by omega]; exact Int32.lt_irrefl)) (fun h1 => ?_)
    refine mw_sub (L' := [(5, .inl (nI j)), (4, .inl (bI f)), (3, .inl (nI k)), (2, .inl (bI b)), (1, .inr (.inr (some z))), (0, .inr (.inr (some 169)))]) (by intro x hx; simp only [List.mem_cons, List.not_mem_nil, or_false] at hx ⊢; rcases hx with rfl | rfl | rfl | rfl | rfl | rfl <;> simp [nI_add, bI, show (1 : Int32) = nI 1 from rfl, show nI 0 = (0 : Int32) from rfl]) ?_
    exact hfin f hfe
  | m_ + 1, i, f, hm_, hfe => by
    have hFc : ∀ p, (mu_z H0 ≤ p ∧ p < 1000000) → ¬ F p ∧ p < 1000000 := fun p z => ⟨fun y => by have := hF p y; omega, z.2⟩
    have ht : rtx H F lv r ms := ht0.kp hk hFc (fun z => by have := z.1; omega) (fun z => by have := ht0.2.1.2.1; have : r < mu_z H0 := this; omega)
    obtain ⟨tx14, tx_is, tx_n, tx15, tx_m, tx9⟩ := ht
    have hi : i < ms.length := by omega
    have hp0 : 0 < tsn (nth (mth ms k).2.2 j) := by rw [hpw.1.2]; exact Nat.one_pos
    have hn0 : 0 < (tns (tkk (nth (mth ms k).2.2 j) 0)).length := by rw [hnn]; exact Nat.one_pos
    refine mw_go mu_g483 (k := 3) (f1 := (113, [(7, .inl (nI i)), (6, .inr (.inr (some p))), (5, .inl (nI j)), (4, .inl (bI f)), (3, .inl (nI k)), (2, .inl (bI b)), (1, .inr (.inr (some z))), (0, .inr (.inr (some 169)))], [.inl (mu_i H 169 15), .inl (nI i)], H)) (C := [mu_is H (some 169) 1]) rfl (show mu_is H (some 169) 1 from tx9) ?_
    refine mw_fr (f' := (113, [(7, .inl (nI i)), (6, .inr (.inr (some p))), (5, .inl (nI j)), (4, .inl (bI f)), (3, .inl (nI k)), (2, .inl (bI b)), (1, .inr (.inr (some z))), (0, .inr (.inr (some 169)))], [.inl (nI ms.length), .inl (nI i)], H)) (by first | (rw [tx15]; done) | (rw [tx15]; rfl)) ?_
    refine mw_if (P := (nI i) < (nI ms.length)) (a := 116) (b := 160) (fun _ => rfl) trivial (fun h1 => ?_) (fun h1 => absurd (nI_lt hi (by omega)) h1)
    refine mw_go mu_g483 (k := 2) (f1 := (119, [(7, .inl (nI i)), (6, .inr (.inr (some p))), (5, .inl (nI j)), (4, .inl (bI f)), (3, .inl (nI k)), (2, .inl (bI b)), (1, .inr (.inr (some z))), (0, .inr (.inr (some 169)))], [.inl (nI i), .inr (.inr (some z))], H)) (C := []) rfl trivial ?_
    refine mw_ald8 rfl hg.1 (by show vp_in (nI i) (mu_n H z); rw [hg.2.1]; exact vp_in_nI hi (by omega)) ?_
    rw [show mu_p (some z) = z from rfl, nI_clamp (show i < 2 ^ 31 by have := hi; omega), hg.2.2 i hi]
    show mu_W _ mu_m483 (120, [(7, .inl (nI i)), (6, .inr (.inr (some p))), (5, .inl (nI j)), (4, .inl (bI f)), (3, .inl (nI k)), (2, .inl (bI b)), (1, .inr (.inr (some z))), (0, .inr (.inr (some 169)))], [.inl (bI (g i))], H) _
    refine mw_if (P := (bI (g i)) = 0) (a := 123) (b := 154) (fun _ => rfl) trivial (fun h3 => ?_) (fun h3 => ?_)
    · -- 123
      have eg := bI_0 h3
      obtain ⟨mi, mr1, md1⟩ := tx_m i hi
      obtain ⟨d1_1, d2_1, d3_1, d4_1⟩ := ar_at (i := i) tx_is (by decide) (Nat.lt_of_lt_of_le hi tx_n.1) tx_n.2
      have mx1 : mu_r H r (nI i).toNatClampNeg = some mi := by rw [d4_1]; exact mr1
      obtain ⟨mi2, ⟨mw2, mr0_2, ms2⟩, ⟨mp2, mr1_2, mpn2⟩, mq2, mr2_2, mqn2⟩ := mdf.rd (y := (mth ms i)) md1
      obtain ⟨kd3, ⟨is3, nF3, lt3⟩, ⟨st3, sr3, sf3⟩, ⟨n2_3, n3_3, n7_3⟩, nm3, ar3, aq3, aF3, ai3, ⟨al3, am3, ax3⟩, ch3, dp3⟩ := nd.rd (c := (nth (mth ms k).2.2 j)) hpn
      obtain ⟨ty, yr4, yn4⟩ := ch3 0 hp0
      have yn4 : nd H F ((lv - 1) - 1) ty (tkk (nth (mth ms k).2.2 j) 0) := yn4
      obtain ⟨b1_4, b2_4, b3_4, b4_4⟩ := ar_at ai3 (by decide) (Nat.lt_of_lt_of_le hp0 al3) (Nat.lt_of_le_of_lt ax3 (by decide))
      have y2_4 : mu_r H ar3 (0 : Int32).toNatClampNeg = some ty := yr4
      obtain ⟨kd5, ⟨is5, nF5, lt5⟩, ⟨st5, sr5, sf5⟩, ⟨n2_5, n3_5, n7_5⟩, nm5, ar5, aq5, aF5, ai5, ⟨al5, am5, ax5⟩, ch5, dp5⟩ := nd.rd (c := (tkk (nth (mth ms k).2.2 j) 0)) yn4
      obtain ⟨nb6, nr6, nbF6, ni6, nn6, nl6, nk6⟩ := nm5.rd hn0
      obtain ⟨ns6, nz6, nf6⟩ := nk6 0 hn0
      obtain ⟨c1_6, c2_6, c3_6, c4_6⟩ := ar_at (i := 0) ni6 (by decide) (by rw [nn6]; exact hn0) (by rw [nn6]; omega)
      have nx6 : mu_r H nb6 (0 : Int32).toNatClampNeg = some ns6 := nz6
      refine mw_go mu_g483 (k := 2) (f1 := (127, [(7, .inl (nI i)), (6, .inr (.inr (some p))), (5, .inl (nI j)), (4, .inl (bI f)), (3, .inl (nI k)), (2, .inl (bI b)), (1, .inr (.inr (some z))), (0, .inr (.inr (some 169)))], [.inr (.inr (mu_r H 169 14))], H)) (C := [mu_is H (some 169) 1]) rfl (show mu_is H (some 169) 1 from tx9) ?_
      refine mw_fr (f' := (127, [(7, .inl (nI i)), (6, .inr (.inr (some p))), (5, .inl (nI j)), (4, .inl (bI f)), (3, .inl (nI k)), (2, .inl (bI b)), (1, .inr (.inr (some z))), (0, .inr (.inr (some 169)))], [.inr (.inr (some r))], H)) (by first | (rw [tx14]; done) | (rw [tx14]; rfl)) ?_
      refine mw_go mu_g483 (k := 2) (f1 := (130, [(7, .inl (nI i)), (6, .inr (.inr (some p))), (5, .inl (nI j)), (4, .inl (bI f)), (3, .inl (nI k)), (2, .inl (bI b)), (1, .inr (.inr (some z))), (0, .inr (.inr (some 169)))], [.inr (.inr (mu_r H r (nI i).toNatClampNeg))], H)) (C := [mu_is H (some r) (mu_k H r), 103 ≤ mu_k H r ∧ mu_k H r ≤ 110 ∧ mu_k H r ≠ 108, vp_in (nI i) (mu_n H r)]) rfl (show (mu_is H (some r) (mu_k H r)) ∧ (103 ≤ mu_k H r ∧ mu_k H r ≤ 110 ∧ mu_k H r ≠ 108) ∧ (vp_in (nI i) (mu_n H r)) from ⟨d1_1, d2_1, d3_1⟩) ?_
      refine mw_fr (f' := (130, [(7, .inl (nI i)), (6, .inr (.inr (some p))), (5, .inl (nI j)), (4, .inl (bI f)), (3, .inl (nI k)), (2, .inl (bI b)), (1, .inr (.inr (some z))), (0, .inr (.inr (some 169)))], [.inr (.inr (some mi))], H)) (by first | (rw [mx1]; done) | (rw [mx1]; rfl)) ?_
      refine mw_go mu_g483 (k := 1) (f1 := (133, [(7, .inl (nI i)), (6, .inr (.inr (some p))), (5, .inl (nI j)), (4, .inl (bI f)), (3, .inl (nI k)), (2, .inl (bI b)), (1, .inr (.inr (some z))), (0, .inr (.inr (some 169)))], [.inr (.inr (mu_r H mi 0))], H)) (C := [mu_is H (some mi) 17]) rfl (show mu_is H (some mi) 17 from mi2) ?_
      refine mw_fr (f' := (133, [(7, .inl (nI i)), (6, .inr (.inr (some p))), (5, .inl (nI j)), (4, .inl (bI f)), (3, .inl (nI k)), (2, .inl (bI b)), (1, .inr (.inr (some z))), (0, .inr (.inr (some 169)))], [.inr (.inr (some mw2))], H)) (by first | (rw [mr0_2]; done) | (rw [mr0_2]; rfl)) ?_
      refine mw_go mu_g483 (k := 2) (f1 := (138, [(7, .inl (nI i)), (6, .inr (.inr (some p))), (5, .inl (nI j)), (4, .inl (bI f)), (3, .inl (nI k)), (2, .inl (bI b)), (1, .inr (.inr (some z))), (0, .inr (.inr (some 169)))], [.inr (.inr (mu_r H p 1)), .inr (.inr (some mw2))], H)) (C := [mu_is H (some p) 18]) rfl (show mu_is H (some p) 18 from is3) ?_
      refine mw_fr (f' := (138, [(7, .inl (nI i)), (6, .inr (.inr (some p))), (5, .inl (nI j)), (4, .inl (bI f)), (3, .inl (nI k)), (2, .inl (bI b)), (1, .inr (.inr (some z))), (0, .inr (.inr (some 169)))], [.inr (.inr (some ar3)), .inr (.inr (some mw2))], H)) (by first | (rw [aq3]; done) | (rw [aq3]; rfl)) ?_
      refine mw_go mu_g483 (k := 2) (f1 := (140, [(7, .inl (nI i)), (6, .inr (.inr (some p))), (5, .inl (nI j)), (4, .inl (bI f)), (3, .inl (nI k)), (2, .inl (bI b)), (1, .inr (.inr (some z))), (0, .inr (.inr (some 169)))], [.inr (.inr (mu_r H ar3 (0 : Int32).toNatClampNeg)), .inr (.inr (some mw2))], H)) (C := [mu_is H (some ar3) (mu_k H ar3), 103 ≤ mu_k H ar3 ∧ mu_k H ar3 ≤ 110 ∧ mu_k H ar3 ≠ 108, vp_in (0 : Int32) (mu_n H ar3)]) rfl (show (mu_is H (some ar3) (mu_k H ar3)) ∧ (103 ≤ mu_k H ar3 ∧ mu_k H ar3 ≤ 110 ∧ mu_k H ar3 ≠ 108) ∧ (vp_in (0 : Int32) (mu_n H ar3)) from ⟨b1_4, b2_4, b3_4⟩) ?_
      refine mw_fr (f' := (140, [(7, .inl (nI i)), (6, .inr (.inr (some p))), (5, .inl (nI j)), (4, .inl (bI f)), (3, .inl (nI k)), (2, .inl (bI b)), (1, .inr (.inr (some z))), (0, .inr (.inr (some 169)))], [.inr (.inr (some ty)), .inr (.inr (some mw2))], H)) (by first | (rw [y2_4]; done) | (rw [y2_4]; rfl)) ?_
      refine mw_go mu_g483 (k := 1) (f1 := (143, [(7, .inl (nI i)), (6, .inr (.inr (some p))), (5, .inl (nI j)), (4, .inl (bI f)), (3, .inl (nI k)), (2, .inl (bI b)), (1, .inr (.inr (some z))), (0, .inr (.inr (some 169)))], [.inr (.inr (mu_r H ty 4)), .inr (.inr (some mw2))], H)) (C := [mu_is H (some ty) 18]) rfl (show mu_is H (some ty) 18 from is5) ?_
      refine mw_fr (f' := (143, [(7, .inl (nI i)), (6, .inr (.inr (some p))), (5, .inl (nI j)), (4, .inl (bI f)), (3, .inl (nI k)), (2, .inl (bI b)), (1, .inr (.inr (some z))), (0, .inr (.inr (some 169)))], [.inr (.inr (some nb6)), .inr (.inr (some mw2))], H)) (by first | (rw [nr6]; done) | (rw [nr6]; rfl)) ?_
      refine mw_go mu_g483 (k := 2) (f1 := (145, [(7, .inl (nI i)), (6, .inr (.inr (some p))), (5, .inl (nI j)), (4, .inl (bI f)), (3, .inl (nI k)), (2, .inl (bI b)), (1, .inr (.inr (some z))), (0, .inr (.inr (some 169)))], [.inr (.inr (mu_r H nb6 (0 : Int32).toNatClampNeg)), .inr (.inr (some mw2))], H)) (C := [mu_is H (some nb6) (mu_k H nb6), 103 ≤ mu_k H nb6 ∧ mu_k H nb6 ≤ 110 ∧ mu_k H nb6 ≠ 108, vp_in (0 : Int32) (mu_n H nb6)]) rfl (show (mu_is H (some nb6) (mu_k H nb6)) ∧ (103 ≤ mu_k H nb6 ∧ mu_k H nb6 ≤ 110 ∧ mu_k H nb6 ≠ 108) ∧ (vp_in (0 : Int32) (mu_n H nb6)) from ⟨c1_6, c2_6, c3_6⟩) ?_
      refine mw_fr (f' := (145, [(7, .inl (nI i)), (6, .inr (.inr (some p))), (5, .inl (nI j)), (4, .inl (bI f)), (3, .inl (nI k)), (2, .inl (bI b)), (1, .inr (.inr (some z))), (0, .inr (.inr (some 169)))], [.inr (.inr (some ns6)), .inr (.inr (some mw2))], H)) (by first | (rw [nx6]; done) | (rw [nx6]; rfl)) ?_
      refine mw_cS rfl (by decide) ms2.1.1 (sb_equals (d := _) ms2.1 nf6.1 (Nat.lt_trans ms2.2.2 (by decide)) (Nat.lt_trans nf6.2.2 (by decide))) (fun x9 H9 q9 => ?_)
      rw [q9.1, q9.2]
      clear q9 H9 x9
      show mu_W _ mu_m483 (148, [(7, .inl (nI i)), (6, .inr (.inr (some p))), (5, .inl (nI j)), (4, .inl (bI f)), (3, .inl (nI k)), (2, .inl (bI b)), (1, .inr (.inr (some z))), (0, .inr (.inr (some 169)))], [.inl (if (mth ms i).1 = (nam (tkk (nth (mth ms k).2.2 j) 0)) then 1 else 0)], H) _
      refine mw_if (P := (if (mth ms i).1 = (nam (tkk (nth (mth ms k).2.2 j) 0)) then 1 else 0) = 0) (a := 154) (b := 151) (fun _ => rfl) trivial (fun hi7 => ?_) (fun hi7 => ?_)
      · -- 154
        have ek7 : ¬ (mth ms i).1 = (nam (tkk (nth (mth ms k).2.2 j) 0)) := fun e => by rw [if_pos e] at hi7; exact absurd hi7 (by decide)
        refine mw_go mu_g483 (k := 2) (f1 := (107, [(7, .inl ((nI i) + 1)), (6, .inr (.inr (some p))), (5, .inl (nI j)), (4, .inl (bI f)), (3, .inl (nI k)), (2, .inl (bI b)), (1, .inr (.inr (some z))), (0, .inr (.inr (some 169)))], [], H)) (C := []) rfl trivial ?_
        refine mw_sub (L' := [(7, .inl (nI (i + 1))), (6, .inr (.inr (some p))), (5, .inl (nI j)), (4, .inl (bI f)), (3, .inl (nI k)), (2, .inl (bI b)), (1, .inr (.inr (some z))), (0, .inr (.inr (some 169)))]) (by intro x hx; simp only [List.mem_cons, List.not_mem_nil, or_false] at hx ⊢; rcases hx with rfl | rfl | rfl | rfl | rfl | rfl | rfl | rfl <;> simp [nI_add, bI, show (1 : Int32) = nI 1 from rfl, show nI 0 = (0 : Int32) from rfl]) ?_
        exact rp_cy7 ht0 hw hF hz6 hg hk hpn hpw hnn hfin m_ (i + 1) _ (by omega) (by rw [ikb, if_neg (fun z => ek7 z.2)] at hfe; exact hfe)
      · -- 151
        have ek7 : (mth ms i).1 = (nam (tkk (nth (mth ms k).2.2 j) 0)) := Decidable.byContradiction (fun e => hi7 (if_neg e))
        refine mw_go mu_g483 (k := 4) (f1 := (107, [(7, .inl ((nI i) + 1)), (4, .inl (0 : Int32)), (6, .inr (.inr (some p))), (5, .inl (nI j)), (3, .inl (nI k)), (2, .inl (bI b)), (1, .inr (.inr (some z))), (0, .inr (.inr (some 169)))], [], H)) (C := []) rfl trivial ?_
        refine mw_sub (L' := [(7, .inl (nI (i + 1))), (6, .inr (.inr (some p))), (5, .inl (nI j)), (4, .inl (bI false)), (3, .inl (nI k)), (2, .inl (bI b)), (1, .inr (.inr (some z))), (0, .inr (.inr (some 169)))]) (by intro x hx; simp only [List.mem_cons, List.not_mem_nil, or_false] at hx ⊢; rcases hx with rfl | rfl | rfl | rfl | rfl | rfl | rfl | rfl <;> simp [nI_add, bI, show (1 : Int32) = nI 1 from rfl, show nI 0 = (0 : Int32) from rfl]) ?_
        exact rp_cy7 ht0 hw hF hz6 hg hk hpn hpw hnn hfin m_ (i + 1) _ (by omega) (by rw [ikb, if_pos ⟨eg, ek7⟩] at hfe; exact hfe)
    · -- 154
      have eg := bI_1 h3
      refine mw_go mu_g483 (k := 2) (f1 := (107, [(7, .inl ((nI i) + 1)), (6, .inr (.inr (some p))), (5, .inl (nI j)), (4, .inl (bI f)), (3, .inl (nI k)), (2, .inl (bI b)), (1, .inr (.inr (some z))), (0, .inr (.inr (some 169)))], [], H)) (C := []) rfl trivial ?_
      refine mw_sub (L' := [(7, .inl (nI (i + 1))), (6, .inr (.inr (some p))), (5, .inl (nI j)), (4, .inl (bI f)), (3, .inl (nI k)), (2, .inl (bI b)), (1, .inr (.inr (some z))), (0, .inr (.inr (some 169)))]) (by intro x hx; simp only [List.mem_cons, List.not_mem_nil, or_false] at hx ⊢; rcases hx with rfl | rfl | rfl | rfl | rfl | rfl | rfl | rfl <;> simp [nI_add, bI, show (1 : Int32) = nI 1 from rfl, show nI 0 = (0 : Int32) from rfl]) ?_
      exact rp_cy7 ht0 hw hF hz6 hg hk hpn hpw hnn hfin m_ (i + 1) _ (by omega) (by rw [ikb, if_neg (fun z => by rw [eg] at z; exact absurd z.1 (by decide))] at hfe; exact hfe)
theorem rp_cy5 {d lv r z : Nat} {H0 : mu_H} {F : Nat → Prop} {ms : List Mdl} {Φ : mu_R → Prop} (ht0 : rtx H0 F lv r ms) (hw : alm ms) (hF : ∀ p, F p → p < mu_z H0) (hz6 : mu_z H0 < 1000000 ∧ 200 < mu_z H0) {H : mu_H} {g : Nat → Bool} {k : Nat} {b : Bool} (hg : gon H z ms.length g) (hk : kep (fun p => mu_z H0 ≤ p ∧ p < 1000000) 1 ms.length H0 H) (hkn : k < ms.length) (hfin : ∀ f2, f2 = frk ms g k → mu_W (mu_D (d + 4)) mu_m483 (166, [(4, .inl (bI f2)), (3, .inl (nI k)), (2, .inl (bI b)), (1, .inr (.inr (some z))), (0, .inr (.inr (some 169)))], [], H) Φ) : ∀ m_ j f, j + m_ = (mth ms k).2.2.length → jkb ms g (mth ms k).2.2 m_ j f = frk ms g k → mu_W (mu_D (d + 4)) mu_m483 (40, [(5, .inl (nI j)), (4, .inl (bI f)), (3, .inl (nI k)), (2, .inl (bI b)), (1, .inr (.inr (some z))), (0, .inr (.inr (some 169)))], [], H) Φ
  | 0, j, f, hm_, hfe => by
    have hFc : ∀ p, (mu_z H0 ≤ p ∧ p < 1000000) → ¬ F p ∧ p < 1000000 := fun p z => ⟨fun y => by have := hF p y; omega, z.2⟩
    have ht : rtx H F lv r ms := ht0.kp hk hFc (fun z => by have := z.1; omega) (fun z => by have := ht0.2.1.2.1; have : r < mu_z H0 := this; omega)
    obtain ⟨tx14, tx_is, tx_n, tx15, tx_m, tx9⟩ := ht
    obtain ⟨mk, mr1, md1⟩ := tx_m k hkn
    obtain ⟨d1_1, d2_1, d3_1, d4_1⟩ := ar_at (i := k) tx_is (by decide) (Nat.lt_of_lt_of_le hkn tx_n.1) tx_n.2
    have mx1 : mu_r H r (nI k).toNatClampNeg = some mk := by rw [d4_1]; exact mr1
    obtain ⟨mi2, ⟨mw2, mr0_2, ms2⟩, ⟨mp2, mr1_2, mpn2⟩, mq2, mr2_2, mqn2⟩ := mdf.rd (y := (mth ms k)) md1
    obtain ⟨kd3, ⟨is3, nF3, lt3⟩, ⟨st3, sr3, sf3⟩, ⟨n2_3, n3_3, n7_3⟩, nm3, ar3, aq3, aF3, ai3, ⟨al3, am3, ax3⟩, ch3, dp3⟩ := nd.rd (c := (tmk 67 0 [] (mth ms k).2.2)) mqn2
    have hl26 : (mth ms k).2.2.length ≤ 2 ^ 21 := Nat.le_trans al3 ax3
    refine mw_go mu_g483 (k := 3) (f1 := (46, [(5, .inl (nI j)), (4, .inl (bI f)), (3, .inl (nI k)), (2, .inl (bI b)), (1, .inr (.inr (some z))), (0, .inr (.inr (some 169)))], [.inr (.inr (mu_r H 169 14)), .inl (nI j)], H)) (C := [mu_is H (some 169) 1]) rfl (show mu_is H (some 169) 1 from tx9) ?_
    refine mw_fr (f' := (46, [(5, .inl (nI j)), (4, .inl (bI f)), (3, .inl (nI k)), (2, .inl (bI b)), (1, .inr (.inr (some z))), (0, .inr (.inr (some 169)))], [.inr (.inr (some r)), .inl (nI j)], H)) (by first | (rw [tx14]; done) | (rw [tx14]; rfl)) ?_
    refine mw_go mu_g483 (k := 2) (f1 := (48, [(5, .inl (nI j)), (4, .inl (bI f)), (3, .inl (nI k)), (2, .inl (bI b)), (1, .inr (.inr (some z))), (0, .inr (.inr (some 169)))], [.inr (.inr (mu_r H r (nI k).toNatClampNeg)), .inl (nI j)], H)) (C := [mu_is H (some r) (mu_k H r), 103 ≤ mu_k H r ∧ mu_k H r ≤ 110 ∧ mu_k H r ≠ 108, vp_in (nI k) (mu_n H r)]) rfl (show (mu_is H (some r) (mu_k H r)) ∧ (103 ≤ mu_k H r ∧ mu_k H r ≤ 110 ∧ mu_k H r ≠ 108) ∧ (vp_in (nI k) (mu_n H r)) from ⟨d1_1, d2_1, d3_1⟩) ?_
    refine mw_fr (f' := (48, [(5, .inl (nI j)), (4, .inl (bI f)), (3, .inl (nI k)), (2, .inl (bI b)), (1, .inr (.inr (some z))), (0, .inr (.inr (some 169)))], [.inr (.inr (some mk)), .inl (nI j)], H)) (by first | (rw [mx1]; done) | (rw [mx1]; rfl)) ?_
    refine mw_go mu_g483 (k := 1) (f1 := (51, [(5, .inl (nI j)), (4, .inl (bI f)), (3, .inl (nI k)), (2, .inl (bI b)), (1, .inr (.inr (some z))), (0, .inr (.inr (some 169)))], [.inr (.inr (mu_r H mk 2)), .inl (nI j)], H)) (C := [mu_is H (some mk) 17]) rfl (show mu_is H (some mk) 17 from mi2) ?_
    refine mw_fr (f' := (51, [(5, .inl (nI j)), (4, .inl (bI f)), (3, .inl (nI k)), (2, .inl (bI b)), (1, .inr (.inr (some z))), (0, .inr (.inr (some 169)))], [.inr (.inr (some mq2)), .inl (nI j)], H)) (by first | (rw [mr2_2]; done) | (rw [mr2_2]; rfl)) ?_
    refine mw_go mu_g483 (k := 1) (f1 := (54, [(5, .inl (nI j)), (4, .inl (bI f)), (3, .inl (nI k)), (2, .inl (bI b)), (1, .inr (.inr (some z))), (0, .inr (.inr (some 169)))], [.inl (mu_i H mq2 2), .inl (nI j)], H)) (C := [mu_is H (some mq2) 18]) rfl (show mu_is H (some mq2) 18 from is3) ?_
    refine mw_fr (f' := (54, [(5, .inl (nI j)), (4, .inl (bI f)), (3, .inl (nI k)), (2, .inl (bI b)), (1, .inr (.inr (some z))), (0, .inr (.inr (some 169)))], [.inl (nI (mth ms k).2.2.length), .inl (nI j)], H)) (by first | (rw [n2_3]; done) | (rw [n2_3]; rfl)) ?_
    refine mw_if (P := (nI j) < (nI (mth ms k).2.2.length)) (a := 57) (b := 166) (fun _ => rfl) trivial (fun h1 => absurd h1 (by rw [show j = (mth ms k).2.2.length by omega]; exact Int32.lt_irrefl)) (fun h1 => ?_)
    refine mw_sub (L' := [(4, .inl (bI f)), (3, .inl (nI k)), (2, .inl (bI b)), (1, .inr (.inr (some z))), (0, .inr (.inr (some 169)))]) (by intro x hx; simp only [List.mem_cons, List.not_mem_nil, or_false] at hx ⊢; rcases hx with rfl | rfl | rfl | rfl | rfl <;> simp [nI_add, bI, show (1 : Int32) = nI 1 from rfl, show nI 0 = (0 : Int32) from rfl]) ?_
    exact hfin f hfe
  | m_ + 1, j, f, hm_, hfe => by
    have hFc : ∀ p, (mu_z H0 ≤ p ∧ p < 1000000) → ¬ F p ∧ p < 1000000 := fun p z => ⟨fun y => by have := hF p y; omega, z.2⟩
    have ht : rtx H F lv r ms := ht0.kp hk hFc (fun z => by have := z.1; omega) (fun z => by have := ht0.2.1.2.1; have : r < mu_z H0 := this; omega)
    obtain ⟨tx14, tx_is, tx_n, tx15, tx_m, tx9⟩ := ht
    obtain ⟨mk, mr1, md1⟩ := tx_m k hkn
    obtain ⟨d1_1, d2_1, d3_1, d4_1⟩ := ar_at (i := k) tx_is (by decide) (Nat.lt_of_lt_of_le hkn tx_n.1) tx_n.2
    have mx1 : mu_r H r (nI k).toNatClampNeg = some mk := by rw [d4_1]; exact mr1
    obtain ⟨mi2, ⟨mw2, mr0_2, ms2⟩, ⟨mp2, mr1_2, mpn2⟩, mq2, mr2_2, mqn2⟩ := mdf.rd (y := (mth ms k)) md1
    obtain ⟨kd3, ⟨is3, nF3, lt3⟩, ⟨st3, sr3, sf3⟩, ⟨n2_3, n3_3, n7_3⟩, nm3, ar3, aq3, aF3, ai3, ⟨al3, am3, ax3⟩, ch3, dp3⟩ := nd.rd (c := (tmk 67 0 [] (mth ms k).2.2)) mqn2
    have hl26 : (mth ms k).2.2.length ≤ 2 ^ 21 := Nat.le_trans al3 ax3
    have hj : j < (mth ms k).2.2.length := by omega
    have hpw := (hw k hkn).2 j hj
    have hp0 : 0 < tsn (nth (mth ms k).2.2 j) := by rw [hpw.1.2]; exact Nat.one_pos
    refine mw_go mu_g483 (k := 3) (f1 := (46, [(5, .inl (nI j)), (4, .inl (bI f)), (3, .inl (nI k)), (2, .inl (bI b)), (1, .inr (.inr (some z))), (0, .inr (.inr (some 169)))], [.inr (.inr (mu_r H 169 14)), .inl (nI j)], H)) (C := [mu_is H (some 169) 1]) rfl (show mu_is H (some 169) 1 from tx9) ?_
    refine mw_fr (f' := (46, [(5, .inl (nI j)), (4, .inl (bI f)), (3, .inl (nI k)), (2, .inl (bI b)), (1, .inr (.inr (some z))), (0, .inr (.inr (some 169)))], [.inr (.inr (some r)), .inl (nI j)], H)) (by first | (rw [tx14]; done) | (rw [tx14]; rfl)) ?_
    refine mw_go mu_g483 (k := 2) (f1 := (48, [(5, .inl (nI j)), (4, .inl (bI f)), (3, .inl (nI k)), (2, .inl (bI b)), (1, .inr (.inr (some z))), (0, .inr (.inr (some 169)))], [.inr (.inr (mu_r H r (nI k).toNatClampNeg)), .inl (nI j)], H)) (C := [mu_is H (some r) (mu_k H r), 103 ≤ mu_k H r ∧ mu_k H r ≤ 110 ∧ mu_k H r ≠ 108, vp_in (nI k) (mu_n H r)]) rfl (show (mu_is H (some r) (mu_k H r)) ∧ (103 ≤ mu_k H r ∧ mu_k H r ≤ 110 ∧ mu_k H r ≠ 108) ∧ (vp_in (nI k) (mu_n H r)) from ⟨d1_1, d2_1, d3_1⟩) ?_
    refine mw_fr (f' := (48, [(5, .inl (nI j)), (4, .inl (bI f)), (3, .inl (nI k)), (2, .inl (bI b)), (1, .inr (.inr (some z))), (0, .inr (.inr (some 169)))], [.inr (.inr (some mk)), .inl (nI j)], H)) (by first | (rw [mx1]; done) | (rw [mx1]; rfl)) ?_
    refine mw_go mu_g483 (k := 1) (f1 := (51, [(5, .inl (nI j)), (4, .inl (bI f)), (3, .inl (nI k)), (2, .inl (bI b)), (1, .inr (.inr (some z))), (0, .inr (.inr (some 169)))], [.inr (.inr (mu_r H mk 2)), .inl (nI j)], H)) (C := [mu_is H (some mk) 17]) rfl (show mu_is H (some mk) 17 from mi2) ?_
    refine mw_fr (f' := (51, [(5, .inl (nI j)), (4, .inl (bI f)), (3, .inl (nI k)), (2, .inl (bI b)), (1, .inr (.inr (some z))), (0, .inr (.inr (some 169)))], [.inr (.inr (some mq2)), .inl (nI j)], H)) (by first | (rw [mr2_2]; done) | (rw [mr2_2]; rfl)) ?_
    refine mw_go mu_g483 (k := 1) (f1 := (54, [(5, .inl (nI j)), (4, .inl (bI f)), (3, .inl (nI k)), (2, .inl (bI b)), (1, .inr (.inr (some z))), (0, .inr (.inr (some 169)))], [.inl (mu_i H mq2 2), .inl (nI j)], H)) (C := [mu_is H (some mq2) 18]) rfl (show mu_is H (some mq2) 18 from is3) ?_
    refine mw_fr (f' := (54, [(5, .inl (nI j)), (4, .inl (bI f)), (3, .inl (nI k)), (2, .inl (bI b)), (1, .inr (.inr (some z))), (0, .inr (.inr (some 169)))], [.inl (nI (mth ms k).2.2.length), .inl (nI j)], H)) (by first | (rw [n2_3]; done) | (rw [n2_3]; rfl)) ?_
    refine mw_if (P := (nI j) < (nI (mth ms k).2.2.length)) (a := 57) (b := 166) (fun _ => rfl) trivial (fun h1 => ?_) (fun h1 => absurd (nI_lt hj (by omega)) h1)
    obtain ⟨p, yr4, yn4⟩ := ch3 j hj
    have yn4 : nd H F (lv - 1) p (nth (mth ms k).2.2 j) := yn4
    obtain ⟨b1_4, b2_4, b3_4, b4_4⟩ := ar_at ai3 (by decide) (Nat.lt_of_lt_of_le hj al3) (Nat.lt_of_le_of_lt ax3 (by decide))
    have y2_4 : mu_r H ar3 (nI j).toNatClampNeg = some p := by rw [b4_4]; exact yr4
    obtain ⟨kd5, ⟨is5, nF5, lt5⟩, ⟨st5, sr5, sf5⟩, ⟨n2_5, n3_5, n7_5⟩, nm5, ar5, aq5, aF5, ai5, ⟨al5, am5, ax5⟩, ch5, dp5⟩ := nd.rd (c := (nth (mth ms k).2.2 j)) yn4
    refine mw_go mu_g483 (k := 2) (f1 := (61, [(5, .inl (nI j)), (4, .inl (bI f)), (3, .inl (nI k)), (2, .inl (bI b)), (1, .inr (.inr (some z))), (0, .inr (.inr (some 169)))], [.inr (.inr (mu_r H 169 14))], H)) (C := [mu_is H (some 169) 1]) rfl (show mu_is H (some 169) 1 from tx9) ?_
    refine mw_fr (f' := (61, [(5, .inl (nI j)), (4, .inl (bI f)), (3, .inl (nI k)), (2, .inl (bI b)), (1, .inr (.inr (some z))), (0, .inr (.inr (some 169)))], [.inr (.inr (some r))], H)) (by first | (rw [tx14]; done) | (rw [tx14]; rfl)) ?_
    refine mw_go mu_g483 (k := 2) (f1 := (63, [(5, .inl (nI j)), (4, .inl (bI f)), (3, .inl (nI k)), (2, .inl (bI b)), (1, .inr (.inr (some z))), (0, .inr (.inr (some 169)))], [.inr (.inr (mu_r H r (nI k).toNatClampNeg))], H)) (C := [mu_is H (some r) (mu_k H r), 103 ≤ mu_k H r ∧ mu_k H r ≤ 110 ∧ mu_k H r ≠ 108, vp_in (nI k) (mu_n H r)]) rfl (show (mu_is H (some r) (mu_k H r)) ∧ (103 ≤ mu_k H r ∧ mu_k H r ≤ 110 ∧ mu_k H r ≠ 108) ∧ (vp_in (nI k) (mu_n H r)) from ⟨d1_1, d2_1, d3_1⟩) ?_
    refine mw_fr (f' := (63, [(5, .inl (nI j)), (4, .inl (bI f)), (3, .inl (nI k)), (2, .inl (bI b)), (1, .inr (.inr (some z))), (0, .inr (.inr (some 169)))], [.inr (.inr (some mk))], H)) (by first | (rw [mx1]; done) | (rw [mx1]; rfl)) ?_
    refine mw_go mu_g483 (k := 1) (f1 := (66, [(5, .inl (nI j)), (4, .inl (bI f)), (3, .inl (nI k)), (2, .inl (bI b)), (1, .inr (.inr (some z))), (0, .inr (.inr (some 169)))], [.inr (.inr (mu_r H mk 2))], H)) (C := [mu_is H (some mk) 17]) rfl (show mu_is H (some mk) 17 from mi2) ?_
    refine mw_fr (f' := (66, [(5, .inl (nI j)), (4, .inl (bI f)), (3, .inl (nI k)), (2, .inl (bI b)), (1, .inr (.inr (some z))), (0, .inr (.inr (some 169)))], [.inr (.inr (some mq2))], H)) (by first | (rw [mr2_2]; done) | (rw [mr2_2]; rfl)) ?_
    refine mw_go mu_g483 (k := 1) (f1 := (69, [(5, .inl (nI j)), (4, .inl (bI f)), (3, .inl (nI k)), (2, .inl (bI b)), (1, .inr (.inr (some z))), (0, .inr (.inr (some 169)))], [.inr (.inr (mu_r H mq2 1))], H)) (C := [mu_is H (some mq2) 18]) rfl (show mu_is H (some mq2) 18 from is3) ?_
    refine mw_fr (f' := (69, [(5, .inl (nI j)), (4, .inl (bI f)), (3, .inl (nI k)), (2, .inl (bI b)), (1, .inr (.inr (some z))), (0, .inr (.inr (some 169)))], [.inr (.inr (some ar3))], H)) (by first | (rw [aq3]; done) | (rw [aq3]; rfl)) ?_
    refine mw_go mu_g483 (k := 2) (f1 := (72, [(5, .inl (nI j)), (4, .inl (bI f)), (3, .inl (nI k)), (2, .inl (bI b)), (1, .inr (.inr (some z))), (0, .inr (.inr (some 169)))], [.inr (.inr (mu_r H ar3 (nI j).toNatClampNeg))], H)) (C := [mu_is H (some ar3) (mu_k H ar3), 103 ≤ mu_k H ar3 ∧ mu_k H ar3 ≤ 110 ∧ mu_k H ar3 ≠ 108, vp_in (nI j) (mu_n H ar3)]) rfl (show (mu_is H (some ar3) (mu_k H ar3)) ∧ (103 ≤ mu_k H ar3 ∧ mu_k H ar3 ≤ 110 ∧ mu_k H ar3 ≠ 108) ∧ (vp_in (nI j) (mu_n H ar3)) from ⟨b1_4, b2_4, b3_4⟩) ?_
    refine mw_fr (f' := (72, [(5, .inl (nI j)), (4, .inl (bI f)), (3, .inl (nI k)), (2, .inl (bI b)), (1, .inr (.inr (some z))), (0, .inr (.inr (some 169)))], [.inr (.inr (some p))], H)) (by first | (rw [y2_4]; done) | (rw [y2_4]; rfl)) ?_
    refine mw_go mu_g483 (k := 3) (f1 := (79, [(6, .inr (.inr (some p))), (5, .inl (nI j)), (4, .inl (bI f)), (3, .inl (nI k)), (2, .inl (bI b)), (1, .inr (.inr (some z))), (0, .inr (.inr (some 169)))], [.inr (.inr (some 1000073)), .inr (.inr (some p))], H)) (C := []) rfl trivial ?_
    refine mw_cIe (fun _ => rfl) (show mu_is H (some p) 18 from is5) (nd.isL (e := d + 1) (j := 73) yn4 (by decide)) ?_
    refine mw_if (P := (if tkd (nth (mth ms k).2.2 j) = 73 then 1 else 0) = 0) (a := 160) (b := 85) (fun _ => rfl) trivial (fun hi6 => ?_) (fun hi6 => ?_)
    · -- 160
      have ek6 : ¬ tkd (nth (mth ms k).2.2 j) = 73 := fun e => by rw [if_pos e] at hi6; exact absurd hi6 (by decide)
      refine mw_go mu_g483 (k := 2) (f1 := (40, [(5, .inl ((nI j) + 1)), (6, .inr (.inr (some p))), (4, .inl (bI f)), (3, .inl (nI k)), (2, .inl (bI b)), (1, .inr (.inr (some z))), (0, .inr (.inr (some 169)))], [], H)) (C := []) rfl trivial ?_
      refine mw_sub (L' := [(5, .inl (nI (j + 1))), (4, .inl (bI f)), (3, .inl (nI k)), (2, .inl (bI b)), (1, .inr (.inr (some z))), (0, .inr (.inr (some 169)))]) (by intro x hx; simp only [List.mem_cons, List.not_mem_nil, or_false] at hx ⊢; rcases hx with rfl | rfl | rfl | rfl | rfl | rfl <;> simp [nI_add, bI, show (1 : Int32) = nI 1 from rfl, show nI 0 = (0 : Int32) from rfl]) ?_
      exact rp_cy5 ht0 hw hF hz6 hg hk hkn hfin m_ (j + 1) _ (by omega) (by rw [jkb, if_neg (fun z => ek6 z.1)] at hfe; exact hfe)
    · -- 85
      have ek6 : tkd (nth (mth ms k).2.2 j) = 73 := Decidable.byContradiction (fun e => hi6 (if_neg e))
      obtain ⟨ty, yr7, yn7⟩ := ch5 0 hp0
      have yn7 : nd H F ((lv - 1) - 1) ty (tkk (nth (mth ms k).2.2 j) 0) := yn7
      obtain ⟨b1_7, b2_7, b3_7, b4_7⟩ := ar_at ai5 (by decide) (Nat.lt_of_lt_of_le hp0 al5) (Nat.lt_of_le_of_lt ax5 (by decide))
      have y2_7 : mu_r H ar5 (0 : Int32).toNatClampNeg = some ty := yr7
      obtain ⟨kd8, ⟨is8, nF8, lt8⟩, ⟨st8, sr8, sf8⟩, ⟨n2_8, n3_8, n7_8⟩, nm8, ar8, aq8, aF8, ai8, ⟨al8, am8, ax8⟩, ch8, dp8⟩ := nd.rd (c := (tkk (nth (mth ms k).2.2 j) 0)) yn7
      refine mw_go mu_g483 (k := 2) (f1 := (90, [(6, .inr (.inr (some p))), (5, .inl (nI j)), (4, .inl (bI f)), (3, .inl (nI k)), (2, .inl (bI b)), (1, .inr (.inr (some z))), (0, .inr (.inr (some 169)))], [.inr (.inr (mu_r H p 1))], H)) (C := [mu_is H (some p) 18]) rfl (show mu_is H (some p) 18 from is5) ?_
      refine mw_fr (f' := (90, [(6, .inr (.inr (some p))), (5, .inl (nI j)), (4, .inl (bI f)), (3, .inl (nI k)), (2, .inl (bI b)), (1, .inr (.inr (some z))), (0, .inr (.inr (some 169)))], [.inr (.inr (some ar5))], H)) (by first | (rw [aq5]; done) | (rw [aq5]; rfl)) ?_
      refine mw_go mu_g483 (k := 2) (f1 := (92, [(6, .inr (.inr (some p))), (5, .inl (nI j)), (4, .inl (bI f)), (3, .inl (nI k)), (2, .inl (bI b)), (1, .inr (.inr (some z))), (0, .inr (.inr (some 169)))], [.inr (.inr (mu_r H ar5 (0 : Int32).toNatClampNeg))], H)) (C := [mu_is H (some ar5) (mu_k H ar5), 103 ≤ mu_k H ar5 ∧ mu_k H ar5 ≤ 110 ∧ mu_k H ar5 ≠ 108, vp_in (0 : Int32) (mu_n H ar5)]) rfl (show (mu_is H (some ar5) (mu_k H ar5)) ∧ (103 ≤ mu_k H ar5 ∧ mu_k H ar5 ≤ 110 ∧ mu_k H ar5 ≠ 108) ∧ (vp_in (0 : Int32) (mu_n H ar5)) from ⟨b1_7, b2_7, b3_7⟩) ?_
      refine mw_fr (f' := (92, [(6, .inr (.inr (some p))), (5, .inl (nI j)), (4, .inl (bI f)), (3, .inl (nI k)), (2, .inl (bI b)), (1, .inr (.inr (some z))), (0, .inr (.inr (some 169)))], [.inr (.inr (some ty))], H)) (by first | (rw [y2_7]; done) | (rw [y2_7]; rfl)) ?_
      refine mw_go mu_g483 (k := 1) (f1 := (95, [(6, .inr (.inr (some p))), (5, .inl (nI j)), (4, .inl (bI f)), (3, .inl (nI k)), (2, .inl (bI b)), (1, .inr (.inr (some z))), (0, .inr (.inr (some 169)))], [.inr (.inr (some 1000072)), .inr (.inr (some ty))], H)) (C := []) rfl trivial ?_
      refine mw_cIe (fun _ => rfl) (show mu_is H (some ty) 18 from is8) (nd.isL (e := d + 1) (j := 72) yn7 (by decide)) ?_
      refine mw_if (P := (if tkd (tkk (nth (mth ms k).2.2 j) 0) = 72 then 1 else 0) = 0) (a := 101) (b := 104) (fun _ => rfl) trivial (fun hi9 => ?_) (fun hi9 => ?_)
      · -- 101
        have ek9 : ¬ tkd (tkk (nth (mth ms k).2.2 j) 0) = 72 := fun e => by rw [if_pos e] at hi9; exact absurd hi9 (by decide)
        refine mw_go mu_g483 (k := 3) (f1 := (40, [(5, .inl ((nI j) + 1)), (6, .inr (.inr (some p))), (4, .inl (bI f)), (3, .inl (nI k)), (2, .inl (bI b)), (1, .inr (.inr (some z))), (0, .inr (.inr (some 169)))], [], H)) (C := []) rfl trivial ?_
        refine mw_sub (L' := [(5, .inl (nI (j + 1))), (4, .inl (bI f)), (3, .inl (nI k)), (2, .inl (bI b)), (1, .inr (.inr (some z))), (0, .inr (.inr (some 169)))]) (by intro x hx; simp only [List.mem_cons, List.not_mem_nil, or_false] at hx ⊢; rcases hx with rfl | rfl | rfl | rfl | rfl | rfl <;> simp [nI_add, bI, show (1 : Int32) = nI 1 from rfl, show nI 0 = (0 : Int32) from rfl]) ?_
        exact rp_cy5 ht0 hw hF hz6 hg hk hkn hfin m_ (j + 1) _ (by omega) (by rw [jkb, if_neg (fun z => ek9 z.2)] at hfe; exact hfe)
      · -- 104
        have ek9 : tkd (tkk (nth (mth ms k).2.2 j) 0) = 72 := Decidable.byContradiction (fun e => hi9 (if_neg e))
        have hnn : (tns (tkk (nth (mth ms k).2.2 j) 0)).length = 1 := by
          rcases hpw.2 with z | z | z
          · exact z.2.n ek9
          · rw [ek6] at z; exact absurd z.1 (by decide)
          · rw [ek6] at z; exact absurd z.1 (by decide)
        refine mw_go mu_g483 (k := 2) (f1 := (107, [(7, .inl (0 : Int32)), (6, .inr (.inr (some p))), (5, .inl (nI j)), (4, .inl (bI f)), (3, .inl (nI k)), (2, .inl (bI b)), (1, .inr (.inr (some z))), (0, .inr (.inr (some 169)))], [], H)) (C := []) rfl trivial ?_
        refine mw_sub (L' := [(7, .inl (nI 0)), (6, .inr (.inr (some p))), (5, .inl (nI j)), (4, .inl (bI f)), (3, .inl (nI k)), (2, .inl (bI b)), (1, .inr (.inr (some z))), (0, .inr (.inr (some 169)))]) (by intro x hx; simp only [List.mem_cons, List.not_mem_nil, or_false] at hx ⊢; rcases hx with rfl | rfl | rfl | rfl | rfl | rfl | rfl | rfl <;> simp [nI_add, bI, show (1 : Int32) = nI 1 from rfl, show nI 0 = (0 : Int32) from rfl]) ?_
        refine rp_cy7 ht0 hw hF hz6 hg hk yn4 hpw hnn (f0 := f) (fun f2 e2 => ?_) ms.length 0 f (Nat.zero_add _) rfl
        refine mw_go mu_g483 (k := 2) (f1 := (40, [(5, .inl ((nI j) + 1)), (4, .inl (bI f2)), (3, .inl (nI k)), (2, .inl (bI b)), (1, .inr (.inr (some z))), (0, .inr (.inr (some 169)))], [], H)) (C := []) rfl trivial ?_
        refine mw_sub (L' := [(5, .inl (nI (j + 1))), (4, .inl (bI f2)), (3, .inl (nI k)), (2, .inl (bI b)), (1, .inr (.inr (some z))), (0, .inr (.inr (some 169)))]) (by intro x hx; simp only [List.mem_cons, List.not_mem_nil, or_false] at hx ⊢; rcases hx with rfl | rfl | rfl | rfl | rfl | rfl <;> simp [nI_add, bI, show (1 : Int32) = nI 1 from rfl, show nI 0 = (0 : Int32) from rfl]) ?_
        exact rp_cy5 ht0 hw hF hz6 hg hk hkn hfin m_ (j + 1) _ (by omega) (by rw [jkb, if_pos ⟨ek6, ek9⟩, ← e2] at hfe; exact hfe)
theorem rp_cy3 {d lv r z : Nat} {H0 : mu_H} {F : Nat → Prop} {ms : List Mdl} {Φ : mu_R → Prop} (ht0 : rtx H0 F lv r ms) (hw : alm ms) (hF : ∀ p, F p → p < mu_z H0) (hz6 : mu_z H0 < 1000000 ∧ 200 < mu_z H0) (hzz : mu_z H0 ≤ z ∧ z < 1000000) {R : (Nat → Bool) × Bool} (hfin : ∀ H x, gon H z ms.length x.1 → kep (fun p => mu_z H0 ≤ p ∧ p < 1000000) 1 ms.length H0 H → x = R → mu_W (mu_D (d + 4)) mu_m483 (9, [(2, .inl (bI x.2)), (1, .inr (.inr (some z))), (0, .inr (.inr (some 169)))], [], H) Φ) : ∀ m_ k H g b, k + m_ = ms.length → gon H z ms.length g → kep (fun p => mu_z H0 ≤ p ∧ p < 1000000) 1 ms.length H0 H → cyp ms m_ k g b = R → mu_W (mu_D (d + 4)) mu_m483 (17, [(3, .inl (nI k)), (2, .inl (bI b)), (1, .inr (.inr (some z))), (0, .inr (.inr (some 169)))], [], H) Φ
  | 0, k, H, g, b, hm_, hg, hk, hfe => by
    have hFc : ∀ p, (mu_z H0 ≤ p ∧ p < 1000000) → ¬ F p ∧ p < 1000000 := fun p z => ⟨fun y => by have := hF p y; omega, z.2⟩
    have ht : rtx H F lv r ms := ht0.kp hk hFc (fun z => by have := z.1; omega) (fun z => by have := ht0.2.1.2.1; have : r < mu_z H0 := this; omega)
    obtain ⟨tx14, tx_is, tx_n, tx15, tx_m, tx9⟩ := ht
    refine mw_go mu_g483 (k := 3) (f1 := (22, [(3, .inl (nI k)), (2, .inl (bI b)), (1, .inr (.inr (some z))), (0, .inr (.inr (some 169)))], [.inl (mu_i H 169 15), .inl (nI k)], H)) (C := [mu_is H (some 169) 1]) rfl (show mu_is H (some 169) 1 from tx9) ?_
    refine mw_fr (f' := (22, [(3, .inl (nI k)), (2, .inl (bI b)), (1, .inr (.inr (some z))), (0, .inr (.inr (some 169)))], [.inl (nI ms.length), .inl (nI k)], H)) (by first | (rw [tx15]; done) | (rw [tx15]; rfl)) ?_
    refine mw_if (P := (nI k) < (nI ms.length)) (a := 25) (b := 183) (fun _ => rfl) trivial (fun h1 => absurd h1 (by rw [show k = ms.length by omega]; exact Int32.lt_irrefl)) (fun h1 => ?_)
    refine mw_go mu_g483 (k := 1) (f1 := (9, [(3, .inl (nI k)), (2, .inl (bI b)), (1, .inr (.inr (some z))), (0, .inr (.inr (some 169)))], [], H)) (C := []) rfl trivial ?_
    refine mw_sub (L' := [(2, .inl (bI b)), (1, .inr (.inr (some z))), (0, .inr (.inr (some 169)))]) (by intro x hx; simp only [List.mem_cons, List.not_mem_nil, or_false] at hx ⊢; rcases hx with rfl | rfl | rfl <;> simp [nI_add, bI, show (1 : Int32) = nI 1 from rfl, show nI 0 = (0 : Int32) from rfl]) ?_
    exact hfin H (g, b) hg hk hfe
  | m_ + 1, k, H, g, b, hm_, hg, hk, hfe => by
    have hFc : ∀ p, (mu_z H0 ≤ p ∧ p < 1000000) → ¬ F p ∧ p < 1000000 := fun p z => ⟨fun y => by have := hF p y; omega, z.2⟩
    have ht : rtx H F lv r ms := ht0.kp hk hFc (fun z => by have := z.1; omega) (fun z => by have := ht0.2.1.2.1; have : r < mu_z H0 := this; omega)
    obtain ⟨tx14, tx_is, tx_n, tx15, tx_m, tx9⟩ := ht
    have hkn : k < ms.length := by omega
    refine mw_go mu_g483 (k := 3) (f1 := (22, [(3, .inl (nI k)), (2, .inl (bI b)), (1, .inr (.inr (some z))), (0, .inr (.inr (some 169)))], [.inl (mu_i H 169 15), .inl (nI k)], H)) (C := [mu_is H (some 169) 1]) rfl (show mu_is H (some 169) 1 from tx9) ?_
    refine mw_fr (f' := (22, [(3, .inl (nI k)), (2, .inl (bI b)), (1, .inr (.inr (some z))), (0, .inr (.inr (some 169)))], [.inl (nI ms.length), .inl (nI k)], H)) (by first | (rw [tx15]; done) | (rw [tx15]; rfl)) ?_
    refine mw_if (P := (nI k) < (nI ms.length)) (a := 25) (b := 183) (fun _ => rfl) trivial (fun h1 => ?_) (fun h1 => absurd (nI_lt hkn (by omega)) h1)
    refine mw_go mu_g483 (k := 2) (f1 := (27, [(3, .inl (nI k)), (2, .inl (bI b)), (1, .inr (.inr (some z))), (0, .inr (.inr (some 169)))], [.inl (nI k), .inr (.inr (some z))], H)) (C := []) rfl trivial ?_
    refine mw_ald8 rfl hg.1 (by show vp_in (nI k) (mu_n H z); rw [hg.2.1]; exact vp_in_nI hkn (by omega)) ?_
    rw [show mu_p (some z) = z from rfl, nI_clamp (show k < 2 ^ 31 by have := hkn; omega), hg.2.2 k hkn]
    show mu_W _ mu_m483 (28, [(3, .inl (nI k)), (2, .inl (bI b)), (1, .inr (.inr (some z))), (0, .inr (.inr (some 169)))], [.inl (bI (g k))], H) _
    refine mw_if (P := (bI (g k)) = 0) (a := 34) (b := 31) (fun _ => rfl) trivial (fun h3 => ?_) (fun h3 => ?_)
    · -- 34
      have eg := bI_0 h3
      refine mw_go mu_g483 (k := 4) (f1 := (40, [(5, .inl (0 : Int32)), (4, .inl (1 : Int32)), (3, .inl (nI k)), (2, .inl (bI b)), (1, .inr (.inr (some z))), (0, .inr (.inr (some 169)))], [], H)) (C := []) rfl trivial ?_
      refine mw_sub (L' := [(5, .inl (nI 0)), (4, .inl (bI true)), (3, .inl (nI k)), (2, .inl (bI b)), (1, .inr (.inr (some z))), (0, .inr (.inr (some 169)))]) (by intro x hx; simp only [List.mem_cons, List.not_mem_nil, or_false] at hx ⊢; rcases hx with rfl | rfl | rfl | rfl | rfl | rfl <;> simp [nI_add, bI, show (1 : Int32) = nI 1 from rfl, show nI 0 = (0 : Int32) from rfl]) ?_
      refine rp_cy5 ht0 hw hF hz6 hg hk hkn (fun f2 e2 => ?_) (mth ms k).2.2.length 0 true (Nat.zero_add _) rfl
      refine mw_go mu_g483 (k := 1) (f1 := (168, [(4, .inl (bI f2)), (3, .inl (nI k)), (2, .inl (bI b)), (1, .inr (.inr (some z))), (0, .inr (.inr (some 169)))], [.inl (bI f2)], H)) (C := []) rfl trivial ?_
      refine mw_if (P := (bI f2) = 0) (a := 177) (b := 171) (fun _ => rfl) trivial (fun h4 => ?_) (fun h4 => ?_)
      · -- 177
        have ef := bI_0 h4
        refine mw_go mu_g483 (k := 2) (f1 := (17, [(3, .inl ((nI k) + 1)), (4, .inl (bI f2)), (2, .inl (bI b)), (1, .inr (.inr (some z))), (0, .inr (.inr (some 169)))], [], H)) (C := []) rfl trivial ?_
        refine mw_sub (L' := [(3, .inl (nI (k + 1))), (2, .inl (bI b)), (1, .inr (.inr (some z))), (0, .inr (.inr (some 169)))]) (by intro x hx; simp only [List.mem_cons, List.not_mem_nil, or_false] at hx ⊢; rcases hx with rfl | rfl | rfl | rfl <;> simp [nI_add, bI, show (1 : Int32) = nI 1 from rfl, show nI 0 = (0 : Int32) from rfl]) ?_
        exact rp_cy3 ht0 hw hF hz6 hzz hfin m_ (k + 1) H g b (by omega) hg hk (by rw [cyp, if_neg (fun z => by rw [← e2, ef] at z; exact absurd z.2 (by decide))] at hfe; exact hfe)
      · -- 171
        have ef := bI_1 h4
        refine mw_go mu_g483 (k := 3) (f1 := (174, [(4, .inl (bI f2)), (3, .inl (nI k)), (2, .inl (bI b)), (1, .inr (.inr (some z))), (0, .inr (.inr (some 169)))], [.inl (1 : Int32), .inl (nI k), .inr (.inr (some z))], H)) (C := []) rfl trivial ?_
        refine mw_ast8 rfl hg.1 (by show vp_in (nI k) (mu_n H z); rw [hg.2.1]; exact vp_in_nI hkn (by omega)) (Or.inr rfl) ?_
        rw [show mu_p (some z) = z from rfl, nI_clamp (show k < 2 ^ 31 by omega)]
        have hk2 : kep (fun p => mu_z H0 ≤ p ∧ p < 1000000) 1 ms.length H0 (mu_si H z k 1) := hk.si (Or.inl hzz)
        show mu_W _ mu_m483 (175, [(4, .inl (bI f2)), (3, .inl (nI k)), (2, .inl (bI b)), (1, .inr (.inr (some z))), (0, .inr (.inr (some 169)))], [], (mu_si H z k 1)) _
        refine mw_go mu_g483 (k := 4) (f1 := (17, [(3, .inl ((nI k) + 1)), (2, .inl (1 : Int32)), (4, .inl (bI f2)), (1, .inr (.inr (some z))), (0, .inr (.inr (some 169)))], [], (mu_si H z k 1))) (C := []) rfl trivial ?_
        refine mw_sub (L' := [(3, .inl (nI (k + 1))), (2, .inl (bI true)), (1, .inr (.inr (some z))), (0, .inr (.inr (some 169)))]) (by intro x hx; simp only [List.mem_cons, List.not_mem_nil, or_false] at hx ⊢; rcases hx with rfl | rfl | rfl | rfl <;> simp [nI_add, bI, show (1 : Int32) = nI 1 from rfl, show nI 0 = (0 : Int32) from rfl]) ?_
        exact rp_cy3 ht0 hw hF hz6 hzz hfin m_ (k + 1) _ (updb g k) true (by omega) hg.set hk2 (by rw [cyp, if_pos ⟨eg, by rw [← e2]; exact ef⟩] at hfe; exact hfe)
    · -- 31
      have eg := bI_1 h3
      refine mw_go mu_g483 (k := 3) (f1 := (17, [(3, .inl ((nI k) + 1)), (2, .inl (bI b)), (1, .inr (.inr (some z))), (0, .inr (.inr (some 169)))], [], H)) (C := []) rfl trivial ?_
      refine mw_sub (L' := [(3, .inl (nI (k + 1))), (2, .inl (bI b)), (1, .inr (.inr (some z))), (0, .inr (.inr (some 169)))]) (by intro x hx; simp only [List.mem_cons, List.not_mem_nil, or_false] at hx ⊢; rcases hx with rfl | rfl | rfl | rfl <;> simp [nI_add, bI, show (1 : Int32) = nI 1 from rfl, show nI 0 = (0 : Int32) from rfl]) ?_
      exact rp_cy3 ht0 hw hF hz6 hzz hfin m_ (k + 1) H g b (by omega) hg hk (by rw [cyp, if_neg (fun z => by rw [eg] at z; exact absurd z.1 (by decide))] at hfe; exact hfe)
theorem rp_cy2 {d lv r z : Nat} {H0 : mu_H} {F : Nat → Prop} {ms : List Mdl} {Φ : mu_R → Prop} (ht0 : rtx H0 F lv r ms) (hw : alm ms) (hF : ∀ p, F p → p < mu_z H0) (hz6 : mu_z H0 < 1000000 ∧ 200 < mu_z H0) (hzz : mu_z H0 ≤ z ∧ z < 1000000) {G : Nat → Bool} (hfin : ∀ H, gon H z ms.length G → kep (fun p => mu_z H0 ≤ p ∧ p < 1000000) 1 ms.length H0 H → mu_W (mu_D (d + 4)) mu_m483 (186, [(1, .inr (.inr (some z))), (0, .inr (.inr (some 169)))], [], H) Φ) : ∀ f g H, gon H z ms.length g → kep (fun p => mu_z H0 ≤ p ∧ p < 1000000) 1 ms.length H0 H → cyl ms f g = some G → mu_W (mu_D (d + 4)) mu_m483 (9, [(2, .inl (bI true)), (1, .inr (.inr (some z))), (0, .inr (.inr (some 169)))], [], H) Φ
  | 0, _, _, _, _, hfe => by cases hfe
  | f + 1, g, H, hg, hk, hfe => by
    have hFc : ∀ p, (mu_z H0 ≤ p ∧ p < 1000000) → ¬ F p ∧ p < 1000000 := fun p z => ⟨fun y => by have := hF p y; omega, z.2⟩
    have ht : rtx H F lv r ms := ht0.kp hk hFc (fun z => by have := z.1; omega) (fun z => by have := ht0.2.1.2.1; have : r < mu_z H0 := this; omega)
    obtain ⟨tx14, tx_is, tx_n, tx15, tx_m, tx9⟩ := ht
    rw [cyl] at hfe
    refine mw_go mu_g483 (k := 1) (f1 := (10, [(2, .inl (bI true)), (1, .inr (.inr (some z))), (0, .inr (.inr (some 169)))], [.inl (bI true)], H)) (C := []) rfl trivial ?_
    refine mw_if (P := (bI true) = 0) (a := 186) (b := 13) (fun _ => rfl) trivial (fun h1 => absurd h1 (by decide)) (fun h1 => ?_)
    refine mw_go mu_g483 (k := 4) (f1 := (17, [(3, .inl (0 : Int32)), (2, .inl (0 : Int32)), (1, .inr (.inr (some z))), (0, .inr (.inr (some 169)))], [], H)) (C := []) rfl trivial ?_
    refine mw_sub (L' := [(3, .inl (nI 0)), (2, .inl (bI false)), (1, .inr (.inr (some z))), (0, .inr (.inr (some 169)))]) (by intro x hx; simp only [List.mem_cons, List.not_mem_nil, or_false] at hx ⊢; rcases hx with rfl | rfl | rfl | rfl <;> simp [nI_add, bI, show (1 : Int32) = nI 1 from rfl, show nI 0 = (0 : Int32) from rfl]) ?_
    refine rp_cy3 ht0 hw hF hz6 hzz (R := cyp ms ms.length 0 g false) (fun H2 x hg2 hk2 ex => ?_) ms.length 0 H g false (Nat.zero_add _) hg hk rfl
    by_cases e : x.2 = true
    · rw [e]
      rw [← ex, if_pos e] at hfe
      exact rp_cy2 ht0 hw hF hz6 hzz hfin f _ H2 hg2 hk2 hfe
    · have e3 : x.2 = false := by cases hx : x.2 with
        | false => rfl
        | true => exact absurd hx e
      rw [← ex, if_neg e] at hfe
      have e4 := Option.some.inj hfe
      rw [e3]
      refine mw_go mu_g483 (k := 1) (f1 := (10, [(2, .inl (bI false)), (1, .inr (.inr (some z))), (0, .inr (.inr (some 169)))], [.inl (bI false)], H2)) (C := []) rfl trivial ?_
      refine mw_if (P := (bI false) = 0) (a := 186) (b := 13) (fun _ => rfl) trivial (fun h1 => ?_) (fun h1 => absurd rfl h1)
      refine mw_sub (L' := [(1, .inr (.inr (some z))), (0, .inr (.inr (some 169)))]) (by simp) ?_
      exact hfin H2 (by rw [← e4]; exact hg2) hk2
theorem rp_cyE {d lv r z : Nat} {H0 : mu_H} {F : Nat → Prop} {ms : List Mdl} (ht0 : rtx H0 F lv r ms) (hw : alm ms) (hF : ∀ p, F p → p < mu_z H0) (hz6 : mu_z H0 < 1000000 ∧ 200 < mu_z H0) {H : mu_H} {G : Nat → Bool} (hg : gon H z ms.length G) (hk : kep (fun p => mu_z H0 ≤ p ∧ p < 1000000) 1 ms.length H0 H) : ∀ m_ k, k + m_ = ms.length → (∀ i, i < k → G i = true) → mu_W (mu_D (d + 4)) mu_m483 (188, [(3, .inl (nI k)), (1, .inr (.inr (some z))), (0, .inr (.inr (some 169)))], [], H) (fun r => (∃ H1, r = (.inr 2, H1) ∧ ¬ (∀ k, k < ms.length → G k = true) ∧ H1 = mu_ex H) ∨ ∃ v H1, r = (.inl v, H1) ∧ (∀ k, k < ms.length → G k = true) ∧ v = none ∧ H1 = H)
  | 0, k, hm_, hacc => by
    have hFc : ∀ p, (mu_z H0 ≤ p ∧ p < 1000000) → ¬ F p ∧ p < 1000000 := fun p z => ⟨fun y => by have := hF p y; omega, z.2⟩
    have ht : rtx H F lv r ms := ht0.kp hk hFc (fun z => by have := z.1; omega) (fun z => by have := ht0.2.1.2.1; have : r < mu_z H0 := this; omega)
    obtain ⟨tx14, tx_is, tx_n, tx15, tx_m, tx9⟩ := ht
    refine mw_go mu_g483 (k := 3) (f1 := (193, [(3, .inl (nI k)), (1, .inr (.inr (some z))), (0, .inr (.inr (some 169)))], [.inl (mu_i H 169 15), .inl (nI k)], H)) (C := [mu_is H (some 169) 1]) rfl (show mu_is H (some 169) 1 from tx9) ?_
    refine mw_fr (f' := (193, [(3, .inl (nI k)), (1, .inr (.inr (some z))), (0, .inr (.inr (some 169)))], [.inl (nI ms.length), .inl (nI k)], H)) (by first | (rw [tx15]; done) | (rw [tx15]; rfl)) ?_
    refine mw_if (P := (nI k) < (nI ms.length)) (a := 196) (b := 209) (fun _ => rfl) trivial (fun h1 => absurd h1 (by rw [show k = ms.length by omega]; exact Int32.lt_irrefl)) (fun h1 => ?_)
    exact mw_of (fun _ => mu_ret rfl trivial (Or.inr ⟨_, _, rfl, fun i hi => hacc i (by omega), rfl, rfl⟩))
  | m_ + 1, k, hm_, hacc => by
    have hFc : ∀ p, (mu_z H0 ≤ p ∧ p < 1000000) → ¬ F p ∧ p < 1000000 := fun p z => ⟨fun y => by have := hF p y; omega, z.2⟩
    have ht : rtx H F lv r ms := ht0.kp hk hFc (fun z => by have := z.1; omega) (fun z => by have := ht0.2.1.2.1; have : r < mu_z H0 := this; omega)
    obtain ⟨tx14, tx_is, tx_n, tx15, tx_m, tx9⟩ := ht
    have hkn : k < ms.length := by omega
    refine mw_go mu_g483 (k := 3) (f1 := (193, [(3, .inl (nI k)), (1, .inr (.inr (some z))), (0, .inr (.inr (some 169)))], [.inl (mu_i H 169 15), .inl (nI k)], H)) (C := [mu_is H (some 169) 1]) rfl (show mu_is H (some 169) 1 from tx9) ?_
    refine mw_fr (f' := (193, [(3, .inl (nI k)), (1, .inr (.inr (some z))), (0, .inr (.inr (some 169)))], [.inl (nI ms.length), .inl (nI k)], H)) (by first | (rw [tx15]; done) | (rw [tx15]; rfl)) ?_
    refine mw_if (P := (nI k) < (nI ms.length)) (a := 196) (b := 209) (fun _ => rfl) trivial (fun h1 => ?_) (fun h1 => absurd (nI_lt hkn (by omega)) h1)
    refine mw_go mu_g483 (k := 3) (f1 := (199, [(3, .inl (nI k)), (1, .inr (.inr (some z))), (0, .inr (.inr (some 169)))], [.inl (nI k), .inr (.inr (some z)), .inr (.inr (some 169))], H)) (C := []) rfl trivial ?_
    refine mw_ald8 rfl hg.1 (by show vp_in (nI k) (mu_n H z); rw [hg.2.1]; exact vp_in_nI hkn (by omega)) ?_
    rw [show mu_p (some z) = z from rfl, nI_clamp (show k < 2 ^ 31 by have := hkn; omega), hg.2.2 k hkn]
    show mu_W _ mu_m483 (200, [(3, .inl (nI k)), (1, .inr (.inr (some z))), (0, .inr (.inr (some 169)))], [.inl (bI (G k)), .inr (.inr (some 169))], H) _
    refine mw_cE (as := [.inl (bI (G k))]) (o := some 169) (S1 := []) rfl rfl rfl rfl (Nat.le_of_ble_eq_true rfl) (by decide) tx9 rfl (by decide) (rp_sound (x := bI (G k))) (fun H9 e9 => by rw [e9.2]; exact Or.inl ⟨_, rfl, (fun y => by rw [y k hkn] at e9; exact absurd e9.1 (by decide)), rfl⟩) (fun v9 H9 e9 => ?_)
    obtain ⟨ek, rfl, e9⟩ := e9
    rw [e9]
    clear e9 H9
    show mu_W _ mu_m483 (203, [(3, .inl (nI k)), (1, .inr (.inr (some z))), (0, .inr (.inr (some 169)))], [], H) _
    refine mw_go mu_g483 (k := 2) (f1 := (188, [(3, .inl ((nI k) + 1)), (1, .inr (.inr (some z))), (0, .inr (.inr (some 169)))], [], H)) (C := []) rfl trivial ?_
    refine mw_sub (L' := [(3, .inl (nI (k + 1))), (1, .inr (.inr (some z))), (0, .inr (.inr (some 169)))]) (by intro x hx; simp only [List.mem_cons, List.not_mem_nil, or_false] at hx ⊢; rcases hx with rfl | rfl | rfl <;> simp [nI_add, bI, show (1 : Int32) = nI 1 from rfl, show nI 0 = (0 : Int32) from rfl]) ?_
    exact rp_cyE ht0 hw hF hz6 hg hk m_ (k + 1) (by omega) (fun i hi => by
      by_cases e : i = k
      · rw [e]; exact bI_1 ek
      · exact hacc i (by omega))
theorem rp_noCycle {d lv r : Nat} {H0 : mu_H} {F : Nat → Prop} {ms : List Mdl} (ht0 : rtx H0 F lv r ms) (hw : alm ms) (hF : ∀ p, F p → p < mu_z H0) (hz6 : mu_z H0 < 1000000 ∧ 200 < mu_z H0) (hml : ms.length ≤ 1000000) : mu_TE 2 (mu_D (d + 5)) 483 [.inr (.inr (some 169))] H0 (fun H1 => ¬ ncz ms ∧ knw (ms.length + 1 + 1) H0 H1) (fun v H1 => ncz ms ∧ v = none ∧ knw (ms.length + 1 + 1) H0 H1) := by
  refine mu_meth (M := mu_m483) rfl rfl ?_
  refine mw_ht (mu_fn_of (show [0].Nodup by decide)) ?_
  have ht := ht0
  obtain ⟨tx14, tx_is, tx_n, tx15, tx_m, tx9⟩ := ht
  refine mw_go mu_g483 (k := 2) (f1 := (4, [(0, .inr (.inr (some 169)))], [.inl (mu_i H0 169 15)], H0)) (C := [mu_is H0 (some 169) 1]) rfl (show mu_is H0 (some 169) 1 from tx9) ?_
  refine mw_fr (f' := (4, [(0, .inr (.inr (some 169)))], [.inl (nI ms.length)], H0)) (by first | (rw [tx15]; done) | (rw [tx15]; rfl)) ?_
  have gcl : (nI ms.length).toNatClampNeg = ms.length := nI_clamp (by omega)
  refine mw_newz rfl (nI_nn (by omega)) (by omega) (by rw [gcl]; omega) ?_
  rw [gcl]
  have hk : kep (fun p => mu_z H0 ≤ p ∧ p < 1000000) (0 + 1) (0 + ms.length) H0 (mu_nw H0 108 ms.length ms.length) := kep.rf.nw (by omega)
  have hk : kep (fun p => mu_z H0 ≤ p ∧ p < 1000000) 1 ms.length H0 (mu_nw H0 108 ms.length ms.length) := hk.wk (fun _ _ z => z) (by omega) (by omega)
  have hg : gon (mu_nw H0 108 ms.length ms.length) (mu_z H0) ms.length (fun _ => false) := ⟨mu_is_new H0 108 _ _, by rw [mu_n_nw, if_pos rfl], fun i hi => by rw [mu_i_nw, if_pos rfl]; rfl⟩
  obtain ⟨G, hG⟩ := cyl_ms ms
  show mu_W _ mu_m483 (6, [(0, .inr (.inr (some 169)))], [.inr (.inr (some (mu_z H0)))], (mu_nw H0 108 ms.length ms.length)) _
  refine mw_go mu_g483 (k := 3) (f1 := (9, [(2, .inl (1 : Int32)), (1, .inr (.inr (some (mu_z H0)))), (0, .inr (.inr (some 169)))], [], (mu_nw H0 108 ms.length ms.length))) (C := []) rfl trivial ?_
  refine mw_sub (L' := [(2, .inl (bI true)), (1, .inr (.inr (some (mu_z H0)))), (0, .inr (.inr (some 169)))]) (by simp [bI]) ?_
  refine rp_cy2 (d := d) (z := mu_z H0) ht0 hw hF hz6 ⟨Nat.le_refl _, hz6.1⟩ (G := G) (fun H2 hg2 hk2 => ?_) _ _ _ hg hk hG
  show mu_W _ mu_m483 (186, [(1, .inr (.inr (some (mu_z H0)))), (0, .inr (.inr (some 169)))], [], H2) _
  refine mw_go mu_g483 (k := 2) (f1 := (188, [(3, .inl (0 : Int32)), (1, .inr (.inr (some (mu_z H0)))), (0, .inr (.inr (some 169)))], [], H2)) (C := []) rfl trivial ?_
  refine mw_sub (L' := [(3, .inl (nI 0)), (1, .inr (.inr (some (mu_z H0)))), (0, .inr (.inr (some 169)))]) (by simp [nI]) ?_
  have kn2 : knw (ms.length + 1) H0 H2 := hk2.wk (fun p hp y => by omega) (by omega) (by omega)
  refine mw_imp (fun q hq => ?_) (rp_cyE (d := d) ht0 hw hF hz6 hg2 hk2 ms.length 0 (Nat.zero_add _) (fun i hi => absurd hi (Nat.not_lt_zero _)))
  rcases hq with ⟨H4, e1, e2, e3⟩ | ⟨v, H4, e1, e2, e3, e4⟩
  · exact Or.inl ⟨H4, e1, (fun y => by
      obtain ⟨g, y1, y2⟩ := y
      rw [hG] at y1
      cases y1
      exact e2 y2), by rw [e3]; exact kn2.tr knw.ex⟩
  · exact Or.inr ⟨v, H4, e1, ⟨G, hG, e2⟩, e3, by rw [e4]; exact kn2.wk (by omega)⟩
