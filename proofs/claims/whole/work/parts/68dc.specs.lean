/-! The reference: SPECs and FAIRNESS of an INSTANCE -/
/-- PathProverModel.instance(LPathProverModel$Module;LPathProverModel$Instance;LPathProverModel$Node;)LPathProverModel$Instance; -/
abbrev mu_m458 : ev_M := (7, (some (.object "PathProverModel$Instance")), [], ev_b458)
theorem mu_g458 : mu_good mu_m458 := mu_goodk ev_k458
set_option maxRecDepth 8000 in
theorem rp_in3 {T : Nat → Int32} {n0 dep lv r cap mp A B n en d m j ip Q : Nat} {t : Tok} {F : Nat → Prop} {ms : List Mdl} {sy : List (List Int32)} {Hb : mu_H} {Iv : Nat → Ins} {y : Mdl} {Φ : mu_R → Prop} (hm0 : mdf Hb F lv m y) (hw : alp ptw y.2.2) (hF : ∀ p, F p → p < mu_z Hb) (hj : j < n) (hQ : mu_z Hb + A + Q + 200 ≤ 1000000 ∧ Q ≤ 1000000) {PR : Nat → List (Tre × Nat)} {loc0 : Nat → Nat} (hfin : ∀ H loc, bmk T n0 t dep F lv r ms cap sy Hb mp A B loc n Iv PR en H → loc (9 + 4 * j) = ip → (∀ s, 9 ≤ s → loc s = loc0 s) → Φ (.inl (some (.inr (.inr (some ip)))), H)) : ∀ m_ k H loc pr, k + m_ = y.2.2.length → bmk T n0 t dep F lv r ms cap sy Hb mp A B loc n Iv pr en H → loc (9 + 4 * j) = ip → (∀ s, 9 ≤ s → loc s = loc0 s) → plx pr + m_ ≤ Q → spl y.2.2 j m_ k pr = PR → mu_W (mu_D (d + 6)) mu_m458 (409, [(5, .inl (nI k)), (4, .inr (.inr (some ip))), (1, .inr (.inr (some m))), (0, .inr (.inr (some 169)))], [], H) Φ
  | 0, k, H, loc, pr, hm_, h, hip, hag, hq_, hpe => by
    have hpe : pr = PR := hpe
    obtain ⟨mi1, ⟨mw1, mr0_1, ms1⟩, ⟨mp1, mr1_1, mpn1⟩, mq1, mr2_1, mqn1⟩ := mdf.rd (y := y) hm0
    obtain ⟨kd2, ⟨is2, nF2, lt2⟩, ⟨st2, sr2, sf2⟩, ⟨n2_2, n3_2, n7_2⟩, nm2, ar2, aq2, aF2, ai2, ⟨al2, am2, ax2⟩, ch2, dp2⟩ := nd.rd (c := (tmk 67 0 [] y.2.2)) mqn1
    have hl26 : y.2.2.length ≤ 2 ^ 21 := Nat.le_trans al2 ax2
    have hcb := h.cpb
    have m18_3 : mu_r H 169 18 = some mp := h.2.1.1.2.2
    have m0_3 : mu_r H mp 0 = some (loc 0) := h.2.1.2.1.1
    have m1_3 : mu_i H mp 1 = nI n := h.2.1.2.1.2.1
    have m2_3 : mu_i H mp 2 = nI en := h.2.1.2.1.2.2
    have mN0_3 : mu_r H mp 7 = some (loc 1) := (h.2.1.2.2.2.1 0 (by decide)).1.1
    have mI0_3 : mu_r H mp 8 = some (loc 2) := (h.2.1.2.2.2.1 0 (by decide)).1.2.1
    have mC0_3 : mu_i H mp 9 = nI (pr 0).length := (h.2.1.2.2.2.1 0 (by decide)).1.2.2
    have mN1_3 : mu_r H mp 4 = some (loc 3) := (h.2.1.2.2.2.1 1 (by decide)).1.1
    have mI1_3 : mu_r H mp 3 = some (loc 4) := (h.2.1.2.2.2.1 1 (by decide)).1.2.1
    have mC1_3 : mu_i H mp 5 = nI (pr 1).length := (h.2.1.2.2.2.1 1 (by decide)).1.2.2
    have mN2_3 : mu_r H mp 10 = some (loc 5) := (h.2.1.2.2.2.1 2 (by decide)).1.1
    have mI2_3 : mu_r H mp 11 = some (loc 6) := (h.2.1.2.2.2.1 2 (by decide)).1.2.1
    have mC2_3 : mu_i H mp 12 = nI (pr 2).length := (h.2.1.2.2.2.1 2 (by decide)).1.2.2
    have mN3_3 : mu_r H mp 13 = some (loc 7) := (h.2.1.2.2.2.1 3 (by decide)).1.1
    have mI3_3 : mu_r H mp 14 = some (loc 8) := (h.2.1.2.2.2.1 3 (by decide)).1.2.1
    have mC3_3 : mu_i H mp 15 = nI (pr 3).length := (h.2.1.2.2.2.1 3 (by decide)).1.2.2
    have rz3 := h.rz
    refine mw_go mu_g458 (k := 3) (f1 := (415, [(5, .inl (nI k)), (4, .inr (.inr (some ip))), (1, .inr (.inr (some m))), (0, .inr (.inr (some 169)))], [.inr (.inr (mu_r H m 2)), .inl (nI k)], H)) (C := [mu_is H (some m) 17]) rfl (show mu_is H (some m) 17 from ((h.2.2.2.1).is mi1 (fun z => absurd z.1 (Nat.not_le.mpr mi1.2.1)))) ?_
    refine mw_fr (f' := (415, [(5, .inl (nI k)), (4, .inr (.inr (some ip))), (1, .inr (.inr (some m))), (0, .inr (.inr (some 169)))], [.inr (.inr (some mq1)), .inl (nI k)], H)) (by first | (rw [(((h.2.2.2.1).r (p := m) (Or.inl mi1.2.1) (fun z => absurd z.1 (Nat.not_le.mpr mi1.2.1)) _).trans mr2_1)]; done) | (rw [(((h.2.2.2.1).r (p := m) (Or.inl mi1.2.1) (fun z => absurd z.1 (Nat.not_le.mpr mi1.2.1)) _).trans mr2_1)]; rfl)) ?_
    refine mw_go mu_g458 (k := 1) (f1 := (418, [(5, .inl (nI k)), (4, .inr (.inr (some ip))), (1, .inr (.inr (some m))), (0, .inr (.inr (some 169)))], [.inl (mu_i H mq1 2), .inl (nI k)], H)) (C := [mu_is H (some mq1) 18]) rfl (show mu_is H (some mq1) 18 from ((h.2.2.2.1).is is2 (fun z => absurd z.1 (Nat.not_le.mpr is2.2.1)))) ?_
    refine mw_fr (f' := (418, [(5, .inl (nI k)), (4, .inr (.inr (some ip))), (1, .inr (.inr (some m))), (0, .inr (.inr (some 169)))], [.inl (nI y.2.2.length), .inl (nI k)], H)) (by first | (rw [(((h.2.2.2.1).i (p := mq1) (Or.inl is2.2.1) (fun z => absurd z.1 (Nat.not_le.mpr is2.2.1)) _).trans n2_2)]; done) | (rw [(((h.2.2.2.1).i (p := mq1) (Or.inl is2.2.1) (fun z => absurd z.1 (Nat.not_le.mpr is2.2.1)) _).trans n2_2)]; rfl)) ?_
    refine mw_if (P := (nI k) < (nI y.2.2.length)) (a := 421) (b := 650) (fun _ => rfl) trivial (fun h1 => absurd h1 (by rw [show k = y.2.2.length by omega]; exact Int32.lt_irrefl)) (fun h1 => ?_)
    refine mw_go mu_g458 (k := 1) (f1 := (652, [(5, .inl (nI k)), (4, .inr (.inr (some ip))), (1, .inr (.inr (some m))), (0, .inr (.inr (some 169)))], [.inr (.inr (some ip))], H)) (C := []) rfl trivial ?_
    exact mw_of (fun _ => mu_ret rfl trivial (hfin H loc (by rw [← hpe]; exact h) hip hag))
  | m_ + 1, k, H, loc, pr, hm_, h, hip, hag, hq_, hpe => by
    obtain ⟨mi1, ⟨mw1, mr0_1, ms1⟩, ⟨mp1, mr1_1, mpn1⟩, mq1, mr2_1, mqn1⟩ := mdf.rd (y := y) hm0
    obtain ⟨kd2, ⟨is2, nF2, lt2⟩, ⟨st2, sr2, sf2⟩, ⟨n2_2, n3_2, n7_2⟩, nm2, ar2, aq2, aF2, ai2, ⟨al2, am2, ax2⟩, ch2, dp2⟩ := nd.rd (c := (tmk 67 0 [] y.2.2)) mqn1
    have hl26 : y.2.2.length ≤ 2 ^ 21 := Nat.le_trans al2 ax2
    have hcb := h.cpb
    have hk : k < y.2.2.length := by omega
    have hp1 := hw k hk
    have hp2 : 0 < tsn (nth y.2.2 k) := by rw [hp1.1.2]; exact Nat.one_pos
    obtain ⟨p, yr3, yn3⟩ := ch2 k hk
    have yn3 : nd Hb F _ p (nth y.2.2 k) := yn3
    obtain ⟨b1_3, b2_3, b3_3, b4_3⟩ := ar_at ai2 (by decide) (Nat.lt_of_lt_of_le hk al2) (Nat.lt_of_le_of_lt ax2 (by decide))
    have y2_3 : mu_r Hb ar2 (nI k).toNatClampNeg = some p := by rw [b4_3]; exact yr3
    obtain ⟨kd4, ⟨is4, nF4, lt4⟩, ⟨st4, sr4, sf4⟩, ⟨n2_4, n3_4, n7_4⟩, nm4, ar4, aq4, aF4, ai4, ⟨al4, am4, ax4⟩, ch4, dp4⟩ := nd.rd (c := (nth y.2.2 k)) yn3
    obtain ⟨ty, yr5, yn5⟩ := ch4 0 hp2
    have yn5 : nd Hb F _ ty (tkk (nth y.2.2 k) 0) := yn5
    obtain ⟨b1_5, b2_5, b3_5, b4_5⟩ := ar_at ai4 (by decide) (Nat.lt_of_lt_of_le hp2 al4) (Nat.lt_of_le_of_lt ax4 (by decide))
    have y2_5 : mu_r Hb ar4 (0 : Int32).toNatClampNeg = some ty := yr5
    have m18_6 : mu_r H 169 18 = some mp := h.2.1.1.2.2
    have m0_6 : mu_r H mp 0 = some (loc 0) := h.2.1.2.1.1
    have m1_6 : mu_i H mp 1 = nI n := h.2.1.2.1.2.1
    have m2_6 : mu_i H mp 2 = nI en := h.2.1.2.1.2.2
    have mN0_6 : mu_r H mp 7 = some (loc 1) := (h.2.1.2.2.2.1 0 (by decide)).1.1
    have mI0_6 : mu_r H mp 8 = some (loc 2) := (h.2.1.2.2.2.1 0 (by decide)).1.2.1
    have mC0_6 : mu_i H mp 9 = nI (pr 0).length := (h.2.1.2.2.2.1 0 (by decide)).1.2.2
    have mN1_6 : mu_r H mp 4 = some (loc 3) := (h.2.1.2.2.2.1 1 (by decide)).1.1
    have mI1_6 : mu_r H mp 3 = some (loc 4) := (h.2.1.2.2.2.1 1 (by decide)).1.2.1
    have mC1_6 : mu_i H mp 5 = nI (pr 1).length := (h.2.1.2.2.2.1 1 (by decide)).1.2.2
    have mN2_6 : mu_r H mp 10 = some (loc 5) := (h.2.1.2.2.2.1 2 (by decide)).1.1
    have mI2_6 : mu_r H mp 11 = some (loc 6) := (h.2.1.2.2.2.1 2 (by decide)).1.2.1
    have mC2_6 : mu_i H mp 12 = nI (pr 2).length := (h.2.1.2.2.2.1 2 (by decide)).1.2.2
    have mN3_6 : mu_r H mp 13 = some (loc 7) := (h.2.1.2.2.2.1 3 (by decide)).1.1
    have mI3_6 : mu_r H mp 14 = some (loc 8) := (h.2.1.2.2.2.1 3 (by decide)).1.2.1
    have mC3_6 : mu_i H mp 15 = nI (pr 3).length := (h.2.1.2.2.2.1 3 (by decide)).1.2.2
    have rz6 := h.rz
    refine mw_go mu_g458 (k := 3) (f1 := (415, [(5, .inl (nI k)), (4, .inr (.inr (some ip))), (1, .inr (.inr (some m))), (0, .inr (.inr (some 169)))], [.inr (.inr (mu_r H m 2)), .inl (nI k)], H)) (C := [mu_is H (some m) 17]) rfl (show mu_is H (some m) 17 from ((h.2.2.2.1).is mi1 (fun z => absurd z.1 (Nat.not_le.mpr mi1.2.1)))) ?_
    refine mw_fr (f' := (415, [(5, .inl (nI k)), (4, .inr (.inr (some ip))), (1, .inr (.inr (some m))), (0, .inr (.inr (some 169)))], [.inr (.inr (some mq1)), .inl (nI k)], H)) (by first | (rw [(((h.2.2.2.1).r (p := m) (Or.inl mi1.2.1) (fun z => absurd z.1 (Nat.not_le.mpr mi1.2.1)) _).trans mr2_1)]; done) | (rw [(((h.2.2.2.1).r (p := m) (Or.inl mi1.2.1) (fun z => absurd z.1 (Nat.not_le.mpr mi1.2.1)) _).trans mr2_1)]; rfl)) ?_
    refine mw_go mu_g458 (k := 1) (f1 := (418, [(5, .inl (nI k)), (4, .inr (.inr (some ip))), (1, .inr (.inr (some m))), (0, .inr (.inr (some 169)))], [.inl (mu_i H mq1 2), .inl (nI k)], H)) (C := [mu_is H (some mq1) 18]) rfl (show mu_is H (some mq1) 18 from ((h.2.2.2.1).is is2 (fun z => absurd z.1 (Nat.not_le.mpr is2.2.1)))) ?_
    refine mw_fr (f' := (418, [(5, .inl (nI k)), (4, .inr (.inr (some ip))), (1, .inr (.inr (some m))), (0, .inr (.inr (some 169)))], [.inl (nI y.2.2.length), .inl (nI k)], H)) (by first | (rw [(((h.2.2.2.1).i (p := mq1) (Or.inl is2.2.1) (fun z => absurd z.1 (Nat.not_le.mpr is2.2.1)) _).trans n2_2)]; done) | (rw [(((h.2.2.2.1).i (p := mq1) (Or.inl is2.2.1) (fun z => absurd z.1 (Nat.not_le.mpr is2.2.1)) _).trans n2_2)]; rfl)) ?_
    refine mw_if (P := (nI k) < (nI y.2.2.length)) (a := 421) (b := 650) (fun _ => rfl) trivial (fun h1 => ?_) (fun h1 => absurd (nI_lt hk (by omega)) h1)
    refine mw_go mu_g458 (k := 2) (f1 := (425, [(5, .inl (nI k)), (4, .inr (.inr (some ip))), (1, .inr (.inr (some m))), (0, .inr (.inr (some 169)))], [.inr (.inr (mu_r H m 2))], H)) (C := [mu_is H (some m) 17]) rfl (show mu_is H (some m) 17 from ((h.2.2.2.1).is mi1 (fun z => absurd z.1 (Nat.not_le.mpr mi1.2.1)))) ?_
    refine mw_fr (f' := (425, [(5, .inl (nI k)), (4, .inr (.inr (some ip))), (1, .inr (.inr (some m))), (0, .inr (.inr (some 169)))], [.inr (.inr (some mq1))], H)) (by first | (rw [(((h.2.2.2.1).r (p := m) (Or.inl mi1.2.1) (fun z => absurd z.1 (Nat.not_le.mpr mi1.2.1)) _).trans mr2_1)]; done) | (rw [(((h.2.2.2.1).r (p := m) (Or.inl mi1.2.1) (fun z => absurd z.1 (Nat.not_le.mpr mi1.2.1)) _).trans mr2_1)]; rfl)) ?_
    refine mw_go mu_g458 (k := 1) (f1 := (428, [(5, .inl (nI k)), (4, .inr (.inr (some ip))), (1, .inr (.inr (some m))), (0, .inr (.inr (some 169)))], [.inr (.inr (mu_r H mq1 1))], H)) (C := [mu_is H (some mq1) 18]) rfl (show mu_is H (some mq1) 18 from ((h.2.2.2.1).is is2 (fun z => absurd z.1 (Nat.not_le.mpr is2.2.1)))) ?_
    refine mw_fr (f' := (428, [(5, .inl (nI k)), (4, .inr (.inr (some ip))), (1, .inr (.inr (some m))), (0, .inr (.inr (some 169)))], [.inr (.inr (some ar2))], H)) (by first | (rw [(((h.2.2.2.1).r (p := mq1) (Or.inl is2.2.1) (fun z => absurd z.1 (Nat.not_le.mpr is2.2.1)) _).trans aq2)]; done) | (rw [(((h.2.2.2.1).r (p := mq1) (Or.inl is2.2.1) (fun z => absurd z.1 (Nat.not_le.mpr is2.2.1)) _).trans aq2)]; rfl)) ?_
    refine mw_go mu_g458 (k := 2) (f1 := (431, [(5, .inl (nI k)), (4, .inr (.inr (some ip))), (1, .inr (.inr (some m))), (0, .inr (.inr (some 169)))], [.inr (.inr (mu_r H ar2 (nI k).toNatClampNeg))], H)) (C := [mu_is H (some ar2) (mu_k H ar2), 103 ≤ mu_k H ar2 ∧ mu_k H ar2 ≤ 110 ∧ mu_k H ar2 ≠ 108, vp_in (nI k) (mu_n H ar2)]) rfl (show (mu_is H (some ar2) (mu_k H ar2)) ∧ (103 ≤ mu_k H ar2 ∧ mu_k H ar2 ≤ 110 ∧ mu_k H ar2 ≠ 108) ∧ (vp_in (nI k) (mu_n H ar2)) from ⟨⟨rfl, Nat.lt_of_lt_of_le ai2.2.1 (h.2.2.2.1).1, rfl⟩, (by rw [(h.2.2.2.1).k (p := ar2) (Or.inl ai2.2.1) (fun z => absurd z.1 (Nat.not_le.mpr ai2.2.1))]; exact b2_3), (by rw [(h.2.2.2.1).len (p := ar2) (Or.inl ai2.2.1) (fun z => absurd z.1 (Nat.not_le.mpr ai2.2.1))]; exact b3_3)⟩) ?_
    refine mw_fr (f' := (431, [(5, .inl (nI k)), (4, .inr (.inr (some ip))), (1, .inr (.inr (some m))), (0, .inr (.inr (some 169)))], [.inr (.inr (some p))], H)) (by first | (rw [(((h.2.2.2.1).r (p := ar2) (Or.inl ai2.2.1) (fun z => absurd z.1 (Nat.not_le.mpr ai2.2.1)) _).trans y2_3)]; done) | (rw [(((h.2.2.2.1).r (p := ar2) (Or.inl ai2.2.1) (fun z => absurd z.1 (Nat.not_le.mpr ai2.2.1)) _).trans y2_3)]; rfl)) ?_
    refine mw_go mu_g458 (k := 3) (f1 := (437, [(6, .inr (.inr (some p))), (5, .inl (nI k)), (4, .inr (.inr (some ip))), (1, .inr (.inr (some m))), (0, .inr (.inr (some 169)))], [.inr (.inr (some 1000038)), .inr (.inr (some p))], H)) (C := []) rfl trivial ?_
    refine mw_cIe (fun _ => rfl) (show mu_is H (some p) 18 from ((h.2.2.2.1).is is4 (fun z => absurd z.1 (Nat.not_le.mpr is4.2.1)))) (nd.isL (e := d + 3) (j := 38) (h.ndk yn3 hF) (by decide)) ?_
    refine mw_if (P := (if tkd (nth y.2.2 k) = 38 then 1 else 0) = 0) (a := 540) (b := 443) (fun _ => rfl) trivial (fun hi7 => ?_) (fun hi7 => ?_)
    · -- 540
      have ek7 : ¬ tkd (nth y.2.2 k) = 38 := fun e => by rw [if_pos e] at hi7; exact absurd hi7 (by decide)
      refine mw_go mu_g458 (k := 2) (f1 := (544, [(6, .inr (.inr (some p))), (5, .inl (nI k)), (4, .inr (.inr (some ip))), (1, .inr (.inr (some m))), (0, .inr (.inr (some 169)))], [.inr (.inr (some 1000037)), .inr (.inr (some p))], H)) (C := []) rfl trivial ?_
      refine mw_cIe (fun _ => rfl) (show mu_is H (some p) 18 from ((h.2.2.2.1).is is4 (fun z => absurd z.1 (Nat.not_le.mpr is4.2.1)))) (nd.isL (e := d + 3) (j := 37) (h.ndk yn3 hF) (by decide)) ?_
      refine mw_if (P := (if tkd (nth y.2.2 k) = 37 then 1 else 0) = 0) (a := 644) (b := 550) (fun _ => rfl) trivial (fun hi8 => ?_) (fun hi8 => ?_)
      · -- 644
        have ek8 : ¬ tkd (nth y.2.2 k) = 37 := fun e => by rw [if_pos e] at hi8; exact absurd hi8 (by decide)
        refine mw_go mu_g458 (k := 2) (f1 := (409, [(5, .inl ((nI k) + 1)), (6, .inr (.inr (some p))), (4, .inr (.inr (some ip))), (1, .inr (.inr (some m))), (0, .inr (.inr (some 169)))], [], H)) (C := []) rfl trivial ?_
        refine mw_sub (L' := [(5, .inl (nI (k + 1))), (4, .inr (.inr (some ip))), (1, .inr (.inr (some m))), (0, .inr (.inr (some 169)))]) (by intro x hx; simp only [List.mem_cons, List.not_mem_nil, or_false] at hx ⊢; rcases hx with rfl | rfl | rfl | rfl <;> simp [nI_add, show (1 : Int32) = nI 1 from rfl]) ?_
        exact rp_in3 hm0 hw hF hj hQ hfin m_ (k + 1) _ _ _ (by omega) h hip hag (by omega) (by rw [spl, if_neg ek7, if_neg ek8] at hpe; exact hpe)
      · -- 550
        have ek8 : tkd (nth y.2.2 k) = 37 := Decidable.byContradiction (fun e => hi8 (if_neg e))
        have hpl := plx_le (pr := pr) (k := 3) (by decide)
        refine mw_go mu_g458 (k := 2) (f1 := (554, [(6, .inr (.inr (some p))), (5, .inl (nI k)), (4, .inr (.inr (some ip))), (1, .inr (.inr (some m))), (0, .inr (.inr (some 169)))], [.inr (.inr (mu_r H 169 18))], H)) (C := [mu_is H (some 169) 1]) rfl (show mu_is H (some 169) 1 from h.rz.2.2.2.2) ?_
        refine mw_fr (f' := (554, [(6, .inr (.inr (some p))), (5, .inl (nI k)), (4, .inr (.inr (some ip))), (1, .inr (.inr (some m))), (0, .inr (.inr (some 169)))], [.inr (.inr (some mp))], H)) (by first | (rw [m18_6]; done) | (rw [m18_6]; rfl)) ?_
        refine mw_go mu_g458 (k := 2) (f1 := (558, [(6, .inr (.inr (some p))), (5, .inl (nI k)), (4, .inr (.inr (some ip))), (1, .inr (.inr (some m))), (0, .inr (.inr (some 169)))], [.inr (.inr (mu_r H 169 18)), .inr (.inr (some mp))], H)) (C := [mu_is H (some 169) 1]) rfl (show mu_is H (some 169) 1 from h.rz.2.2.2.2) ?_
        refine mw_fr (f' := (558, [(6, .inr (.inr (some p))), (5, .inl (nI k)), (4, .inr (.inr (some ip))), (1, .inr (.inr (some m))), (0, .inr (.inr (some 169)))], [.inr (.inr (some mp)), .inr (.inr (some mp))], H)) (by first | (rw [m18_6]; done) | (rw [m18_6]; rfl)) ?_
        refine mw_go mu_g458 (k := 1) (f1 := (561, [(6, .inr (.inr (some p))), (5, .inl (nI k)), (4, .inr (.inr (some ip))), (1, .inr (.inr (some m))), (0, .inr (.inr (some 169)))], [.inr (.inr (mu_r H mp 13)), .inr (.inr (some mp))], H)) (C := [mu_is H (some mp) 16]) rfl (show mu_is H (some mp) 16 from h.2.1.1.1) ?_
        refine mw_fr (f' := (561, [(6, .inr (.inr (some p))), (5, .inl (nI k)), (4, .inr (.inr (some ip))), (1, .inr (.inr (some m))), (0, .inr (.inr (some 169)))], [.inr (.inr (some (loc 7))), .inr (.inr (some mp))], H)) (by first | (rw [mN3_6]; done) | (rw [mN3_6]; rfl)) ?_
        refine mw_go mu_g458 (k := 2) (f1 := (565, [(6, .inr (.inr (some p))), (5, .inl (nI k)), (4, .inr (.inr (some ip))), (1, .inr (.inr (some m))), (0, .inr (.inr (some 169)))], [.inr (.inr (mu_r H 169 18)), .inr (.inr (some (loc 7))), .inr (.inr (some mp))], H)) (C := [mu_is H (some 169) 1]) rfl (show mu_is H (some 169) 1 from h.rz.2.2.2.2) ?_
        refine mw_fr (f' := (565, [(6, .inr (.inr (some p))), (5, .inl (nI k)), (4, .inr (.inr (some ip))), (1, .inr (.inr (some m))), (0, .inr (.inr (some 169)))], [.inr (.inr (some mp)), .inr (.inr (some (loc 7))), .inr (.inr (some mp))], H)) (by first | (rw [m18_6]; done) | (rw [m18_6]; rfl)) ?_
        refine mw_go mu_g458 (k := 1) (f1 := (568, [(6, .inr (.inr (some p))), (5, .inl (nI k)), (4, .inr (.inr (some ip))), (1, .inr (.inr (some m))), (0, .inr (.inr (some 169)))], [.inl (mu_i H mp 15), .inr (.inr (some (loc 7))), .inr (.inr (some mp))], H)) (C := [mu_is H (some mp) 16]) rfl (show mu_is H (some mp) 16 from h.2.1.1.1) ?_
        refine mw_fr (f' := (568, [(6, .inr (.inr (some p))), (5, .inl (nI k)), (4, .inr (.inr (some ip))), (1, .inr (.inr (some m))), (0, .inr (.inr (some 169)))], [.inl (nI (pr 3).length), .inr (.inr (some (loc 7))), .inr (.inr (some mp))], H)) (by first | (rw [mC3_6]; done) | (rw [mC3_6]; rfl)) ?_
        have wr9 := (h.2.1.2.2.2.1 3 (by decide)).2.1
        have wl9 : (pr 3).length ≤ mu_n H (loc 7) ∧ 16 ≤ mu_n H (loc 7) ∧ mu_n H (loc 7) ≤ 2 * (pr 3).length + 64 := wr9.2.1
        have el9 : (pr 3).length = mu_n H (loc 7) → ∀ i, i < mu_n H (loc 7) → mu_is H (mu_r H (loc 7) i) 18 := fun e i hi => by
            obtain ⟨q9, q1, q2⟩ := wr9.2.2 i (by rw [e]; exact hi)
            rw [show mu_r H (loc 7) i = some q9 from q1]
            exact q2.is.1
        refine mw_cA (fun _ => rfl) trivial (rp_moreN (cap := mu_n H (loc 7)) wr9.1 rfl (by omega) wl9.1 el9 (by omega)) (fun y9 H9 q9 => ?_)
        obtain ⟨loc9, pp9, rfl, e9, ag9, hb9, ll9, nl9, zl9⟩ := h.mrN (k := 3) (by decide) (by omega) q9
        have e9 : loc9 7 = pp9 := e9
        subst e9
        have hb9 : bmk T n0 t dep F lv r ms cap sy Hb mp A B loc9 n Iv pr en (mu_sr H9 mp 13 (some (loc9 7))) := hb9
        have ll9 : (pr 3).length < mu_n (mu_sr H9 mp 13 (some (loc9 7))) (loc9 7) := ll9
        have nl9 : ∀ s, s < 9 + 4 * n → mu_n (mu_sr H9 mp 13 (some (loc9 7))) (loc s) = mu_n H (loc s) := nl9
        have zl9 : mu_z (mu_sr H9 mp 13 (some (loc9 7))) ≤ mu_z H + 1 := zl9
        show mu_W _ mu_m458 (571, [(6, .inr (.inr (some p))), (5, .inl (nI k)), (4, .inr (.inr (some ip))), (1, .inr (.inr (some m))), (0, .inr (.inr (some 169)))], [.inr (.inr (some (loc9 7))), .inr (.inr (some mp))], H9) _
        refine mw_go mu_g458 (k := 1) (f1 := (574, [(6, .inr (.inr (some p))), (5, .inl (nI k)), (4, .inr (.inr (some ip))), (1, .inr (.inr (some m))), (0, .inr (.inr (some 169)))], [], (mu_sr H9 mp 13 (some (loc9 7))))) (C := [mu_is H9 (some mp) 16]) rfl (show mu_is H9 (some mp) 16 from (show mu_is H9 (some mp) 16 from hb9.2.1.1.1)) ?_
        obtain ⟨K9, eK9⟩ : ∃ K, K = (mu_sr H9 mp 13 (some (loc9 7))) := ⟨_, rfl⟩
        rw [← eK9] at hb9 ll9 nl9 zl9 ⊢
        clear eK9
        have m18_10 : mu_r K9 169 18 = some mp := hb9.2.1.1.2.2
        have m0_10 : mu_r K9 mp 0 = some (loc9 0) := hb9.2.1.2.1.1
        have m1_10 : mu_i K9 mp 1 = nI n := hb9.2.1.2.1.2.1
        have m2_10 : mu_i K9 mp 2 = nI en := hb9.2.1.2.1.2.2
        have mN0_10 : mu_r K9 mp 7 = some (loc9 1) := (hb9.2.1.2.2.2.1 0 (by decide)).1.1
        have mI0_10 : mu_r K9 mp 8 = some (loc9 2) := (hb9.2.1.2.2.2.1 0 (by decide)).1.2.1
        have mC0_10 : mu_i K9 mp 9 = nI (pr 0).length := (hb9.2.1.2.2.2.1 0 (by decide)).1.2.2
        have mN1_10 : mu_r K9 mp 4 = some (loc9 3) := (hb9.2.1.2.2.2.1 1 (by decide)).1.1
        have mI1_10 : mu_r K9 mp 3 = some (loc9 4) := (hb9.2.1.2.2.2.1 1 (by decide)).1.2.1
        have mC1_10 : mu_i K9 mp 5 = nI (pr 1).length := (hb9.2.1.2.2.2.1 1 (by decide)).1.2.2
        have mN2_10 : mu_r K9 mp 10 = some (loc9 5) := (hb9.2.1.2.2.2.1 2 (by decide)).1.1
        have mI2_10 : mu_r K9 mp 11 = some (loc9 6) := (hb9.2.1.2.2.2.1 2 (by decide)).1.2.1
        have mC2_10 : mu_i K9 mp 12 = nI (pr 2).length := (hb9.2.1.2.2.2.1 2 (by decide)).1.2.2
        have mN3_10 : mu_r K9 mp 13 = some (loc9 7) := (hb9.2.1.2.2.2.1 3 (by decide)).1.1
        have mI3_10 : mu_r K9 mp 14 = some (loc9 8) := (hb9.2.1.2.2.2.1 3 (by decide)).1.2.1
        have mC3_10 : mu_i K9 mp 15 = nI (pr 3).length := (hb9.2.1.2.2.2.1 3 (by decide)).1.2.2
        have rz10 := hb9.rz
        refine mw_go mu_g458 (k := 2) (f1 := (578, [(6, .inr (.inr (some p))), (5, .inl (nI k)), (4, .inr (.inr (some ip))), (1, .inr (.inr (some m))), (0, .inr (.inr (some 169)))], [.inr (.inr (mu_r K9 169 18))], K9)) (C := [mu_is K9 (some 169) 1]) rfl (show mu_is K9 (some 169) 1 from hb9.rz.2.2.2.2) ?_
        refine mw_fr (f' := (578, [(6, .inr (.inr (some p))), (5, .inl (nI k)), (4, .inr (.inr (some ip))), (1, .inr (.inr (some m))), (0, .inr (.inr (some 169)))], [.inr (.inr (some mp))], K9)) (by first | (rw [m18_10]; done) | (rw [m18_10]; rfl)) ?_
        refine mw_go mu_g458 (k := 2) (f1 := (582, [(6, .inr (.inr (some p))), (5, .inl (nI k)), (4, .inr (.inr (some ip))), (1, .inr (.inr (some m))), (0, .inr (.inr (some 169)))], [.inr (.inr (mu_r K9 169 18)), .inr (.inr (some mp))], K9)) (C := [mu_is K9 (some 169) 1]) rfl (show mu_is K9 (some 169) 1 from hb9.rz.2.2.2.2) ?_
        refine mw_fr (f' := (582, [(6, .inr (.inr (some p))), (5, .inl (nI k)), (4, .inr (.inr (some ip))), (1, .inr (.inr (some m))), (0, .inr (.inr (some 169)))], [.inr (.inr (some mp)), .inr (.inr (some mp))], K9)) (by first | (rw [m18_10]; done) | (rw [m18_10]; rfl)) ?_
        refine mw_go mu_g458 (k := 1) (f1 := (585, [(6, .inr (.inr (some p))), (5, .inl (nI k)), (4, .inr (.inr (some ip))), (1, .inr (.inr (some m))), (0, .inr (.inr (some 169)))], [.inr (.inr (mu_r K9 mp 14)), .inr (.inr (some mp))], K9)) (C := [mu_is K9 (some mp) 16]) rfl (show mu_is K9 (some mp) 16 from hb9.2.1.1.1) ?_
        refine mw_fr (f' := (585, [(6, .inr (.inr (some p))), (5, .inl (nI k)), (4, .inr (.inr (some ip))), (1, .inr (.inr (some m))), (0, .inr (.inr (some 169)))], [.inr (.inr (some (loc9 8))), .inr (.inr (some mp))], K9)) (by first | (rw [mI3_10]; done) | (rw [mI3_10]; rfl)) ?_
        refine mw_go mu_g458 (k := 2) (f1 := (589, [(6, .inr (.inr (some p))), (5, .inl (nI k)), (4, .inr (.inr (some ip))), (1, .inr (.inr (some m))), (0, .inr (.inr (some 169)))], [.inr (.inr (mu_r K9 169 18)), .inr (.inr (some (loc9 8))), .inr (.inr (some mp))], K9)) (C := [mu_is K9 (some 169) 1]) rfl (show mu_is K9 (some 169) 1 from hb9.rz.2.2.2.2) ?_
        refine mw_fr (f' := (589, [(6, .inr (.inr (some p))), (5, .inl (nI k)), (4, .inr (.inr (some ip))), (1, .inr (.inr (some m))), (0, .inr (.inr (some 169)))], [.inr (.inr (some mp)), .inr (.inr (some (loc9 8))), .inr (.inr (some mp))], K9)) (by first | (rw [m18_10]; done) | (rw [m18_10]; rfl)) ?_
        refine mw_go mu_g458 (k := 1) (f1 := (592, [(6, .inr (.inr (some p))), (5, .inl (nI k)), (4, .inr (.inr (some ip))), (1, .inr (.inr (some m))), (0, .inr (.inr (some 169)))], [.inl (mu_i K9 mp 15), .inr (.inr (some (loc9 8))), .inr (.inr (some mp))], K9)) (C := [mu_is K9 (some mp) 16]) rfl (show mu_is K9 (some mp) 16 from hb9.2.1.1.1) ?_
        refine mw_fr (f' := (592, [(6, .inr (.inr (some p))), (5, .inl (nI k)), (4, .inr (.inr (some ip))), (1, .inr (.inr (some m))), (0, .inr (.inr (some 169)))], [.inl (nI (pr 3).length), .inr (.inr (some (loc9 8))), .inr (.inr (some mp))], K9)) (by first | (rw [mC3_10]; done) | (rw [mC3_10]; rfl)) ?_
        have wr11 := (hb9.2.1.2.2.2.1 3 (by decide)).2.2
        have wl11 : (pr 3).length ≤ mu_n K9 (loc9 8) ∧ 16 ≤ mu_n K9 (loc9 8) ∧ mu_n K9 (loc9 8) ≤ 2 * (pr 3).length + 64 := wr11.2.1
        have el11 : (pr 3).length = mu_n K9 (loc9 8) → ∀ i, i < mu_n K9 (loc9 8) → mu_is K9 (mu_r K9 (loc9 8) i) 15 := fun e i hi => by
            have z9 := wr11.2.2 i (by rw [e]; exact hi)
            rw [show mu_r K9 (loc9 8) i = _ from z9.1]
            exact (hb9.2.1.2.2.2.2.1 _ z9.2).1
        refine mw_cA (fun _ => rfl) trivial (rp_moreI (cap := mu_n K9 (loc9 8)) wr11.1 rfl (by omega) wl11.1 el11 (by omega)) (fun y11 H11 q11 => ?_)
        obtain ⟨loc11, pp11, rfl, e11, ag11, hb11, ll11, nl11, zl11⟩ := hb9.mrI (k := 3) (by decide) (by omega) q11
        have e11 : loc11 8 = pp11 := e11
        subst e11
        have hb11 : bmk T n0 t dep F lv r ms cap sy Hb mp A B loc11 n Iv pr en (mu_sr H11 mp 14 (some (loc11 8))) := hb11
        have ll11 : (pr 3).length < mu_n (mu_sr H11 mp 14 (some (loc11 8))) (loc11 8) := ll11
        have nl11 : ∀ s, s < 9 + 4 * n → mu_n (mu_sr H11 mp 14 (some (loc11 8))) (loc9 s) = mu_n K9 (loc9 s) := nl11
        have zl11 : mu_z (mu_sr H11 mp 14 (some (loc11 8))) ≤ mu_z K9 + 1 := zl11
        show mu_W _ mu_m458 (595, [(6, .inr (.inr (some p))), (5, .inl (nI k)), (4, .inr (.inr (some ip))), (1, .inr (.inr (some m))), (0, .inr (.inr (some 169)))], [.inr (.inr (some (loc11 8))), .inr (.inr (some mp))], H11) _
        refine mw_go mu_g458 (k := 1) (f1 := (598, [(6, .inr (.inr (some p))), (5, .inl (nI k)), (4, .inr (.inr (some ip))), (1, .inr (.inr (some m))), (0, .inr (.inr (some 169)))], [], (mu_sr H11 mp 14 (some (loc11 8))))) (C := [mu_is H11 (some mp) 16]) rfl (show mu_is H11 (some mp) 16 from (show mu_is H11 (some mp) 16 from hb11.2.1.1.1)) ?_
        obtain ⟨K11, eK11⟩ : ∃ K, K = (mu_sr H11 mp 14 (some (loc11 8))) := ⟨_, rfl⟩
        rw [← eK11] at hb11 ll11 nl11 zl11 ⊢
        clear eK11
        have m18_12 : mu_r K11 169 18 = some mp := hb11.2.1.1.2.2
        have m0_12 : mu_r K11 mp 0 = some (loc11 0) := hb11.2.1.2.1.1
        have m1_12 : mu_i K11 mp 1 = nI n := hb11.2.1.2.1.2.1
        have m2_12 : mu_i K11 mp 2 = nI en := hb11.2.1.2.1.2.2
        have mN0_12 : mu_r K11 mp 7 = some (loc11 1) := (hb11.2.1.2.2.2.1 0 (by decide)).1.1
        have mI0_12 : mu_r K11 mp 8 = some (loc11 2) := (hb11.2.1.2.2.2.1 0 (by decide)).1.2.1
        have mC0_12 : mu_i K11 mp 9 = nI (pr 0).length := (hb11.2.1.2.2.2.1 0 (by decide)).1.2.2
        have mN1_12 : mu_r K11 mp 4 = some (loc11 3) := (hb11.2.1.2.2.2.1 1 (by decide)).1.1
        have mI1_12 : mu_r K11 mp 3 = some (loc11 4) := (hb11.2.1.2.2.2.1 1 (by decide)).1.2.1
        have mC1_12 : mu_i K11 mp 5 = nI (pr 1).length := (hb11.2.1.2.2.2.1 1 (by decide)).1.2.2
        have mN2_12 : mu_r K11 mp 10 = some (loc11 5) := (hb11.2.1.2.2.2.1 2 (by decide)).1.1
        have mI2_12 : mu_r K11 mp 11 = some (loc11 6) := (hb11.2.1.2.2.2.1 2 (by decide)).1.2.1
        have mC2_12 : mu_i K11 mp 12 = nI (pr 2).length := (hb11.2.1.2.2.2.1 2 (by decide)).1.2.2
        have mN3_12 : mu_r K11 mp 13 = some (loc11 7) := (hb11.2.1.2.2.2.1 3 (by decide)).1.1
        have mI3_12 : mu_r K11 mp 14 = some (loc11 8) := (hb11.2.1.2.2.2.1 3 (by decide)).1.2.1
        have mC3_12 : mu_i K11 mp 15 = nI (pr 3).length := (hb11.2.1.2.2.2.1 3 (by decide)).1.2.2
        have rz12 := hb11.rz
        have dif := hb11.dif (k := 3) (by decide)
        have hlN : (pr 3).length < mu_n K11 (loc11 7) := by
          have e1 : loc11 7 = loc9 7 := ag11 7 (by decide)
          rw [e1, nl11 7 (by omega)]; exact ll9
        have hlI : (pr 3).length < mu_n K11 (loc11 8) := ll11
        have bN : _ ∧ _ ∧ mu_n K11 (loc11 7) ≤ 2 * (pr 3).length + 64 := (hb11.2.1.2.2.2.1 3 (by decide)).2.1.2.1
        have bI2 : _ ∧ _ ∧ mu_n K11 (loc11 8) ≤ 2 * (pr 3).length + 64 := (hb11.2.1.2.2.2.1 3 (by decide)).2.2.2.1
        have ag : ∀ s, 9 ≤ s → loc11 s = loc s := fun s hs => (ag11 s (by omega)).trans (ag9 s (by omega))
        have hq4 : nd K11 F lv ty (tkk (nth y.2.2 k) 0) := (hb11.ndk yn5 hF).le (by omega)
        have hip4 : loc11 (9 + 4 * j) = ip := (ag _ (by omega)).trans hip
        refine mw_go mu_g458 (k := 2) (f1 := (602, [(6, .inr (.inr (some p))), (5, .inl (nI k)), (4, .inr (.inr (some ip))), (1, .inr (.inr (some m))), (0, .inr (.inr (some 169)))], [.inr (.inr (mu_r K11 169 18))], K11)) (C := [mu_is K11 (some 169) 1]) rfl (show mu_is K11 (some 169) 1 from hb11.rz.2.2.2.2) ?_
        refine mw_fr (f' := (602, [(6, .inr (.inr (some p))), (5, .inl (nI k)), (4, .inr (.inr (some ip))), (1, .inr (.inr (some m))), (0, .inr (.inr (some 169)))], [.inr (.inr (some mp))], K11)) (by first | (rw [m18_12]; done) | (rw [m18_12]; rfl)) ?_
        refine mw_go mu_g458 (k := 1) (f1 := (605, [(6, .inr (.inr (some p))), (5, .inl (nI k)), (4, .inr (.inr (some ip))), (1, .inr (.inr (some m))), (0, .inr (.inr (some 169)))], [.inr (.inr (mu_r K11 mp 13))], K11)) (C := [mu_is K11 (some mp) 16]) rfl (show mu_is K11 (some mp) 16 from hb11.2.1.1.1) ?_
        refine mw_fr (f' := (605, [(6, .inr (.inr (some p))), (5, .inl (nI k)), (4, .inr (.inr (some ip))), (1, .inr (.inr (some m))), (0, .inr (.inr (some 169)))], [.inr (.inr (some (loc11 7)))], K11)) (by first | (rw [mN3_12]; done) | (rw [mN3_12]; rfl)) ?_
        refine mw_go mu_g458 (k := 2) (f1 := (609, [(6, .inr (.inr (some p))), (5, .inl (nI k)), (4, .inr (.inr (some ip))), (1, .inr (.inr (some m))), (0, .inr (.inr (some 169)))], [.inr (.inr (mu_r K11 169 18)), .inr (.inr (some (loc11 7)))], K11)) (C := [mu_is K11 (some 169) 1]) rfl (show mu_is K11 (some 169) 1 from hb11.rz.2.2.2.2) ?_
        refine mw_fr (f' := (609, [(6, .inr (.inr (some p))), (5, .inl (nI k)), (4, .inr (.inr (some ip))), (1, .inr (.inr (some m))), (0, .inr (.inr (some 169)))], [.inr (.inr (some mp)), .inr (.inr (some (loc11 7)))], K11)) (by first | (rw [m18_12]; done) | (rw [m18_12]; rfl)) ?_
        refine mw_go mu_g458 (k := 1) (f1 := (612, [(6, .inr (.inr (some p))), (5, .inl (nI k)), (4, .inr (.inr (some ip))), (1, .inr (.inr (some m))), (0, .inr (.inr (some 169)))], [.inl (mu_i K11 mp 15), .inr (.inr (some (loc11 7)))], K11)) (C := [mu_is K11 (some mp) 16]) rfl (show mu_is K11 (some mp) 16 from hb11.2.1.1.1) ?_
        refine mw_fr (f' := (612, [(6, .inr (.inr (some p))), (5, .inl (nI k)), (4, .inr (.inr (some ip))), (1, .inr (.inr (some m))), (0, .inr (.inr (some 169)))], [.inl (nI (pr 3).length), .inr (.inr (some (loc11 7)))], K11)) (by first | (rw [mC3_12]; done) | (rw [mC3_12]; rfl)) ?_
        refine mw_go mu_g458 (k := 2) (f1 := (617, [(6, .inr (.inr (some p))), (5, .inl (nI k)), (4, .inr (.inr (some ip))), (1, .inr (.inr (some m))), (0, .inr (.inr (some 169)))], [.inr (.inr (mu_r K11 p 1)), .inl (nI (pr 3).length), .inr (.inr (some (loc11 7)))], K11)) (C := [mu_is K11 (some p) 18]) rfl (show mu_is K11 (some p) 18 from ((hb11.2.2.2.1).is is4 (fun z => absurd z.1 (Nat.not_le.mpr is4.2.1)))) ?_
        refine mw_fr (f' := (617, [(6, .inr (.inr (some p))), (5, .inl (nI k)), (4, .inr (.inr (some ip))), (1, .inr (.inr (some m))), (0, .inr (.inr (some 169)))], [.inr (.inr (some ar4)), .inl (nI (pr 3).length), .inr (.inr (some (loc11 7)))], K11)) (by first | (rw [(((hb11.2.2.2.1).r (p := p) (Or.inl is4.2.1) (fun z => absurd z.1 (Nat.not_le.mpr is4.2.1)) _).trans aq4)]; done) | (rw [(((hb11.2.2.2.1).r (p := p) (Or.inl is4.2.1) (fun z => absurd z.1 (Nat.not_le.mpr is4.2.1)) _).trans aq4)]; rfl)) ?_
        refine mw_go mu_g458 (k := 2) (f1 := (619, [(6, .inr (.inr (some p))), (5, .inl (nI k)), (4, .inr (.inr (some ip))), (1, .inr (.inr (some m))), (0, .inr (.inr (some 169)))], [.inr (.inr (mu_r K11 ar4 (0 : Int32).toNatClampNeg)), .inl (nI (pr 3).length), .inr (.inr (some (loc11 7)))], K11)) (C := [mu_is K11 (some ar4) (mu_k K11 ar4), 103 ≤ mu_k K11 ar4 ∧ mu_k K11 ar4 ≤ 110 ∧ mu_k K11 ar4 ≠ 108, vp_in (0 : Int32) (mu_n K11 ar4)]) rfl (show (mu_is K11 (some ar4) (mu_k K11 ar4)) ∧ (103 ≤ mu_k K11 ar4 ∧ mu_k K11 ar4 ≤ 110 ∧ mu_k K11 ar4 ≠ 108) ∧ (vp_in (0 : Int32) (mu_n K11 ar4)) from ⟨⟨rfl, Nat.lt_of_lt_of_le ai4.2.1 (hb11.2.2.2.1).1, rfl⟩, (by rw [(hb11.2.2.2.1).k (p := ar4) (Or.inl ai4.2.1) (fun z => absurd z.1 (Nat.not_le.mpr ai4.2.1))]; exact b2_5), (by rw [(hb11.2.2.2.1).len (p := ar4) (Or.inl ai4.2.1) (fun z => absurd z.1 (Nat.not_le.mpr ai4.2.1))]; exact b3_5)⟩) ?_
        refine mw_fr (f' := (619, [(6, .inr (.inr (some p))), (5, .inl (nI k)), (4, .inr (.inr (some ip))), (1, .inr (.inr (some m))), (0, .inr (.inr (some 169)))], [.inr (.inr (some ty)), .inl (nI (pr 3).length), .inr (.inr (some (loc11 7)))], K11)) (by first | (rw [(((hb11.2.2.2.1).r (p := ar4) (Or.inl ai4.2.1) (fun z => absurd z.1 (Nat.not_le.mpr ai4.2.1)) _).trans y2_5)]; done) | (rw [(((hb11.2.2.2.1).r (p := ar4) (Or.inl ai4.2.1) (fun z => absurd z.1 (Nat.not_le.mpr ai4.2.1)) _).trans y2_5)]; rfl)) ?_
        refine mw_aastO (t := 9) (ct := 18) rfl (hb11.2.1.2.2.2.1 3 (by decide)).2.1.1 hq4.is.1 (by decide) (show vp_in (nI (pr 3).length) (mu_n K11 (loc11 7)) from vp_in_nI hlN (by omega)) ?_
        rw [show mu_p (some (loc11 7)) = loc11 7 from rfl, nI_clamp (show (pr 3).length < 2 ^ 31 by omega)]
        show mu_W _ mu_m458 (620, [(6, .inr (.inr (some p))), (5, .inl (nI k)), (4, .inr (.inr (some ip))), (1, .inr (.inr (some m))), (0, .inr (.inr (some 169)))], [], (mu_sr K11 (loc11 7) (pr 3).length (some ty))) _
        have a18 : mu_r (mu_sr K11 (loc11 7) (pr 3).length (some ty)) 169 18 = some mp := by rw [mu_r_sr, if_neg (fun z => dif.2.2.2.1 z.1.symm)]; exact hb11.2.1.1.2.2
        have aI : mu_r (mu_sr K11 (loc11 7) (pr 3).length (some ty)) mp 14 = some (loc11 8) := by rw [mu_r_sr, if_neg (fun z => dif.2.1 z.1.symm)]; exact (hb11.2.1.2.2.2.1 3 (by decide)).1.2.1
        have aC : mu_i K11 mp 15 = nI (pr 3).length := (hb11.2.1.2.2.2.1 3 (by decide)).1.2.2
        have e1 : nI (pr 3).length + (1 : Int32) = nI ((pr 3).length + 1) := nI_add _ _
        refine mw_go mu_g458 (k := 2) (f1 := (624, [(6, .inr (.inr (some p))), (5, .inl (nI k)), (4, .inr (.inr (some ip))), (1, .inr (.inr (some m))), (0, .inr (.inr (some 169)))], [.inr (.inr (mu_r (mu_sr K11 (loc11 7) (pr 3).length (some ty)) 169 18))], (mu_sr K11 (loc11 7) (pr 3).length (some ty)))) (C := [mu_is K11 (some 169) 1]) rfl (show mu_is K11 (some 169) 1 from hb11.rz.2.2.2.2) ?_
        refine mw_fr (f' := (624, [(6, .inr (.inr (some p))), (5, .inl (nI k)), (4, .inr (.inr (some ip))), (1, .inr (.inr (some m))), (0, .inr (.inr (some 169)))], [.inr (.inr (some mp))], (mu_sr K11 (loc11 7) (pr 3).length (some ty)))) (by first | (rw [a18]; done) | (rw [a18]; rfl)) ?_
        refine mw_go mu_g458 (k := 1) (f1 := (627, [(6, .inr (.inr (some p))), (5, .inl (nI k)), (4, .inr (.inr (some ip))), (1, .inr (.inr (some m))), (0, .inr (.inr (some 169)))], [.inr (.inr (mu_r (mu_sr K11 (loc11 7) (pr 3).length (some ty)) mp 14))], (mu_sr K11 (loc11 7) (pr 3).length (some ty)))) (C := [mu_is K11 (some mp) 16]) rfl (show mu_is K11 (some mp) 16 from hb11.2.1.1.1) ?_
        refine mw_fr (f' := (627, [(6, .inr (.inr (some p))), (5, .inl (nI k)), (4, .inr (.inr (some ip))), (1, .inr (.inr (some m))), (0, .inr (.inr (some 169)))], [.inr (.inr (some (loc11 8)))], (mu_sr K11 (loc11 7) (pr 3).length (some ty)))) (by first | (rw [aI]; done) | (rw [aI]; rfl)) ?_
        refine mw_go mu_g458 (k := 2) (f1 := (631, [(6, .inr (.inr (some p))), (5, .inl (nI k)), (4, .inr (.inr (some ip))), (1, .inr (.inr (some m))), (0, .inr (.inr (some 169)))], [.inr (.inr (mu_r (mu_sr K11 (loc11 7) (pr 3).length (some ty)) 169 18)), .inr (.inr (some (loc11 8)))], (mu_sr K11 (loc11 7) (pr 3).length (some ty)))) (C := [mu_is K11 (some 169) 1]) rfl (show mu_is K11 (some 169) 1 from hb11.rz.2.2.2.2) ?_
        refine mw_fr (f' := (631, [(6, .inr (.inr (some p))), (5, .inl (nI k)), (4, .inr (.inr (some ip))), (1, .inr (.inr (some m))), (0, .inr (.inr (some 169)))], [.inr (.inr (some mp)), .inr (.inr (some (loc11 8)))], (mu_sr K11 (loc11 7) (pr 3).length (some ty)))) (by first | (rw [a18]; done) | (rw [a18]; rfl)) ?_
        refine mw_go mu_g458 (k := 2) (f1 := (635, [(6, .inr (.inr (some p))), (5, .inl (nI k)), (4, .inr (.inr (some ip))), (1, .inr (.inr (some m))), (0, .inr (.inr (some 169)))], [.inl (mu_i K11 mp 15), .inr (.inr (some mp)), .inr (.inr (some (loc11 8)))], (mu_sr K11 (loc11 7) (pr 3).length (some ty)))) (C := [mu_is K11 (some mp) 16]) rfl (show mu_is K11 (some mp) 16 from hb11.2.1.1.1) ?_
        refine mw_fr (f' := (635, [(6, .inr (.inr (some p))), (5, .inl (nI k)), (4, .inr (.inr (some ip))), (1, .inr (.inr (some m))), (0, .inr (.inr (some 169)))], [.inl (nI (pr 3).length), .inr (.inr (some mp)), .inr (.inr (some (loc11 8)))], (mu_sr K11 (loc11 7) (pr 3).length (some ty)))) (by first | (rw [aC]; done) | (rw [aC]; rfl)) ?_
        refine mw_go mu_g458 (k := 3) (f1 := (638, [(6, .inr (.inr (some p))), (5, .inl (nI k)), (4, .inr (.inr (some ip))), (1, .inr (.inr (some m))), (0, .inr (.inr (some 169)))], [.inl ((nI (pr 3).length) + (1 : Int32)), .inr (.inr (some mp)), .inl (nI (pr 3).length), .inr (.inr (some (loc11 8)))], (mu_sr K11 (loc11 7) (pr 3).length (some ty)))) (C := []) rfl trivial ?_
        refine mw_fr (f' := (638, [(6, .inr (.inr (some p))), (5, .inl (nI k)), (4, .inr (.inr (some ip))), (1, .inr (.inr (some m))), (0, .inr (.inr (some 169)))], [.inl (nI ((pr 3).length + 1)), .inr (.inr (some mp)), .inl (nI (pr 3).length), .inr (.inr (some (loc11 8)))], (mu_sr K11 (loc11 7) (pr 3).length (some ty)))) (by first | (rw [e1]; done) | (rw [e1]; rfl)) ?_
        refine mw_go mu_g458 (k := 2) (f1 := (643, [(6, .inr (.inr (some p))), (5, .inl (nI k)), (4, .inr (.inr (some ip))), (1, .inr (.inr (some m))), (0, .inr (.inr (some 169)))], [.inr (.inr (some ip)), .inl (nI (pr 3).length), .inr (.inr (some (loc11 8)))], (mu_si (mu_sr K11 (loc11 7) (pr 3).length (some ty)) mp 15 (nI ((pr 3).length + 1))))) (C := [mu_is K11 (some mp) 16]) rfl (show mu_is K11 (some mp) 16 from hb11.2.1.1.1) ?_
        rw [show (some ip) = some (loc11 (9 + 4 * j)) by rw [hip4]]
        refine mw_aastO (t := 10) (ct := 15) rfl (show mu_is K11 (some (loc11 8)) 110 from (hb11.2.1.2.2.2.1 3 (by decide)).2.2.1) (show mu_is K11 (some (loc11 (9 + 4 * j))) 15 from (hb11.2.1.2.2.2.2.1 j hj).1) (by decide) (show vp_in (nI (pr 3).length) (mu_n K11 (loc11 8)) from vp_in_nI hlI (by omega)) ?_
        rw [show mu_p (some (loc11 8)) = loc11 8 from rfl, nI_clamp (show (pr 3).length < 2 ^ 31 by omega)]
        have hfn := hb11.pushG (k := 3) (q := ty) (i := j) (c := tkk (nth y.2.2 k) 0) (by decide) hlN hlI hq4 hj (psd.nci (H := K11) ⟨dif.1, dif.2.1, dif.2.2.1⟩)
        have hfn : bmk T n0 t dep F lv r ms cap sy Hb mp A B loc11 n Iv (pup pr 3 (pr 3 ++ [(tkk (nth y.2.2 k) 0, j)])) en (mu_sr (mu_si (mu_sr K11 (loc11 7) (pr 3).length (some ty)) mp 15 (nI ((pr 3).length + 1))) (loc11 8) (pr 3).length (some (loc11 (9 + 4 * j)))) := hfn
        obtain ⟨Kf, eKf⟩ : ∃ K, K = (mu_sr (mu_si (mu_sr K11 (loc11 7) (pr 3).length (some ty)) mp 15 (nI ((pr 3).length + 1))) (loc11 8) (pr 3).length (some (loc11 (9 + 4 * j)))) := ⟨_, rfl⟩
        rw [← eKf] at hfn ⊢
        rw [show (some (loc11 (9 + 4 * j))) = some ip by rw [hip4]]
        show mu_W _ mu_m458 (644, [(6, .inr (.inr (some p))), (5, .inl (nI k)), (4, .inr (.inr (some ip))), (1, .inr (.inr (some m))), (0, .inr (.inr (some 169)))], [], Kf) _
        refine mw_go mu_g458 (k := 2) (f1 := (409, [(5, .inl ((nI k) + 1)), (6, .inr (.inr (some p))), (4, .inr (.inr (some ip))), (1, .inr (.inr (some m))), (0, .inr (.inr (some 169)))], [], Kf)) (C := []) rfl trivial ?_
        refine mw_sub (L' := [(5, .inl (nI (k + 1))), (4, .inr (.inr (some ip))), (1, .inr (.inr (some m))), (0, .inr (.inr (some 169)))]) (by intro x hx; simp only [List.mem_cons, List.not_mem_nil, or_false] at hx ⊢; rcases hx with rfl | rfl | rfl | rfl <;> simp [nI_add, show (1 : Int32) = nI 1 from rfl]) ?_
        exact rp_in3 hm0 hw hF hj hQ hfin m_ (k + 1) _ _ _ (by omega) hfn hip4 (fun s hs => (ag s hs).trans (hag s hs)) (by rw [plx_up (by decide)]; omega) (by rw [spl, if_neg ek7, if_pos ek8] at hpe; exact hpe)
    · -- 443
      have ek7 : tkd (nth y.2.2 k) = 38 := Decidable.byContradiction (fun e => hi7 (if_neg e))
      have hpl := plx_le (pr := pr) (k := 2) (by decide)
      refine mw_go mu_g458 (k := 2) (f1 := (447, [(6, .inr (.inr (some p))), (5, .inl (nI k)), (4, .inr (.inr (some ip))), (1, .inr (.inr (some m))), (0, .inr (.inr (some 169)))], [.inr (.inr (mu_r H 169 18))], H)) (C := [mu_is H (some 169) 1]) rfl (show mu_is H (some 169) 1 from h.rz.2.2.2.2) ?_
      refine mw_fr (f' := (447, [(6, .inr (.inr (some p))), (5, .inl (nI k)), (4, .inr (.inr (some ip))), (1, .inr (.inr (some m))), (0, .inr (.inr (some 169)))], [.inr (.inr (some mp))], H)) (by first | (rw [m18_6]; done) | (rw [m18_6]; rfl)) ?_
      refine mw_go mu_g458 (k := 2) (f1 := (451, [(6, .inr (.inr (some p))), (5, .inl (nI k)), (4, .inr (.inr (some ip))), (1, .inr (.inr (some m))), (0, .inr (.inr (some 169)))], [.inr (.inr (mu_r H 169 18)), .inr (.inr (some mp))], H)) (C := [mu_is H (some 169) 1]) rfl (show mu_is H (some 169) 1 from h.rz.2.2.2.2) ?_
      refine mw_fr (f' := (451, [(6, .inr (.inr (some p))), (5, .inl (nI k)), (4, .inr (.inr (some ip))), (1, .inr (.inr (some m))), (0, .inr (.inr (some 169)))], [.inr (.inr (some mp)), .inr (.inr (some mp))], H)) (by first | (rw [m18_6]; done) | (rw [m18_6]; rfl)) ?_
      refine mw_go mu_g458 (k := 1) (f1 := (454, [(6, .inr (.inr (some p))), (5, .inl (nI k)), (4, .inr (.inr (some ip))), (1, .inr (.inr (some m))), (0, .inr (.inr (some 169)))], [.inr (.inr (mu_r H mp 10)), .inr (.inr (some mp))], H)) (C := [mu_is H (some mp) 16]) rfl (show mu_is H (some mp) 16 from h.2.1.1.1) ?_
      refine mw_fr (f' := (454, [(6, .inr (.inr (some p))), (5, .inl (nI k)), (4, .inr (.inr (some ip))), (1, .inr (.inr (some m))), (0, .inr (.inr (some 169)))], [.inr (.inr (some (loc 5))), .inr (.inr (some mp))], H)) (by first | (rw [mN2_6]; done) | (rw [mN2_6]; rfl)) ?_
      refine mw_go mu_g458 (k := 2) (f1 := (458, [(6, .inr (.inr (some p))), (5, .inl (nI k)), (4, .inr (.inr (some ip))), (1, .inr (.inr (some m))), (0, .inr (.inr (some 169)))], [.inr (.inr (mu_r H 169 18)), .inr (.inr (some (loc 5))), .inr (.inr (some mp))], H)) (C := [mu_is H (some 169) 1]) rfl (show mu_is H (some 169) 1 from h.rz.2.2.2.2) ?_
      refine mw_fr (f' := (458, [(6, .inr (.inr (some p))), (5, .inl (nI k)), (4, .inr (.inr (some ip))), (1, .inr (.inr (some m))), (0, .inr (.inr (some 169)))], [.inr (.inr (some mp)), .inr (.inr (some (loc 5))), .inr (.inr (some mp))], H)) (by first | (rw [m18_6]; done) | (rw [m18_6]; rfl)) ?_
      refine mw_go mu_g458 (k := 1) (f1 := (461, [(6, .inr (.inr (some p))), (5, .inl (nI k)), (4, .inr (.inr (some ip))), (1, .inr (.inr (some m))), (0, .inr (.inr (some 169)))], [.inl (mu_i H mp 12), .inr (.inr (some (loc 5))), .inr (.inr (some mp))], H)) (C := [mu_is H (some mp) 16]) rfl (show mu_is H (some mp) 16 from h.2.1.1.1) ?_
      refine mw_fr (f' := (461, [(6, .inr (.inr (some p))), (5, .inl (nI k)), (4, .inr (.inr (some ip))), (1, .inr (.inr (some m))), (0, .inr (.inr (some 169)))], [.inl (nI (pr 2).length), .inr (.inr (some (loc 5))), .inr (.inr (some mp))], H)) (by first | (rw [mC2_6]; done) | (rw [mC2_6]; rfl)) ?_
      have wr13 := (h.2.1.2.2.2.1 2 (by decide)).2.1
      have wl13 : (pr 2).length ≤ mu_n H (loc 5) ∧ 16 ≤ mu_n H (loc 5) ∧ mu_n H (loc 5) ≤ 2 * (pr 2).length + 64 := wr13.2.1
      have el13 : (pr 2).length = mu_n H (loc 5) → ∀ i, i < mu_n H (loc 5) → mu_is H (mu_r H (loc 5) i) 18 := fun e i hi => by
          obtain ⟨q9, q1, q2⟩ := wr13.2.2 i (by rw [e]; exact hi)
          rw [show mu_r H (loc 5) i = some q9 from q1]
          exact q2.is.1
      refine mw_cA (fun _ => rfl) trivial (rp_moreN (cap := mu_n H (loc 5)) wr13.1 rfl (by omega) wl13.1 el13 (by omega)) (fun y13 H13 q13 => ?_)
      obtain ⟨loc13, pp13, rfl, e13, ag13, hb13, ll13, nl13, zl13⟩ := h.mrN (k := 2) (by decide) (by omega) q13
      have e13 : loc13 5 = pp13 := e13
      subst e13
      have hb13 : bmk T n0 t dep F lv r ms cap sy Hb mp A B loc13 n Iv pr en (mu_sr H13 mp 10 (some (loc13 5))) := hb13
      have ll13 : (pr 2).length < mu_n (mu_sr H13 mp 10 (some (loc13 5))) (loc13 5) := ll13
      have nl13 : ∀ s, s < 9 + 4 * n → mu_n (mu_sr H13 mp 10 (some (loc13 5))) (loc s) = mu_n H (loc s) := nl13
      have zl13 : mu_z (mu_sr H13 mp 10 (some (loc13 5))) ≤ mu_z H + 1 := zl13
      show mu_W _ mu_m458 (464, [(6, .inr (.inr (some p))), (5, .inl (nI k)), (4, .inr (.inr (some ip))), (1, .inr (.inr (some m))), (0, .inr (.inr (some 169)))], [.inr (.inr (some (loc13 5))), .inr (.inr (some mp))], H13) _
      refine mw_go mu_g458 (k := 1) (f1 := (467, [(6, .inr (.inr (some p))), (5, .inl (nI k)), (4, .inr (.inr (some ip))), (1, .inr (.inr (some m))), (0, .inr (.inr (some 169)))], [], (mu_sr H13 mp 10 (some (loc13 5))))) (C := [mu_is H13 (some mp) 16]) rfl (show mu_is H13 (some mp) 16 from (show mu_is H13 (some mp) 16 from hb13.2.1.1.1)) ?_
      obtain ⟨K13, eK13⟩ : ∃ K, K = (mu_sr H13 mp 10 (some (loc13 5))) := ⟨_, rfl⟩
      rw [← eK13] at hb13 ll13 nl13 zl13 ⊢
      clear eK13
      have m18_14 : mu_r K13 169 18 = some mp := hb13.2.1.1.2.2
      have m0_14 : mu_r K13 mp 0 = some (loc13 0) := hb13.2.1.2.1.1
      have m1_14 : mu_i K13 mp 1 = nI n := hb13.2.1.2.1.2.1
      have m2_14 : mu_i K13 mp 2 = nI en := hb13.2.1.2.1.2.2
      have mN0_14 : mu_r K13 mp 7 = some (loc13 1) := (hb13.2.1.2.2.2.1 0 (by decide)).1.1
      have mI0_14 : mu_r K13 mp 8 = some (loc13 2) := (hb13.2.1.2.2.2.1 0 (by decide)).1.2.1
      have mC0_14 : mu_i K13 mp 9 = nI (pr 0).length := (hb13.2.1.2.2.2.1 0 (by decide)).1.2.2
      have mN1_14 : mu_r K13 mp 4 = some (loc13 3) := (hb13.2.1.2.2.2.1 1 (by decide)).1.1
      have mI1_14 : mu_r K13 mp 3 = some (loc13 4) := (hb13.2.1.2.2.2.1 1 (by decide)).1.2.1
      have mC1_14 : mu_i K13 mp 5 = nI (pr 1).length := (hb13.2.1.2.2.2.1 1 (by decide)).1.2.2
      have mN2_14 : mu_r K13 mp 10 = some (loc13 5) := (hb13.2.1.2.2.2.1 2 (by decide)).1.1
      have mI2_14 : mu_r K13 mp 11 = some (loc13 6) := (hb13.2.1.2.2.2.1 2 (by decide)).1.2.1
      have mC2_14 : mu_i K13 mp 12 = nI (pr 2).length := (hb13.2.1.2.2.2.1 2 (by decide)).1.2.2
      have mN3_14 : mu_r K13 mp 13 = some (loc13 7) := (hb13.2.1.2.2.2.1 3 (by decide)).1.1
      have mI3_14 : mu_r K13 mp 14 = some (loc13 8) := (hb13.2.1.2.2.2.1 3 (by decide)).1.2.1
      have mC3_14 : mu_i K13 mp 15 = nI (pr 3).length := (hb13.2.1.2.2.2.1 3 (by decide)).1.2.2
      have rz14 := hb13.rz
      refine mw_go mu_g458 (k := 2) (f1 := (471, [(6, .inr (.inr (some p))), (5, .inl (nI k)), (4, .inr (.inr (some ip))), (1, .inr (.inr (some m))), (0, .inr (.inr (some 169)))], [.inr (.inr (mu_r K13 169 18))], K13)) (C := [mu_is K13 (some 169) 1]) rfl (show mu_is K13 (some 169) 1 from hb13.rz.2.2.2.2) ?_
      refine mw_fr (f' := (471, [(6, .inr (.inr (some p))), (5, .inl (nI k)), (4, .inr (.inr (some ip))), (1, .inr (.inr (some m))), (0, .inr (.inr (some 169)))], [.inr (.inr (some mp))], K13)) (by first | (rw [m18_14]; done) | (rw [m18_14]; rfl)) ?_
      refine mw_go mu_g458 (k := 2) (f1 := (475, [(6, .inr (.inr (some p))), (5, .inl (nI k)), (4, .inr (.inr (some ip))), (1, .inr (.inr (some m))), (0, .inr (.inr (some 169)))], [.inr (.inr (mu_r K13 169 18)), .inr (.inr (some mp))], K13)) (C := [mu_is K13 (some 169) 1]) rfl (show mu_is K13 (some 169) 1 from hb13.rz.2.2.2.2) ?_
      refine mw_fr (f' := (475, [(6, .inr (.inr (some p))), (5, .inl (nI k)), (4, .inr (.inr (some ip))), (1, .inr (.inr (some m))), (0, .inr (.inr (some 169)))], [.inr (.inr (some mp)), .inr (.inr (some mp))], K13)) (by first | (rw [m18_14]; done) | (rw [m18_14]; rfl)) ?_
      refine mw_go mu_g458 (k := 1) (f1 := (478, [(6, .inr (.inr (some p))), (5, .inl (nI k)), (4, .inr (.inr (some ip))), (1, .inr (.inr (some m))), (0, .inr (.inr (some 169)))], [.inr (.inr (mu_r K13 mp 11)), .inr (.inr (some mp))], K13)) (C := [mu_is K13 (some mp) 16]) rfl (show mu_is K13 (some mp) 16 from hb13.2.1.1.1) ?_
      refine mw_fr (f' := (478, [(6, .inr (.inr (some p))), (5, .inl (nI k)), (4, .inr (.inr (some ip))), (1, .inr (.inr (some m))), (0, .inr (.inr (some 169)))], [.inr (.inr (some (loc13 6))), .inr (.inr (some mp))], K13)) (by first | (rw [mI2_14]; done) | (rw [mI2_14]; rfl)) ?_
      refine mw_go mu_g458 (k := 2) (f1 := (482, [(6, .inr (.inr (some p))), (5, .inl (nI k)), (4, .inr (.inr (some ip))), (1, .inr (.inr (some m))), (0, .inr (.inr (some 169)))], [.inr (.inr (mu_r K13 169 18)), .inr (.inr (some (loc13 6))), .inr (.inr (some mp))], K13)) (C := [mu_is K13 (some 169) 1]) rfl (show mu_is K13 (some 169) 1 from hb13.rz.2.2.2.2) ?_
      refine mw_fr (f' := (482, [(6, .inr (.inr (some p))), (5, .inl (nI k)), (4, .inr (.inr (some ip))), (1, .inr (.inr (some m))), (0, .inr (.inr (some 169)))], [.inr (.inr (some mp)), .inr (.inr (some (loc13 6))), .inr (.inr (some mp))], K13)) (by first | (rw [m18_14]; done) | (rw [m18_14]; rfl)) ?_
      refine mw_go mu_g458 (k := 1) (f1 := (485, [(6, .inr (.inr (some p))), (5, .inl (nI k)), (4, .inr (.inr (some ip))), (1, .inr (.inr (some m))), (0, .inr (.inr (some 169)))], [.inl (mu_i K13 mp 12), .inr (.inr (some (loc13 6))), .inr (.inr (some mp))], K13)) (C := [mu_is K13 (some mp) 16]) rfl (show mu_is K13 (some mp) 16 from hb13.2.1.1.1) ?_
      refine mw_fr (f' := (485, [(6, .inr (.inr (some p))), (5, .inl (nI k)), (4, .inr (.inr (some ip))), (1, .inr (.inr (some m))), (0, .inr (.inr (some 169)))], [.inl (nI (pr 2).length), .inr (.inr (some (loc13 6))), .inr (.inr (some mp))], K13)) (by first | (rw [mC2_14]; done) | (rw [mC2_14]; rfl)) ?_
      have wr15 := (hb13.2.1.2.2.2.1 2 (by decide)).2.2
      have wl15 : (pr 2).length ≤ mu_n K13 (loc13 6) ∧ 16 ≤ mu_n K13 (loc13 6) ∧ mu_n K13 (loc13 6) ≤ 2 * (pr 2).length + 64 := wr15.2.1
      have el15 : (pr 2).length = mu_n K13 (loc13 6) → ∀ i, i < mu_n K13 (loc13 6) → mu_is K13 (mu_r K13 (loc13 6) i) 15 := fun e i hi => by
          have z9 := wr15.2.2 i (by rw [e]; exact hi)
          rw [show mu_r K13 (loc13 6) i = _ from z9.1]
          exact (hb13.2.1.2.2.2.2.1 _ z9.2).1
      refine mw_cA (fun _ => rfl) trivial (rp_moreI (cap := mu_n K13 (loc13 6)) wr15.1 rfl (by omega) wl15.1 el15 (by omega)) (fun y15 H15 q15 => ?_)
      obtain ⟨loc15, pp15, rfl, e15, ag15, hb15, ll15, nl15, zl15⟩ := hb13.mrI (k := 2) (by decide) (by omega) q15
      have e15 : loc15 6 = pp15 := e15
      subst e15
      have hb15 : bmk T n0 t dep F lv r ms cap sy Hb mp A B loc15 n Iv pr en (mu_sr H15 mp 11 (some (loc15 6))) := hb15
      have ll15 : (pr 2).length < mu_n (mu_sr H15 mp 11 (some (loc15 6))) (loc15 6) := ll15
      have nl15 : ∀ s, s < 9 + 4 * n → mu_n (mu_sr H15 mp 11 (some (loc15 6))) (loc13 s) = mu_n K13 (loc13 s) := nl15
      have zl15 : mu_z (mu_sr H15 mp 11 (some (loc15 6))) ≤ mu_z K13 + 1 := zl15
      show mu_W _ mu_m458 (488, [(6, .inr (.inr (some p))), (5, .inl (nI k)), (4, .inr (.inr (some ip))), (1, .inr (.inr (some m))), (0, .inr (.inr (some 169)))], [.inr (.inr (some (loc15 6))), .inr (.inr (some mp))], H15) _
      refine mw_go mu_g458 (k := 1) (f1 := (491, [(6, .inr (.inr (some p))), (5, .inl (nI k)), (4, .inr (.inr (some ip))), (1, .inr (.inr (some m))), (0, .inr (.inr (some 169)))], [], (mu_sr H15 mp 11 (some (loc15 6))))) (C := [mu_is H15 (some mp) 16]) rfl (show mu_is H15 (some mp) 16 from (show mu_is H15 (some mp) 16 from hb15.2.1.1.1)) ?_
      obtain ⟨K15, eK15⟩ : ∃ K, K = (mu_sr H15 mp 11 (some (loc15 6))) := ⟨_, rfl⟩
      rw [← eK15] at hb15 ll15 nl15 zl15 ⊢
      clear eK15
      have m18_16 : mu_r K15 169 18 = some mp := hb15.2.1.1.2.2
      have m0_16 : mu_r K15 mp 0 = some (loc15 0) := hb15.2.1.2.1.1
      have m1_16 : mu_i K15 mp 1 = nI n := hb15.2.1.2.1.2.1
      have m2_16 : mu_i K15 mp 2 = nI en := hb15.2.1.2.1.2.2
      have mN0_16 : mu_r K15 mp 7 = some (loc15 1) := (hb15.2.1.2.2.2.1 0 (by decide)).1.1
      have mI0_16 : mu_r K15 mp 8 = some (loc15 2) := (hb15.2.1.2.2.2.1 0 (by decide)).1.2.1
      have mC0_16 : mu_i K15 mp 9 = nI (pr 0).length := (hb15.2.1.2.2.2.1 0 (by decide)).1.2.2
      have mN1_16 : mu_r K15 mp 4 = some (loc15 3) := (hb15.2.1.2.2.2.1 1 (by decide)).1.1
      have mI1_16 : mu_r K15 mp 3 = some (loc15 4) := (hb15.2.1.2.2.2.1 1 (by decide)).1.2.1
      have mC1_16 : mu_i K15 mp 5 = nI (pr 1).length := (hb15.2.1.2.2.2.1 1 (by decide)).1.2.2
      have mN2_16 : mu_r K15 mp 10 = some (loc15 5) := (hb15.2.1.2.2.2.1 2 (by decide)).1.1
      have mI2_16 : mu_r K15 mp 11 = some (loc15 6) := (hb15.2.1.2.2.2.1 2 (by decide)).1.2.1
      have mC2_16 : mu_i K15 mp 12 = nI (pr 2).length := (hb15.2.1.2.2.2.1 2 (by decide)).1.2.2
      have mN3_16 : mu_r K15 mp 13 = some (loc15 7) := (hb15.2.1.2.2.2.1 3 (by decide)).1.1
      have mI3_16 : mu_r K15 mp 14 = some (loc15 8) := (hb15.2.1.2.2.2.1 3 (by decide)).1.2.1
      have mC3_16 : mu_i K15 mp 15 = nI (pr 3).length := (hb15.2.1.2.2.2.1 3 (by decide)).1.2.2
      have rz16 := hb15.rz
      have dif := hb15.dif (k := 2) (by decide)
      have hlN : (pr 2).length < mu_n K15 (loc15 5) := by
        have e1 : loc15 5 = loc13 5 := ag15 5 (by decide)
        rw [e1, nl15 5 (by omega)]; exact ll13
      have hlI : (pr 2).length < mu_n K15 (loc15 6) := ll15
      have bN : _ ∧ _ ∧ mu_n K15 (loc15 5) ≤ 2 * (pr 2).length + 64 := (hb15.2.1.2.2.2.1 2 (by decide)).2.1.2.1
      have bI2 : _ ∧ _ ∧ mu_n K15 (loc15 6) ≤ 2 * (pr 2).length + 64 := (hb15.2.1.2.2.2.1 2 (by decide)).2.2.2.1
      have ag : ∀ s, 9 ≤ s → loc15 s = loc s := fun s hs => (ag15 s (by omega)).trans (ag13 s (by omega))
      have hq4 : nd K15 F lv ty (tkk (nth y.2.2 k) 0) := (hb15.ndk yn5 hF).le (by omega)
      have hip4 : loc15 (9 + 4 * j) = ip := (ag _ (by omega)).trans hip
      refine mw_go mu_g458 (k := 2) (f1 := (495, [(6, .inr (.inr (some p))), (5, .inl (nI k)), (4, .inr (.inr (some ip))), (1, .inr (.inr (some m))), (0, .inr (.inr (some 169)))], [.inr (.inr (mu_r K15 169 18))], K15)) (C := [mu_is K15 (some 169) 1]) rfl (show mu_is K15 (some 169) 1 from hb15.rz.2.2.2.2) ?_
      refine mw_fr (f' := (495, [(6, .inr (.inr (some p))), (5, .inl (nI k)), (4, .inr (.inr (some ip))), (1, .inr (.inr (some m))), (0, .inr (.inr (some 169)))], [.inr (.inr (some mp))], K15)) (by first | (rw [m18_16]; done) | (rw [m18_16]; rfl)) ?_
      refine mw_go mu_g458 (k := 1) (f1 := (498, [(6, .inr (.inr (some p))), (5, .inl (nI k)), (4, .inr (.inr (some ip))), (1, .inr (.inr (some m))), (0, .inr (.inr (some 169)))], [.inr (.inr (mu_r K15 mp 10))], K15)) (C := [mu_is K15 (some mp) 16]) rfl (show mu_is K15 (some mp) 16 from hb15.2.1.1.1) ?_
      refine mw_fr (f' := (498, [(6, .inr (.inr (some p))), (5, .inl (nI k)), (4, .inr (.inr (some ip))), (1, .inr (.inr (some m))), (0, .inr (.inr (some 169)))], [.inr (.inr (some (loc15 5)))], K15)) (by first | (rw [mN2_16]; done) | (rw [mN2_16]; rfl)) ?_
      refine mw_go mu_g458 (k := 2) (f1 := (502, [(6, .inr (.inr (some p))), (5, .inl (nI k)), (4, .inr (.inr (some ip))), (1, .inr (.inr (some m))), (0, .inr (.inr (some 169)))], [.inr (.inr (mu_r K15 169 18)), .inr (.inr (some (loc15 5)))], K15)) (C := [mu_is K15 (some 169) 1]) rfl (show mu_is K15 (some 169) 1 from hb15.rz.2.2.2.2) ?_
      refine mw_fr (f' := (502, [(6, .inr (.inr (some p))), (5, .inl (nI k)), (4, .inr (.inr (some ip))), (1, .inr (.inr (some m))), (0, .inr (.inr (some 169)))], [.inr (.inr (some mp)), .inr (.inr (some (loc15 5)))], K15)) (by first | (rw [m18_16]; done) | (rw [m18_16]; rfl)) ?_
      refine mw_go mu_g458 (k := 1) (f1 := (505, [(6, .inr (.inr (some p))), (5, .inl (nI k)), (4, .inr (.inr (some ip))), (1, .inr (.inr (some m))), (0, .inr (.inr (some 169)))], [.inl (mu_i K15 mp 12), .inr (.inr (some (loc15 5)))], K15)) (C := [mu_is K15 (some mp) 16]) rfl (show mu_is K15 (some mp) 16 from hb15.2.1.1.1) ?_
      refine mw_fr (f' := (505, [(6, .inr (.inr (some p))), (5, .inl (nI k)), (4, .inr (.inr (some ip))), (1, .inr (.inr (some m))), (0, .inr (.inr (some 169)))], [.inl (nI (pr 2).length), .inr (.inr (some (loc15 5)))], K15)) (by first | (rw [mC2_16]; done) | (rw [mC2_16]; rfl)) ?_
      refine mw_go mu_g458 (k := 2) (f1 := (510, [(6, .inr (.inr (some p))), (5, .inl (nI k)), (4, .inr (.inr (some ip))), (1, .inr (.inr (some m))), (0, .inr (.inr (some 169)))], [.inr (.inr (mu_r K15 p 1)), .inl (nI (pr 2).length), .inr (.inr (some (loc15 5)))], K15)) (C := [mu_is K15 (some p) 18]) rfl (show mu_is K15 (some p) 18 from ((hb15.2.2.2.1).is is4 (fun z => absurd z.1 (Nat.not_le.mpr is4.2.1)))) ?_
      refine mw_fr (f' := (510, [(6, .inr (.inr (some p))), (5, .inl (nI k)), (4, .inr (.inr (some ip))), (1, .inr (.inr (some m))), (0, .inr (.inr (some 169)))], [.inr (.inr (some ar4)), .inl (nI (pr 2).length), .inr (.inr (some (loc15 5)))], K15)) (by first | (rw [(((hb15.2.2.2.1).r (p := p) (Or.inl is4.2.1) (fun z => absurd z.1 (Nat.not_le.mpr is4.2.1)) _).trans aq4)]; done) | (rw [(((hb15.2.2.2.1).r (p := p) (Or.inl is4.2.1) (fun z => absurd z.1 (Nat.not_le.mpr is4.2.1)) _).trans aq4)]; rfl)) ?_
      refine mw_go mu_g458 (k := 2) (f1 := (512, [(6, .inr (.inr (some p))), (5, .inl (nI k)), (4, .inr (.inr (some ip))), (1, .inr (.inr (some m))), (0, .inr (.inr (some 169)))], [.inr (.inr (mu_r K15 ar4 (0 : Int32).toNatClampNeg)), .inl (nI (pr 2).length), .inr (.inr (some (loc15 5)))], K15)) (C := [mu_is K15 (some ar4) (mu_k K15 ar4), 103 ≤ mu_k K15 ar4 ∧ mu_k K15 ar4 ≤ 110 ∧ mu_k K15 ar4 ≠ 108, vp_in (0 : Int32) (mu_n K15 ar4)]) rfl (show (mu_is K15 (some ar4) (mu_k K15 ar4)) ∧ (103 ≤ mu_k K15 ar4 ∧ mu_k K15 ar4 ≤ 110 ∧ mu_k K15 ar4 ≠ 108) ∧ (vp_in (0 : Int32) (mu_n K15 ar4)) from ⟨⟨rfl, Nat.lt_of_lt_of_le ai4.2.1 (hb15.2.2.2.1).1, rfl⟩, (by rw [(hb15.2.2.2.1).k (p := ar4) (Or.inl ai4.2.1) (fun z => absurd z.1 (Nat.not_le.mpr ai4.2.1))]; exact b2_5), (by rw [(hb15.2.2.2.1).len (p := ar4) (Or.inl ai4.2.1) (fun z => absurd z.1 (Nat.not_le.mpr ai4.2.1))]; exact b3_5)⟩) ?_
      refine mw_fr (f' := (512, [(6, .inr (.inr (some p))), (5, .inl (nI k)), (4, .inr (.inr (some ip))), (1, .inr (.inr (some m))), (0, .inr (.inr (some 169)))], [.inr (.inr (some ty)), .inl (nI (pr 2).length), .inr (.inr (some (loc15 5)))], K15)) (by first | (rw [(((hb15.2.2.2.1).r (p := ar4) (Or.inl ai4.2.1) (fun z => absurd z.1 (Nat.not_le.mpr ai4.2.1)) _).trans y2_5)]; done) | (rw [(((hb15.2.2.2.1).r (p := ar4) (Or.inl ai4.2.1) (fun z => absurd z.1 (Nat.not_le.mpr ai4.2.1)) _).trans y2_5)]; rfl)) ?_
      refine mw_aastO (t := 9) (ct := 18) rfl (hb15.2.1.2.2.2.1 2 (by decide)).2.1.1 hq4.is.1 (by decide) (show vp_in (nI (pr 2).length) (mu_n K15 (loc15 5)) from vp_in_nI hlN (by omega)) ?_
      rw [show mu_p (some (loc15 5)) = loc15 5 from rfl, nI_clamp (show (pr 2).length < 2 ^ 31 by omega)]
      show mu_W _ mu_m458 (513, [(6, .inr (.inr (some p))), (5, .inl (nI k)), (4, .inr (.inr (some ip))), (1, .inr (.inr (some m))), (0, .inr (.inr (some 169)))], [], (mu_sr K15 (loc15 5) (pr 2).length (some ty))) _
      have a18 : mu_r (mu_sr K15 (loc15 5) (pr 2).length (some ty)) 169 18 = some mp := by rw [mu_r_sr, if_neg (fun z => dif.2.2.2.1 z.1.symm)]; exact hb15.2.1.1.2.2
      have aI : mu_r (mu_sr K15 (loc15 5) (pr 2).length (some ty)) mp 11 = some (loc15 6) := by rw [mu_r_sr, if_neg (fun z => dif.2.1 z.1.symm)]; exact (hb15.2.1.2.2.2.1 2 (by decide)).1.2.1
      have aC : mu_i K15 mp 12 = nI (pr 2).length := (hb15.2.1.2.2.2.1 2 (by decide)).1.2.2
      have e1 : nI (pr 2).length + (1 : Int32) = nI ((pr 2).length + 1) := nI_add _ _
      refine mw_go mu_g458 (k := 2) (f1 := (517, [(6, .inr (.inr (some p))), (5, .inl (nI k)), (4, .inr (.inr (some ip))), (1, .inr (.inr (some m))), (0, .inr (.inr (some 169)))], [.inr (.inr (mu_r (mu_sr K15 (loc15 5) (pr 2).length (some ty)) 169 18))], (mu_sr K15 (loc15 5) (pr 2).length (some ty)))) (C := [mu_is K15 (some 169) 1]) rfl (show mu_is K15 (some 169) 1 from hb15.rz.2.2.2.2) ?_
      refine mw_fr (f' := (517, [(6, .inr (.inr (some p))), (5, .inl (nI k)), (4, .inr (.inr (some ip))), (1, .inr (.inr (some m))), (0, .inr (.inr (some 169)))], [.inr (.inr (some mp))], (mu_sr K15 (loc15 5) (pr 2).length (some ty)))) (by first | (rw [a18]; done) | (rw [a18]; rfl)) ?_
      refine mw_go mu_g458 (k := 1) (f1 := (520, [(6, .inr (.inr (some p))), (5, .inl (nI k)), (4, .inr (.inr (some ip))), (1, .inr (.inr (some m))), (0, .inr (.inr (some 169)))], [.inr (.inr (mu_r (mu_sr K15 (loc15 5) (pr 2).length (some ty)) mp 11))], (mu_sr K15 (loc15 5) (pr 2).length (some ty)))) (C := [mu_is K15 (some mp) 16]) rfl (show mu_is K15 (some mp) 16 from hb15.2.1.1.1) ?_
      refine mw_fr (f' := (520, [(6, .inr (.inr (some p))), (5, .inl (nI k)), (4, .inr (.inr (some ip))), (1, .inr (.inr (some m))), (0, .inr (.inr (some 169)))], [.inr (.inr (some (loc15 6)))], (mu_sr K15 (loc15 5) (pr 2).length (some ty)))) (by first | (rw [aI]; done) | (rw [aI]; rfl)) ?_
      refine mw_go mu_g458 (k := 2) (f1 := (524, [(6, .inr (.inr (some p))), (5, .inl (nI k)), (4, .inr (.inr (some ip))), (1, .inr (.inr (some m))), (0, .inr (.inr (some 169)))], [.inr (.inr (mu_r (mu_sr K15 (loc15 5) (pr 2).length (some ty)) 169 18)), .inr (.inr (some (loc15 6)))], (mu_sr K15 (loc15 5) (pr 2).length (some ty)))) (C := [mu_is K15 (some 169) 1]) rfl (show mu_is K15 (some 169) 1 from hb15.rz.2.2.2.2) ?_
      refine mw_fr (f' := (524, [(6, .inr (.inr (some p))), (5, .inl (nI k)), (4, .inr (.inr (some ip))), (1, .inr (.inr (some m))), (0, .inr (.inr (some 169)))], [.inr (.inr (some mp)), .inr (.inr (some (loc15 6)))], (mu_sr K15 (loc15 5) (pr 2).length (some ty)))) (by first | (rw [a18]; done) | (rw [a18]; rfl)) ?_
      refine mw_go mu_g458 (k := 2) (f1 := (528, [(6, .inr (.inr (some p))), (5, .inl (nI k)), (4, .inr (.inr (some ip))), (1, .inr (.inr (some m))), (0, .inr (.inr (some 169)))], [.inl (mu_i K15 mp 12), .inr (.inr (some mp)), .inr (.inr (some (loc15 6)))], (mu_sr K15 (loc15 5) (pr 2).length (some ty)))) (C := [mu_is K15 (some mp) 16]) rfl (show mu_is K15 (some mp) 16 from hb15.2.1.1.1) ?_
      refine mw_fr (f' := (528, [(6, .inr (.inr (some p))), (5, .inl (nI k)), (4, .inr (.inr (some ip))), (1, .inr (.inr (some m))), (0, .inr (.inr (some 169)))], [.inl (nI (pr 2).length), .inr (.inr (some mp)), .inr (.inr (some (loc15 6)))], (mu_sr K15 (loc15 5) (pr 2).length (some ty)))) (by first | (rw [aC]; done) | (rw [aC]; rfl)) ?_
      refine mw_go mu_g458 (k := 3) (f1 := (531, [(6, .inr (.inr (some p))), (5, .inl (nI k)), (4, .inr (.inr (some ip))), (1, .inr (.inr (some m))), (0, .inr (.inr (some 169)))], [.inl ((nI (pr 2).length) + (1 : Int32)), .inr (.inr (some mp)), .inl (nI (pr 2).length), .inr (.inr (some (loc15 6)))], (mu_sr K15 (loc15 5) (pr 2).length (some ty)))) (C := []) rfl trivial ?_
      refine mw_fr (f' := (531, [(6, .inr (.inr (some p))), (5, .inl (nI k)), (4, .inr (.inr (some ip))), (1, .inr (.inr (some m))), (0, .inr (.inr (some 169)))], [.inl (nI ((pr 2).length + 1)), .inr (.inr (some mp)), .inl (nI (pr 2).length), .inr (.inr (some (loc15 6)))], (mu_sr K15 (loc15 5) (pr 2).length (some ty)))) (by first | (rw [e1]; done) | (rw [e1]; rfl)) ?_
      refine mw_go mu_g458 (k := 2) (f1 := (536, [(6, .inr (.inr (some p))), (5, .inl (nI k)), (4, .inr (.inr (some ip))), (1, .inr (.inr (some m))), (0, .inr (.inr (some 169)))], [.inr (.inr (some ip)), .inl (nI (pr 2).length), .inr (.inr (some (loc15 6)))], (mu_si (mu_sr K15 (loc15 5) (pr 2).length (some ty)) mp 12 (nI ((pr 2).length + 1))))) (C := [mu_is K15 (some mp) 16]) rfl (show mu_is K15 (some mp) 16 from hb15.2.1.1.1) ?_
      rw [show (some ip) = some (loc15 (9 + 4 * j)) by rw [hip4]]
      refine mw_aastO (t := 10) (ct := 15) rfl (show mu_is K15 (some (loc15 6)) 110 from (hb15.2.1.2.2.2.1 2 (by decide)).2.2.1) (show mu_is K15 (some (loc15 (9 + 4 * j))) 15 from (hb15.2.1.2.2.2.2.1 j hj).1) (by decide) (show vp_in (nI (pr 2).length) (mu_n K15 (loc15 6)) from vp_in_nI hlI (by omega)) ?_
      rw [show mu_p (some (loc15 6)) = loc15 6 from rfl, nI_clamp (show (pr 2).length < 2 ^ 31 by omega)]
      have hfn := hb15.pushG (k := 2) (q := ty) (i := j) (c := tkk (nth y.2.2 k) 0) (by decide) hlN hlI hq4 hj (psd.nci (H := K15) ⟨dif.1, dif.2.1, dif.2.2.1⟩)
      have hfn : bmk T n0 t dep F lv r ms cap sy Hb mp A B loc15 n Iv (pup pr 2 (pr 2 ++ [(tkk (nth y.2.2 k) 0, j)])) en (mu_sr (mu_si (mu_sr K15 (loc15 5) (pr 2).length (some ty)) mp 12 (nI ((pr 2).length + 1))) (loc15 6) (pr 2).length (some (loc15 (9 + 4 * j)))) := hfn
      obtain ⟨Kf, eKf⟩ : ∃ K, K = (mu_sr (mu_si (mu_sr K15 (loc15 5) (pr 2).length (some ty)) mp 12 (nI ((pr 2).length + 1))) (loc15 6) (pr 2).length (some (loc15 (9 + 4 * j)))) := ⟨_, rfl⟩
      rw [← eKf] at hfn ⊢
      rw [show (some (loc15 (9 + 4 * j))) = some ip by rw [hip4]]
      show mu_W _ mu_m458 (537, [(6, .inr (.inr (some p))), (5, .inl (nI k)), (4, .inr (.inr (some ip))), (1, .inr (.inr (some m))), (0, .inr (.inr (some 169)))], [], Kf) _
      refine mw_go mu_g458 (k := 3) (f1 := (409, [(5, .inl ((nI k) + 1)), (6, .inr (.inr (some p))), (4, .inr (.inr (some ip))), (1, .inr (.inr (some m))), (0, .inr (.inr (some 169)))], [], Kf)) (C := []) rfl trivial ?_
      refine mw_sub (L' := [(5, .inl (nI (k + 1))), (4, .inr (.inr (some ip))), (1, .inr (.inr (some m))), (0, .inr (.inr (some 169)))]) (by intro x hx; simp only [List.mem_cons, List.not_mem_nil, or_false] at hx ⊢; rcases hx with rfl | rfl | rfl | rfl <;> simp [nI_add, show (1 : Int32) = nI 1 from rfl]) ?_
      exact rp_in3 hm0 hw hF hj hQ hfin m_ (k + 1) _ _ _ (by omega) hfn hip4 (fun s hs => (ag s hs).trans (hag s hs)) (by rw [plx_up (by decide)]; omega) (by rw [spl, if_pos ek7] at hpe; exact hpe)
