/-! The reference: what is given to an INSTANCE -/
set_option maxRecDepth 8000 in
theorem rp_in1 {T : Nat → Int32} {n0 dep lv r cap mp A B n d tq pi ip pip Q : Nat} {t : Tok} {F : Nat → Prop} {ms : List Mdl} {sy : List (List Int32)} {Hb : mu_H} {Iv : Nat → Ins} {c : Tre} {m : Nat} {Φ : mu_R → Prop} (hc0 : nd Hb F lv tq c) (hF : ∀ p, F p → p < mu_z Hb) (hpi : pi < n) (hQ : mu_z Hb + A + Q + 200 ≤ 1000000 ∧ Q ≤ 1000000) {PR : Nat → List (Tre × Nat)} {loc0 : Nat → Nat} {en0 : Nat} (hfin : ∀ H loc, bmk T n0 t dep F lv r ms cap sy Hb mp A B loc n Iv PR (en0 + tsn c) H → loc (9 + 4 * pi) = pip → (∀ s, 9 ≤ s → loc s = loc0 s) → mu_W (mu_D (d + 6)) mu_m458 (118, [(4, .inr (.inr (some ip))), (1, .inr (.inr (some m))), (0, .inr (.inr (some 169)))], [], H) Φ) : ∀ m_ k H loc pr en, k + m_ = tsn c → en = en0 + k → bmk T n0 t dep F lv r ms cap sy Hb mp A B loc n Iv pr en H → loc (9 + 4 * pi) = pip → (∀ s, 9 ≤ s → loc s = loc0 s) → plx pr + m_ ≤ Q → gvl c pi m_ k pr = PR → mu_W (mu_D (d + 6)) mu_m458 (72, [(5, .inl (nI k)), (4, .inr (.inr (some ip))), (3, .inr (.inr (some tq))), (2, .inr (.inr (some pip))), (1, .inr (.inr (some m))), (0, .inr (.inr (some 169)))], [], H) Φ
  | 0, k, H, loc, pr, en, hm_, hen, h, hpp, hag, hq_, hpe => by
    have hpe : pr = PR := hpe
    obtain ⟨kd1, ⟨is1, nF1, lt1⟩, ⟨st1, sr1, sf1⟩, ⟨n2_1, n3_1, n7_1⟩, nm1, ar1, aq1, aF1, ai1, ⟨al1, am1, ax1⟩, ch1, dp1⟩ := nd.rd (c := c) hc0
    have hl26 : tsn c ≤ 2 ^ 21 := Nat.le_trans al1 ax1
    have hcb := h.cpb
    have m18_2 : mu_r H 169 18 = some mp := h.2.1.1.2.2
    have m0_2 : mu_r H mp 0 = some (loc 0) := h.2.1.2.1.1
    have m1_2 : mu_i H mp 1 = nI n := h.2.1.2.1.2.1
    have m2_2 : mu_i H mp 2 = nI en := h.2.1.2.1.2.2
    have mN0_2 : mu_r H mp 7 = some (loc 1) := (h.2.1.2.2.2.1 0 (by decide)).1.1
    have mI0_2 : mu_r H mp 8 = some (loc 2) := (h.2.1.2.2.2.1 0 (by decide)).1.2.1
    have mC0_2 : mu_i H mp 9 = nI (pr 0).length := (h.2.1.2.2.2.1 0 (by decide)).1.2.2
    have mN1_2 : mu_r H mp 4 = some (loc 3) := (h.2.1.2.2.2.1 1 (by decide)).1.1
    have mI1_2 : mu_r H mp 3 = some (loc 4) := (h.2.1.2.2.2.1 1 (by decide)).1.2.1
    have mC1_2 : mu_i H mp 5 = nI (pr 1).length := (h.2.1.2.2.2.1 1 (by decide)).1.2.2
    have mN2_2 : mu_r H mp 10 = some (loc 5) := (h.2.1.2.2.2.1 2 (by decide)).1.1
    have mI2_2 : mu_r H mp 11 = some (loc 6) := (h.2.1.2.2.2.1 2 (by decide)).1.2.1
    have mC2_2 : mu_i H mp 12 = nI (pr 2).length := (h.2.1.2.2.2.1 2 (by decide)).1.2.2
    have mN3_2 : mu_r H mp 13 = some (loc 7) := (h.2.1.2.2.2.1 3 (by decide)).1.1
    have mI3_2 : mu_r H mp 14 = some (loc 8) := (h.2.1.2.2.2.1 3 (by decide)).1.2.1
    have mC3_2 : mu_i H mp 15 = nI (pr 3).length := (h.2.1.2.2.2.1 3 (by decide)).1.2.2
    have rz2 := h.rz
    refine mw_go mu_g458 (k := 1) (f1 := (73, [(5, .inl (nI k)), (4, .inr (.inr (some ip))), (3, .inr (.inr (some tq))), (2, .inr (.inr (some pip))), (1, .inr (.inr (some m))), (0, .inr (.inr (some 169)))], [.inr (.inr (some tq))], H)) (C := []) rfl trivial ?_
    refine mw_if (P := (some tq) = none) (a := 118) (b := 76) (fun _ => rfl) (show some tq ≠ some 3000000 from fun z => by have := lt1; cases z; omega) (fun h0 => by cases h0) (fun h0 => ?_)
    refine mw_go mu_g458 (k := 3) (f1 := (82, [(5, .inl (nI k)), (4, .inr (.inr (some ip))), (3, .inr (.inr (some tq))), (2, .inr (.inr (some pip))), (1, .inr (.inr (some m))), (0, .inr (.inr (some 169)))], [.inl (mu_i H tq 2), .inl (nI k)], H)) (C := [mu_is H (some tq) 18]) rfl (show mu_is H (some tq) 18 from ((h.2.2.2.1).is is1 (fun z => absurd z.1 (Nat.not_le.mpr is1.2.1)))) ?_
    refine mw_fr (f' := (82, [(5, .inl (nI k)), (4, .inr (.inr (some ip))), (3, .inr (.inr (some tq))), (2, .inr (.inr (some pip))), (1, .inr (.inr (some m))), (0, .inr (.inr (some 169)))], [.inl (nI (tsn c)), .inl (nI k)], H)) (by first | (rw [(((h.2.2.2.1).i (p := tq) (Or.inl is1.2.1) (fun z => absurd z.1 (Nat.not_le.mpr is1.2.1)) _).trans n2_1)]; done) | (rw [(((h.2.2.2.1).i (p := tq) (Or.inl is1.2.1) (fun z => absurd z.1 (Nat.not_le.mpr is1.2.1)) _).trans n2_1)]; rfl)) ?_
    refine mw_if (P := (nI k) < (nI (tsn c))) (a := 85) (b := 118) (fun _ => rfl) trivial (fun h1 => absurd h1 (by rw [show k = tsn c by omega]; exact Int32.lt_irrefl)) (fun h1 => ?_)
    refine mw_sub (L' := [(4, .inr (.inr (some ip))), (1, .inr (.inr (some m))), (0, .inr (.inr (some 169)))]) (by simp) ?_
    exact hfin H loc (by rw [← hpe, show en0 + tsn c = en by omega]; exact h) hpp hag
  | m_ + 1, k, H, loc, pr, en, hm_, hen, h, hpp, hag, hq_, hpe => by
    obtain ⟨kd1, ⟨is1, nF1, lt1⟩, ⟨st1, sr1, sf1⟩, ⟨n2_1, n3_1, n7_1⟩, nm1, ar1, aq1, aF1, ai1, ⟨al1, am1, ax1⟩, ch1, dp1⟩ := nd.rd (c := c) hc0
    have hl26 : tsn c ≤ 2 ^ 21 := Nat.le_trans al1 ax1
    have hcb := h.cpb
    have hk : k < tsn c := by omega
    obtain ⟨q, yr2, yn2⟩ := ch1 k hk
    have yn2 : nd Hb F _ q (tkk c k) := yn2
    obtain ⟨b1_2, b2_2, b3_2, b4_2⟩ := ar_at ai1 (by decide) (Nat.lt_of_lt_of_le hk al1) (Nat.lt_of_le_of_lt ax1 (by decide))
    have y2_2 : mu_r Hb ar1 (nI k).toNatClampNeg = some q := by rw [b4_2]; exact yr2
    have m18_3 : mu_r H 169 18 = some mp := h.2.1.1.2.2
    have m0_3 : mu_r H mp 0 = some (loc 0) := h.2.1.2.1.1
    have m1_3 : mu_i H mp 1 = nI n := h.2.1.2.1.2.1
    have m2_3 : mu_i H mp 2 = nI en := h.2.1.2.1.2.2
    have mN0_3 : mu_r H mp 7 = some (loc 1) := (h.2.1.2.2.2.1 0 (by decide)).1.1
    have mI0_3 : mu_r H mp 8 = some (loc 2) := (h.2.1.2.2.2.1 0 (by decide)).1.2.1
    have mC0_3 : mu_i H mp 9 = nI (pr 0).length := (h.2.1.2.2.2.1 0 (by decide)).1.2.2
    have mN1_3 : mu_r H mp 4 = some (loc 3) := (h.2.1.2.2.2.1 1 (by decide)).1.1
    have mI1_3 : mu_r H mp 3 = some (loc 4) := (h.2.1.2.2.2.1 1 (by decide)).1.2.1
    have mC1_3 : mu_i H mp 5 = nI (pr 1).length := (h.2.1.2.2.2.1 1 (by decide)).1.2.2
    have mN2_3 : mu_r H mp 10 = some (loc 5) := (h.2.1.2.2.2.1 2 (by decide)).1.1
    have mI2_3 : mu_r H mp 11 = some (loc 6) := (h.2.1.2.2.2.1 2 (by decide)).1.2.1
    have mC2_3 : mu_i H mp 12 = nI (pr 2).length := (h.2.1.2.2.2.1 2 (by decide)).1.2.2
    have mN3_3 : mu_r H mp 13 = some (loc 7) := (h.2.1.2.2.2.1 3 (by decide)).1.1
    have mI3_3 : mu_r H mp 14 = some (loc 8) := (h.2.1.2.2.2.1 3 (by decide)).1.2.1
    have mC3_3 : mu_i H mp 15 = nI (pr 3).length := (h.2.1.2.2.2.1 3 (by decide)).1.2.2
    have rz3 := h.rz
    refine mw_go mu_g458 (k := 1) (f1 := (73, [(5, .inl (nI k)), (4, .inr (.inr (some ip))), (3, .inr (.inr (some tq))), (2, .inr (.inr (some pip))), (1, .inr (.inr (some m))), (0, .inr (.inr (some 169)))], [.inr (.inr (some tq))], H)) (C := []) rfl trivial ?_
    refine mw_if (P := (some tq) = none) (a := 118) (b := 76) (fun _ => rfl) (show some tq ≠ some 3000000 from fun z => by have := lt1; cases z; omega) (fun h0 => by cases h0) (fun h0 => ?_)
    refine mw_go mu_g458 (k := 3) (f1 := (82, [(5, .inl (nI k)), (4, .inr (.inr (some ip))), (3, .inr (.inr (some tq))), (2, .inr (.inr (some pip))), (1, .inr (.inr (some m))), (0, .inr (.inr (some 169)))], [.inl (mu_i H tq 2), .inl (nI k)], H)) (C := [mu_is H (some tq) 18]) rfl (show mu_is H (some tq) 18 from ((h.2.2.2.1).is is1 (fun z => absurd z.1 (Nat.not_le.mpr is1.2.1)))) ?_
    refine mw_fr (f' := (82, [(5, .inl (nI k)), (4, .inr (.inr (some ip))), (3, .inr (.inr (some tq))), (2, .inr (.inr (some pip))), (1, .inr (.inr (some m))), (0, .inr (.inr (some 169)))], [.inl (nI (tsn c)), .inl (nI k)], H)) (by first | (rw [(((h.2.2.2.1).i (p := tq) (Or.inl is1.2.1) (fun z => absurd z.1 (Nat.not_le.mpr is1.2.1)) _).trans n2_1)]; done) | (rw [(((h.2.2.2.1).i (p := tq) (Or.inl is1.2.1) (fun z => absurd z.1 (Nat.not_le.mpr is1.2.1)) _).trans n2_1)]; rfl)) ?_
    refine mw_if (P := (nI k) < (nI (tsn c))) (a := 85) (b := 118) (fun _ => rfl) trivial (fun h1 => ?_) (fun h1 => absurd (nI_lt hk (by omega)) h1)
    refine mw_go mu_g458 (k := 3) (f1 := (90, [(5, .inl (nI k)), (4, .inr (.inr (some ip))), (3, .inr (.inr (some tq))), (2, .inr (.inr (some pip))), (1, .inr (.inr (some m))), (0, .inr (.inr (some 169)))], [.inr (.inr (mu_r H tq 1)), .inr (.inr (some 169))], H)) (C := [mu_is H (some tq) 18]) rfl (show mu_is H (some tq) 18 from ((h.2.2.2.1).is is1 (fun z => absurd z.1 (Nat.not_le.mpr is1.2.1)))) ?_
    refine mw_fr (f' := (90, [(5, .inl (nI k)), (4, .inr (.inr (some ip))), (3, .inr (.inr (some tq))), (2, .inr (.inr (some pip))), (1, .inr (.inr (some m))), (0, .inr (.inr (some 169)))], [.inr (.inr (some ar1)), .inr (.inr (some 169))], H)) (by first | (rw [(((h.2.2.2.1).r (p := tq) (Or.inl is1.2.1) (fun z => absurd z.1 (Nat.not_le.mpr is1.2.1)) _).trans aq1)]; done) | (rw [(((h.2.2.2.1).r (p := tq) (Or.inl is1.2.1) (fun z => absurd z.1 (Nat.not_le.mpr is1.2.1)) _).trans aq1)]; rfl)) ?_
    refine mw_go mu_g458 (k := 2) (f1 := (93, [(5, .inl (nI k)), (4, .inr (.inr (some ip))), (3, .inr (.inr (some tq))), (2, .inr (.inr (some pip))), (1, .inr (.inr (some m))), (0, .inr (.inr (some 169)))], [.inr (.inr (mu_r H ar1 (nI k).toNatClampNeg)), .inr (.inr (some 169))], H)) (C := [mu_is H (some ar1) (mu_k H ar1), 103 ≤ mu_k H ar1 ∧ mu_k H ar1 ≤ 110 ∧ mu_k H ar1 ≠ 108, vp_in (nI k) (mu_n H ar1)]) rfl (show (mu_is H (some ar1) (mu_k H ar1)) ∧ (103 ≤ mu_k H ar1 ∧ mu_k H ar1 ≤ 110 ∧ mu_k H ar1 ≠ 108) ∧ (vp_in (nI k) (mu_n H ar1)) from ⟨⟨rfl, Nat.lt_of_lt_of_le ai1.2.1 (h.2.2.2.1).1, rfl⟩, (by rw [(h.2.2.2.1).k (p := ar1) (Or.inl ai1.2.1) (fun z => absurd z.1 (Nat.not_le.mpr ai1.2.1))]; exact b2_2), (by rw [(h.2.2.2.1).len (p := ar1) (Or.inl ai1.2.1) (fun z => absurd z.1 (Nat.not_le.mpr ai1.2.1))]; exact b3_2)⟩) ?_
    refine mw_fr (f' := (93, [(5, .inl (nI k)), (4, .inr (.inr (some ip))), (3, .inr (.inr (some tq))), (2, .inr (.inr (some pip))), (1, .inr (.inr (some m))), (0, .inr (.inr (some 169)))], [.inr (.inr (some q)), .inr (.inr (some 169))], H)) (by first | (rw [(((h.2.2.2.1).r (p := ar1) (Or.inl ai1.2.1) (fun z => absurd z.1 (Nat.not_le.mpr ai1.2.1)) _).trans y2_2)]; done) | (rw [(((h.2.2.2.1).r (p := ar1) (Or.inl ai1.2.1) (fun z => absurd z.1 (Nat.not_le.mpr ai1.2.1)) _).trans y2_2)]; rfl)) ?_
    refine mw_go mu_g458 (k := 1) (f1 := (94, [(5, .inl (nI k)), (4, .inr (.inr (some ip))), (3, .inr (.inr (some tq))), (2, .inr (.inr (some pip))), (1, .inr (.inr (some m))), (0, .inr (.inr (some 169)))], [.inr (.inr (some pip)), .inr (.inr (some q)), .inr (.inr (some 169))], H)) (C := []) rfl trivial ?_
    have hpl := plx_le (pr := pr) (k := 0) (by decide)
    rw [show (some pip) = some (loc (9 + 4 * pi)) by rw [hpp]]
    refine mw_cI (fun _ => rfl) (show mu_is H (some 169) 1 from h.rz.2.2.2.2) (rp_stand (d := d + 4) h (i := pi) (q := q) (c := tkk c k) hpi (fun K hK => by
      obtain ⟨a9, b9, k9⟩ := hK
      exact (nd.kp yn2 k9 (fun p z => ⟨fun y => by have := hF p y; omega, z.2⟩)).le (by omega)) (by omega) (by omega)) (fun v9 H9 q9 => ?_)
    obtain ⟨rfl, loc1, ag1, h9⟩ := q9
    rw [show (some (loc (9 + 4 * pi))) = some pip by rw [hpp]]
    show mu_W _ mu_m458 (97, [(5, .inl (nI k)), (4, .inr (.inr (some ip))), (3, .inr (.inr (some tq))), (2, .inr (.inr (some pip))), (1, .inr (.inr (some m))), (0, .inr (.inr (some 169)))], [.inl (nI (pr 0).length)], H9) _
    have e1 : nI en + (1 : Int32) = nI (en + 1) := nI_add _ _
    have m18_4 : mu_r H9 169 18 = some mp := h9.2.1.1.2.2
    have m0_4 : mu_r H9 mp 0 = some (loc1 0) := h9.2.1.2.1.1
    have m1_4 : mu_i H9 mp 1 = nI n := h9.2.1.2.1.2.1
    have m2_4 : mu_i H9 mp 2 = nI en := h9.2.1.2.1.2.2
    have mN0_4 : mu_r H9 mp 7 = some (loc1 1) := (h9.2.1.2.2.2.1 0 (by decide)).1.1
    have mI0_4 : mu_r H9 mp 8 = some (loc1 2) := (h9.2.1.2.2.2.1 0 (by decide)).1.2.1
    have mC0_4 : mu_i H9 mp 9 = nI ((pup pr 0 (pr 0 ++ [(tkk c k, pi)])) 0).length := (h9.2.1.2.2.2.1 0 (by decide)).1.2.2
    have mN1_4 : mu_r H9 mp 4 = some (loc1 3) := (h9.2.1.2.2.2.1 1 (by decide)).1.1
    have mI1_4 : mu_r H9 mp 3 = some (loc1 4) := (h9.2.1.2.2.2.1 1 (by decide)).1.2.1
    have mC1_4 : mu_i H9 mp 5 = nI ((pup pr 0 (pr 0 ++ [(tkk c k, pi)])) 1).length := (h9.2.1.2.2.2.1 1 (by decide)).1.2.2
    have mN2_4 : mu_r H9 mp 10 = some (loc1 5) := (h9.2.1.2.2.2.1 2 (by decide)).1.1
    have mI2_4 : mu_r H9 mp 11 = some (loc1 6) := (h9.2.1.2.2.2.1 2 (by decide)).1.2.1
    have mC2_4 : mu_i H9 mp 12 = nI ((pup pr 0 (pr 0 ++ [(tkk c k, pi)])) 2).length := (h9.2.1.2.2.2.1 2 (by decide)).1.2.2
    have mN3_4 : mu_r H9 mp 13 = some (loc1 7) := (h9.2.1.2.2.2.1 3 (by decide)).1.1
    have mI3_4 : mu_r H9 mp 14 = some (loc1 8) := (h9.2.1.2.2.2.1 3 (by decide)).1.2.1
    have mC3_4 : mu_i H9 mp 15 = nI ((pup pr 0 (pr 0 ++ [(tkk c k, pi)])) 3).length := (h9.2.1.2.2.2.1 3 (by decide)).1.2.2
    have rz4 := h9.rz
    refine mw_go mu_g458 (k := 3) (f1 := (103, [(6, .inl (nI (pr 0).length)), (5, .inl (nI k)), (4, .inr (.inr (some ip))), (3, .inr (.inr (some tq))), (2, .inr (.inr (some pip))), (1, .inr (.inr (some m))), (0, .inr (.inr (some 169)))], [.inr (.inr (mu_r H9 169 18))], H9)) (C := [mu_is H9 (some 169) 1]) rfl (show mu_is H9 (some 169) 1 from h9.rz.2.2.2.2) ?_
    refine mw_fr (f' := (103, [(6, .inl (nI (pr 0).length)), (5, .inl (nI k)), (4, .inr (.inr (some ip))), (3, .inr (.inr (some tq))), (2, .inr (.inr (some pip))), (1, .inr (.inr (some m))), (0, .inr (.inr (some 169)))], [.inr (.inr (some mp))], H9)) (by first | (rw [m18_4]; done) | (rw [m18_4]; rfl)) ?_
    refine mw_go mu_g458 (k := 2) (f1 := (107, [(6, .inl (nI (pr 0).length)), (5, .inl (nI k)), (4, .inr (.inr (some ip))), (3, .inr (.inr (some tq))), (2, .inr (.inr (some pip))), (1, .inr (.inr (some m))), (0, .inr (.inr (some 169)))], [.inl (mu_i H9 mp 2), .inr (.inr (some mp))], H9)) (C := [mu_is H9 (some mp) 16]) rfl (show mu_is H9 (some mp) 16 from h9.2.1.1.1) ?_
    refine mw_fr (f' := (107, [(6, .inl (nI (pr 0).length)), (5, .inl (nI k)), (4, .inr (.inr (some ip))), (3, .inr (.inr (some tq))), (2, .inr (.inr (some pip))), (1, .inr (.inr (some m))), (0, .inr (.inr (some 169)))], [.inl (nI en), .inr (.inr (some mp))], H9)) (by first | (rw [m2_4]; done) | (rw [m2_4]; rfl)) ?_
    refine mw_go mu_g458 (k := 2) (f1 := (109, [(6, .inl (nI (pr 0).length)), (5, .inl (nI k)), (4, .inr (.inr (some ip))), (3, .inr (.inr (some tq))), (2, .inr (.inr (some pip))), (1, .inr (.inr (some m))), (0, .inr (.inr (some 169)))], [.inl ((nI en) + (1 : Int32)), .inr (.inr (some mp))], H9)) (C := []) rfl trivial ?_
    refine mw_fr (f' := (109, [(6, .inl (nI (pr 0).length)), (5, .inl (nI k)), (4, .inr (.inr (some ip))), (3, .inr (.inr (some tq))), (2, .inr (.inr (some pip))), (1, .inr (.inr (some m))), (0, .inr (.inr (some 169)))], [.inl (nI (en + 1)), .inr (.inr (some mp))], H9)) (by first | (rw [e1]; done) | (rw [e1]; rfl)) ?_
    refine mw_go mu_g458 (k := 1) (f1 := (112, [(6, .inl (nI (pr 0).length)), (5, .inl (nI k)), (4, .inr (.inr (some ip))), (3, .inr (.inr (some tq))), (2, .inr (.inr (some pip))), (1, .inr (.inr (some m))), (0, .inr (.inr (some 169)))], [], (mu_si H9 mp 2 (nI (en + 1))))) (C := [mu_is H9 (some mp) 16]) rfl (show mu_is H9 (some mp) 16 from h9.2.1.1.1) ?_
    have h10 : bmk T n0 t dep F lv r ms cap sy Hb mp A B loc1 n Iv (pup pr 0 (pr 0 ++ [(tkk c k, pi)])) (en + 1) (mu_si H9 mp 2 (nI (en + 1))) := h9.ent
    obtain ⟨Kf, eKf⟩ : ∃ K, K = (mu_si H9 mp 2 (nI (en + 1))) := ⟨_, rfl⟩
    rw [← eKf] at h10 ⊢
    show mu_W _ mu_m458 (112, [(6, .inl (nI (pr 0).length)), (5, .inl (nI k)), (4, .inr (.inr (some ip))), (3, .inr (.inr (some tq))), (2, .inr (.inr (some pip))), (1, .inr (.inr (some m))), (0, .inr (.inr (some 169)))], [], Kf) _
    refine mw_go mu_g458 (k := 2) (f1 := (72, [(5, .inl ((nI k) + 1)), (6, .inl (nI (pr 0).length)), (4, .inr (.inr (some ip))), (3, .inr (.inr (some tq))), (2, .inr (.inr (some pip))), (1, .inr (.inr (some m))), (0, .inr (.inr (some 169)))], [], Kf)) (C := []) rfl trivial ?_
    refine mw_sub (L' := [(5, .inl (nI (k + 1))), (4, .inr (.inr (some ip))), (3, .inr (.inr (some tq))), (2, .inr (.inr (some pip))), (1, .inr (.inr (some m))), (0, .inr (.inr (some 169)))]) (by intro x hx; simp only [List.mem_cons, List.not_mem_nil, or_false] at hx ⊢; rcases hx with rfl | rfl | rfl | rfl | rfl | rfl <;> simp [nI_add, show (1 : Int32) = nI 1 from rfl]) ?_
    exact rp_in1 hc0 hF hpi hQ hfin m_ (k + 1) _ _ _ _ (by omega) (by omega) h10 ((ag1 _ (by omega)).trans hpp) (fun s hs => (ag1 s hs).trans (hag s hs)) (by rw [plx_up (by decide)]; omega) (by rw [gvl] at hpe; exact hpe)
