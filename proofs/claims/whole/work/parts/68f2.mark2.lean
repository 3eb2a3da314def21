/-! The reference: mark whole -/
theorem rp_mk4 {tr : Prop} {Hb H0 : mu_H} {D : MD} {ph pt pk pa mm f : Nat} (hb : mdb D) (hy : mdy D) (hmd : mdn D) (hma : mda D) (hval : valk tr Hb D ph pt pk pa f) (hvw : mvw tr D) {j : Nat} {Φ : mu_R → Prop} (hj : j < D.n) (hnx : ∀ H, vsta tr Hb D ph pt pk pa H → mwr D mm H → mkf D mm pk pa H0 H → mu_W (mu_D (f + 909)) mu_m430 (207, [(1, .inl (nI j)), (0, .inr (.inr (some 169)))], [], H) Φ) : ∀ m_ k H, k + m_ = (D.md j).2.2.length → vsta tr Hb D ph pt pk pa H → mwr D mm H → mkf D mm pk pa H0 H → mu_W (mu_D (f + 909)) mu_m430 (78, [(3, .inl (nI k)), (2, .inr (.inr (some (D.ip j)))), (1, .inl (nI j)), (0, .inr (.inr (some 169)))], [], H) Φ
  | 0, k, H, hm_, hv, hw, hf => by
    obtain ⟨ia1, ⟨m, im1, id1⟩, ig1, ⟨iv1, ii1, if1⟩, vz1, nz1, dz1, wf1, w31_1⟩ := hv.1.ins hj
    obtain ⟨mi2, ⟨mw2, mr0_2, ms2⟩, ⟨mp2, mr1_2, mpn2⟩, mq2, mr2_2, mqn2⟩ := mdf.ra (y := (D.md j)) id1 hv.1.2.1
    obtain ⟨kd3, ⟨is3, nF3, lt3⟩, ⟨st3, sr3, sf3⟩, ⟨n2_3, n3_3, n7_3⟩, nm3, ar3, aq3, aF3, ai3, ⟨al3, am3, ax3⟩, ch3, dp3⟩ := nd.ra (c := (tmk 67 0 [] (D.md j).2.2)) mqn2 hv.1.2.1
    refine mw_go mu_g430 (k := 3) (f1 := (83, [(3, .inl (nI k)), (2, .inr (.inr (some (D.ip j)))), (1, .inl (nI j)), (0, .inr (.inr (some 169)))], [.inr (.inr (mu_r H (D.ip j) 0)), .inl (nI k)], H)) (C := [mu_is H (some (D.ip j)) 15]) rfl (show mu_is H (some (D.ip j)) 15 from ia1) ?_
    refine mw_fr (f' := (83, [(3, .inl (nI k)), (2, .inr (.inr (some (D.ip j)))), (1, .inl (nI j)), (0, .inr (.inr (some 169)))], [.inr (.inr (some m)), .inl (nI k)], H)) (by first | (rw [im1]; done) | (rw [im1]; rfl)) ?_
    refine mw_go mu_g430 (k := 1) (f1 := (86, [(3, .inl (nI k)), (2, .inr (.inr (some (D.ip j)))), (1, .inl (nI j)), (0, .inr (.inr (some 169)))], [.inr (.inr (mu_r H m 2)), .inl (nI k)], H)) (C := [mu_is H (some m) 17]) rfl (show mu_is H (some m) 17 from mi2) ?_
    refine mw_fr (f' := (86, [(3, .inl (nI k)), (2, .inr (.inr (some (D.ip j)))), (1, .inl (nI j)), (0, .inr (.inr (some 169)))], [.inr (.inr (some mq2)), .inl (nI k)], H)) (by first | (rw [mr2_2]; done) | (rw [mr2_2]; rfl)) ?_
    refine mw_go mu_g430 (k := 1) (f1 := (89, [(3, .inl (nI k)), (2, .inr (.inr (some (D.ip j)))), (1, .inl (nI j)), (0, .inr (.inr (some 169)))], [.inl (mu_i H mq2 2), .inl (nI k)], H)) (C := [mu_is H (some mq2) 18]) rfl (show mu_is H (some mq2) 18 from is3) ?_
    refine mw_fr (f' := (89, [(3, .inl (nI k)), (2, .inr (.inr (some (D.ip j)))), (1, .inl (nI j)), (0, .inr (.inr (some 169)))], [.inl (nI (D.md j).2.2.length), .inl (nI k)], H)) (by first | (rw [n2_3]; done) | (rw [n2_3]; rfl)) ?_
    refine mw_if (P := (nI k) < (nI (D.md j).2.2.length)) (a := 92) (b := 207) (fun _ => rfl) trivial (fun h1 => absurd h1 (by rw [show k = (D.md j).2.2.length by omega]; exact Int32.lt_irrefl)) (fun h1 => ?_)
    refine mw_sub (L' := [(1, .inl (nI j)), (0, .inr (.inr (some 169)))]) (by simp) ?_
    exact hnx _ hv hw hf
  | m_ + 1, k, H, hm_, hv, hw, hf => by
    obtain ⟨ia1, ⟨m, im1, id1⟩, ig1, ⟨iv1, ii1, if1⟩, vz1, nz1, dz1, wf1, w31_1⟩ := hv.1.ins hj
    obtain ⟨mi2, ⟨mw2, mr0_2, ms2⟩, ⟨mp2, mr1_2, mpn2⟩, mq2, mr2_2, mqn2⟩ := mdf.ra (y := (D.md j)) id1 hv.1.2.1
    obtain ⟨kd3, ⟨is3, nF3, lt3⟩, ⟨st3, sr3, sf3⟩, ⟨n2_3, n3_3, n7_3⟩, nm3, ar3, aq3, aF3, ai3, ⟨al3, am3, ax3⟩, ch3, dp3⟩ := nd.ra (c := (tmk 67 0 [] (D.md j).2.2)) mqn2 hv.1.2.1
    have hk : k < (D.md j).2.2.length := by omega
    have hp := (wf1.2 k hk : ptw (nth (D.md j).2.2 k))
    have vw := hvw j hj k hk
    refine mw_go mu_g430 (k := 3) (f1 := (83, [(3, .inl (nI k)), (2, .inr (.inr (some (D.ip j)))), (1, .inl (nI j)), (0, .inr (.inr (some 169)))], [.inr (.inr (mu_r H (D.ip j) 0)), .inl (nI k)], H)) (C := [mu_is H (some (D.ip j)) 15]) rfl (show mu_is H (some (D.ip j)) 15 from ia1) ?_
    refine mw_fr (f' := (83, [(3, .inl (nI k)), (2, .inr (.inr (some (D.ip j)))), (1, .inl (nI j)), (0, .inr (.inr (some 169)))], [.inr (.inr (some m)), .inl (nI k)], H)) (by first | (rw [im1]; done) | (rw [im1]; rfl)) ?_
    refine mw_go mu_g430 (k := 1) (f1 := (86, [(3, .inl (nI k)), (2, .inr (.inr (some (D.ip j)))), (1, .inl (nI j)), (0, .inr (.inr (some 169)))], [.inr (.inr (mu_r H m 2)), .inl (nI k)], H)) (C := [mu_is H (some m) 17]) rfl (show mu_is H (some m) 17 from mi2) ?_
    refine mw_fr (f' := (86, [(3, .inl (nI k)), (2, .inr (.inr (some (D.ip j)))), (1, .inl (nI j)), (0, .inr (.inr (some 169)))], [.inr (.inr (some mq2)), .inl (nI k)], H)) (by first | (rw [mr2_2]; done) | (rw [mr2_2]; rfl)) ?_
    refine mw_go mu_g430 (k := 1) (f1 := (89, [(3, .inl (nI k)), (2, .inr (.inr (some (D.ip j)))), (1, .inl (nI j)), (0, .inr (.inr (some 169)))], [.inl (mu_i H mq2 2), .inl (nI k)], H)) (C := [mu_is H (some mq2) 18]) rfl (show mu_is H (some mq2) 18 from is3) ?_
    refine mw_fr (f' := (89, [(3, .inl (nI k)), (2, .inr (.inr (some (D.ip j)))), (1, .inl (nI j)), (0, .inr (.inr (some 169)))], [.inl (nI (D.md j).2.2.length), .inl (nI k)], H)) (by first | (rw [n2_3]; done) | (rw [n2_3]; rfl)) ?_
    refine mw_if (P := (nI k) < (nI (D.md j).2.2.length)) (a := 92) (b := 207) (fun _ => rfl) trivial (fun h1 => ?_) (fun h1 => absurd (nI_lt hk (by omega)) h1)
    obtain ⟨p, yr4, yn4⟩ := ch3 k hk
    have yn4 : nd Hb D.G (D.lv - 1) p (nth (D.md j).2.2 k) := yn4
    obtain ⟨b1_4, b2_4, b3_4, b4_4⟩ := ar_at ai3 (by decide) (Nat.lt_of_lt_of_le hk al3) (Nat.lt_of_le_of_lt ax3 (by decide))
    have y2_4 : mu_r H ar3 (nI k).toNatClampNeg = some p := by rw [b4_4]; exact yr4
    obtain ⟨kd5, ⟨is5, nF5, lt5⟩, ⟨st5, sr5, sf5⟩, ⟨n2_5, n3_5, n7_5⟩, nm5, ar5, aq5, aF5, ai5, ⟨al5, am5, ax5⟩, ch5, dp5⟩ := nd.ra (c := (nth (D.md j).2.2 k)) yn4 hv.1.2.1
    have hp1 : 0 < tsn (nth (D.md j).2.2 k) := by rw [hp.1.2]; exact Nat.one_pos
    have hp0 : 0 < (tns (nth (D.md j).2.2 k)).length := by rw [hp.1.1]; exact Nat.one_pos
    refine mw_go mu_g430 (k := 2) (f1 := (96, [(3, .inl (nI k)), (2, .inr (.inr (some (D.ip j)))), (1, .inl (nI j)), (0, .inr (.inr (some 169)))], [.inr (.inr (mu_r H (D.ip j) 0))], H)) (C := [mu_is H (some (D.ip j)) 15]) rfl (show mu_is H (some (D.ip j)) 15 from ia1) ?_
    refine mw_fr (f' := (96, [(3, .inl (nI k)), (2, .inr (.inr (some (D.ip j)))), (1, .inl (nI j)), (0, .inr (.inr (some 169)))], [.inr (.inr (some m))], H)) (by first | (rw [im1]; done) | (rw [im1]; rfl)) ?_
    refine mw_go mu_g430 (k := 1) (f1 := (99, [(3, .inl (nI k)), (2, .inr (.inr (some (D.ip j)))), (1, .inl (nI j)), (0, .inr (.inr (some 169)))], [.inr (.inr (mu_r H m 2))], H)) (C := [mu_is H (some m) 17]) rfl (show mu_is H (some m) 17 from mi2) ?_
    refine mw_fr (f' := (99, [(3, .inl (nI k)), (2, .inr (.inr (some (D.ip j)))), (1, .inl (nI j)), (0, .inr (.inr (some 169)))], [.inr (.inr (some mq2))], H)) (by first | (rw [mr2_2]; done) | (rw [mr2_2]; rfl)) ?_
    refine mw_go mu_g430 (k := 1) (f1 := (102, [(3, .inl (nI k)), (2, .inr (.inr (some (D.ip j)))), (1, .inl (nI j)), (0, .inr (.inr (some 169)))], [.inr (.inr (mu_r H mq2 1))], H)) (C := [mu_is H (some mq2) 18]) rfl (show mu_is H (some mq2) 18 from is3) ?_
    refine mw_fr (f' := (102, [(3, .inl (nI k)), (2, .inr (.inr (some (D.ip j)))), (1, .inl (nI j)), (0, .inr (.inr (some 169)))], [.inr (.inr (some ar3))], H)) (by first | (rw [aq3]; done) | (rw [aq3]; rfl)) ?_
    refine mw_go mu_g430 (k := 2) (f1 := (104, [(3, .inl (nI k)), (2, .inr (.inr (some (D.ip j)))), (1, .inl (nI j)), (0, .inr (.inr (some 169)))], [.inr (.inr (mu_r H ar3 (nI k).toNatClampNeg))], H)) (C := [mu_is H (some ar3) (mu_k H ar3), 103 ≤ mu_k H ar3 ∧ mu_k H ar3 ≤ 110 ∧ mu_k H ar3 ≠ 108, vp_in (nI k) (mu_n H ar3)]) rfl (show (mu_is H (some ar3) (mu_k H ar3)) ∧ (103 ≤ mu_k H ar3 ∧ mu_k H ar3 ≤ 110 ∧ mu_k H ar3 ≠ 108) ∧ (vp_in (nI k) (mu_n H ar3)) from ⟨b1_4, b2_4, b3_4⟩) ?_
    refine mw_fr (f' := (104, [(3, .inl (nI k)), (2, .inr (.inr (some (D.ip j)))), (1, .inl (nI j)), (0, .inr (.inr (some 169)))], [.inr (.inr (some p))], H)) (by first | (rw [y2_4]; done) | (rw [y2_4]; rfl)) ?_
    refine mw_go mu_g430 (k := 3) (f1 := (110, [(4, .inr (.inr (some p))), (3, .inl (nI k)), (2, .inr (.inr (some (D.ip j)))), (1, .inl (nI j)), (0, .inr (.inr (some 169)))], [.inr (.inr (some 1000033)), .inr (.inr (some p))], H)) (C := []) rfl trivial ?_
    refine mw_cIe (fun _ => rfl) (show mu_is H (some p) 18 from is5) (agr.isL (e := f + 906) (j := 33) yn4 hv.1.2.1 (by decide)) ?_
    refine mw_if (P := (if tkd (nth (D.md j).2.2 k) = 33 then 1 else 0) = 0) (a := 116) (b := 119) (fun _ => rfl) trivial (fun hi6 => ?_) (fun hi6 => ?_)
    · -- 116
      have ek6 : ¬ tkd (nth (D.md j).2.2 k) = 33 := fun e => by rw [if_pos e] at hi6; exact absurd hi6 (by decide)
      refine mw_go mu_g430 (k := 3) (f1 := (78, [(3, .inl ((nI k) + 1)), (4, .inr (.inr (some p))), (2, .inr (.inr (some (D.ip j)))), (1, .inl (nI j)), (0, .inr (.inr (some 169)))], [], H)) (C := []) rfl trivial ?_
      refine mw_sub (L' := [(3, .inl (nI (k + 1))), (2, .inr (.inr (some (D.ip j)))), (1, .inl (nI j)), (0, .inr (.inr (some 169)))]) (by intro x hx; simp only [List.mem_cons, List.not_mem_nil, or_false] at hx ⊢; rcases hx with rfl | rfl | rfl | rfl <;> first | (simp [nI_add, show (1 : Int32) = nI 1 from rfl]; done) | simp [nI]) ?_
      exact rp_mk4 hb hy hmd hma hval hvw hj hnx m_ (k + 1) _ (by omega) hv hw hf
    · -- 119
      have ek6 : tkd (nth (D.md j).2.2 k) = 33 := Decidable.byContradiction (fun e => hi6 (if_neg e))
      have ka3 : tkd (nth (D.md j).2.2 k) ∈ [32, 33, 75] := by rw [ek6]; decide
      obtain ⟨fq, f1, f2, f3⟩ := hma j hj k hk ka3
      have fl := (fio_some _ _ _ f1).2.2.1
      have b5 := hb.2.2.1
      have gx : mu_i H (D.iv j) (nI fq).toNatClampNeg = nI (avr D j (nam (nth (D.md j).2.2 k))) := by rw [nI_clamp (show fq < 2 ^ 31 by omega), vz1.2.2 fq (by omega)]; exact f2
      have gi : vp_in (nI fq) (mu_n H (D.iv j)) := by rw [vz1.2.1]; exact vp_in_nI (by omega) (by omega)
      obtain ⟨nb7, nr7, nbF7, ni7, nn7, nl7, nk7⟩ := nm5.rd hp0
      obtain ⟨ns7, nz7, nf7⟩ := nk7 0 hp0
      obtain ⟨c1_7, c2_7, c3_7, c4_7⟩ := ar_at (i := 0) ni7 (by decide) (by rw [nn7]; exact hp0) (by rw [nn7]; omega)
      have nx7 : mu_r H nb7 (0 : Int32).toNatClampNeg = some ns7 := nz7
      refine mw_go mu_g430 (k := 2) (f1 := (123, [(4, .inr (.inr (some p))), (3, .inl (nI k)), (2, .inr (.inr (some (D.ip j)))), (1, .inl (nI j)), (0, .inr (.inr (some 169)))], [.inr (.inr (mu_r H (D.ip j) 3))], H)) (C := [mu_is H (some (D.ip j)) 15]) rfl (show mu_is H (some (D.ip j)) 15 from ia1) ?_
      refine mw_fr (f' := (123, [(4, .inr (.inr (some p))), (3, .inl (nI k)), (2, .inr (.inr (some (D.ip j)))), (1, .inl (nI j)), (0, .inr (.inr (some 169)))], [.inr (.inr (some (D.iv j)))], H)) (by first | (rw [iv1]; done) | (rw [iv1]; rfl)) ?_
      refine mw_go mu_g430 (k := 2) (f1 := (127, [(4, .inr (.inr (some p))), (3, .inl (nI k)), (2, .inr (.inr (some (D.ip j)))), (1, .inl (nI j)), (0, .inr (.inr (some 169)))], [.inr (.inr (mu_r H (D.ip j) 0)), .inr (.inr (some (D.iv j)))], H)) (C := [mu_is H (some (D.ip j)) 15]) rfl (show mu_is H (some (D.ip j)) 15 from ia1) ?_
      refine mw_fr (f' := (127, [(4, .inr (.inr (some p))), (3, .inl (nI k)), (2, .inr (.inr (some (D.ip j)))), (1, .inl (nI j)), (0, .inr (.inr (some 169)))], [.inr (.inr (some m)), .inr (.inr (some (D.iv j)))], H)) (by first | (rw [im1]; done) | (rw [im1]; rfl)) ?_
      refine mw_go mu_g430 (k := 3) (f1 := (135, [(4, .inr (.inr (some p))), (3, .inl (nI k)), (2, .inr (.inr (some (D.ip j)))), (1, .inl (nI j)), (0, .inr (.inr (some 169)))], [.inr (.inr (mu_r H p 4)), .inr (.inr (some 1000073)), .inr (.inr (some m)), .inr (.inr (some (D.iv j)))], H)) (C := [mu_is H (some p) 18]) rfl (show mu_is H (some p) 18 from is5) ?_
      refine mw_fr (f' := (135, [(4, .inr (.inr (some p))), (3, .inl (nI k)), (2, .inr (.inr (some (D.ip j)))), (1, .inl (nI j)), (0, .inr (.inr (some 169)))], [.inr (.inr (some nb7)), .inr (.inr (some 1000073)), .inr (.inr (some m)), .inr (.inr (some (D.iv j)))], H)) (by first | (rw [nr7]; done) | (rw [nr7]; rfl)) ?_
      refine mw_go mu_g430 (k := 2) (f1 := (137, [(4, .inr (.inr (some p))), (3, .inl (nI k)), (2, .inr (.inr (some (D.ip j)))), (1, .inl (nI j)), (0, .inr (.inr (some 169)))], [.inr (.inr (mu_r H nb7 (0 : Int32).toNatClampNeg)), .inr (.inr (some 1000073)), .inr (.inr (some m)), .inr (.inr (some (D.iv j)))], H)) (C := [mu_is H (some nb7) (mu_k H nb7), 103 ≤ mu_k H nb7 ∧ mu_k H nb7 ≤ 110 ∧ mu_k H nb7 ≠ 108, vp_in (0 : Int32) (mu_n H nb7)]) rfl (show (mu_is H (some nb7) (mu_k H nb7)) ∧ (103 ≤ mu_k H nb7 ∧ mu_k H nb7 ≤ 110 ∧ mu_k H nb7 ≠ 108) ∧ (vp_in (0 : Int32) (mu_n H nb7)) from ⟨c1_7, c2_7, c3_7⟩) ?_
      refine mw_fr (f' := (137, [(4, .inr (.inr (some p))), (3, .inl (nI k)), (2, .inr (.inr (some (D.ip j)))), (1, .inl (nI j)), (0, .inr (.inr (some 169)))], [.inr (.inr (some ns7)), .inr (.inr (some 1000073)), .inr (.inr (some m)), .inr (.inr (some (D.iv j)))], H)) (by first | (rw [nx7]; done) | (rw [nx7]; rfl)) ?_
      refine mw_cIe (fun _ => rfl) trivial (rq_find (d := f + 905) (j := 73) hv.1.2.1 id1 wf1.2 nf7 (by decide)) ?_
      refine mw_fr (f' := (140, [(4, .inr (.inr (some p))), (3, .inl (nI k)), (2, .inr (.inr (some (D.ip j)))), (1, .inl (nI j)), (0, .inr (.inr (some 169)))], [.inl (nI fq), .inr (.inr (some (D.iv j)))], H)) (by rw [f1]; rfl) ?_
      refine mw_go mu_g430 (k := 1) (f1 := (141, [(4, .inr (.inr (some p))), (3, .inl (nI k)), (2, .inr (.inr (some (D.ip j)))), (1, .inl (nI j)), (0, .inr (.inr (some 169)))], [.inl (mu_i H (D.iv j) (nI fq).toNatClampNeg)], H)) (C := [mu_isr H (some (D.iv j)) 100, vp_in (nI fq) (mu_n H (D.iv j))]) rfl (show (mu_isr H (some (D.iv j)) 100) ∧ (vp_in (nI fq) (mu_n H (D.iv j))) from ⟨vz1.1.r, gi⟩) ?_
      refine mw_fr (f' := (141, [(4, .inr (.inr (some p))), (3, .inl (nI k)), (2, .inr (.inr (some (D.ip j)))), (1, .inl (nI j)), (0, .inr (.inr (some 169)))], [.inl (nI (avr D j (nam (nth (D.md j).2.2 k))))], H)) (by first | (rw [gx]; done) | (rw [gx]; rfl)) ?_
      refine mw_go mu_g430 (k := 3) (f1 := (146, [(6, .inl (0 : Int32)), (5, .inl (nI (avr D j (nam (nth (D.md j).2.2 k))))), (4, .inr (.inr (some p))), (3, .inl (nI k)), (2, .inr (.inr (some (D.ip j)))), (1, .inl (nI j)), (0, .inr (.inr (some 169)))], [], H)) (C := []) rfl trivial ?_
      refine mw_sub (L' := [(6, .inl (nI 0)), (5, .inl (nI (avr D j (nam (nth (D.md j).2.2 k))))), (4, .inr (.inr (some p))), (3, .inl (nI k)), (2, .inr (.inr (some (D.ip j)))), (1, .inl (nI j)), (0, .inr (.inr (some 169)))]) (by intro x hx; simp only [List.mem_cons, List.not_mem_nil, or_false] at hx ⊢; rcases hx with rfl | rfl | rfl | rfl | rfl | rfl | rfl <;> simp [nI]) ?_
      refine rp_mk3 hb hy hmd hj hk hval yn4 hp1 f3 (vw.2.2 ka3) (fun H1 g1 g2 g3 => ?_) (hmn (typ D (avr D j (nam (nth (D.md j).2.2 k))))) 0 _ (Nat.zero_add _) hv hw hf
      refine mw_go mu_g430 (k := 2) (f1 := (78, [(3, .inl ((nI k) + 1)), (2, .inr (.inr (some (D.ip j)))), (1, .inl (nI j)), (0, .inr (.inr (some 169)))], [], H1)) (C := []) rfl trivial ?_
      refine mw_sub (L' := [(3, .inl (nI (k + 1))), (2, .inr (.inr (some (D.ip j)))), (1, .inl (nI j)), (0, .inr (.inr (some 169)))]) (by intro x hx; simp only [List.mem_cons, List.not_mem_nil, or_false] at hx ⊢; rcases hx with rfl | rfl | rfl | rfl <;> first | (simp [nI_add, show (1 : Int32) = nI 1 from rfl]; done) | simp [nI]) ?_
      exact rp_mk4 hb hy hmd hma hval hvw hj hnx m_ (k + 1) _ (by omega) g1 g2 g3
theorem rp_mk5 {tr : Prop} {Hb H0 : mu_H} {D : MD} {ph pt pk pa mm f : Nat} (hb : mdb D) (hy : mdy D) (hmd : mdn D) (hma : mda D) (hval : valk tr Hb D ph pt pk pa f) (hvw : mvw tr D) : ∀ m_ j H, j + m_ = D.n → vsta tr Hb D ph pt pk pa H → mwr D mm H → mkf D mm pk pa H0 H → mu_W (mu_D (f + 909)) mu_m430 (55, [(1, .inl (nI j)), (0, .inr (.inr (some 169)))], [], H) (fun r => ∃ H1, r = (.inl none, H1) ∧ vsta tr Hb D ph pt pk pa H1 ∧ mwr D mm H1 ∧ mkf D mm pk pa H0 H1)
  | 0, j, H, hm_, hv, hw, hf => by
    obtain ⟨om1, ⟨om0_1, om1_1⟩, ol1, on1, oc1, oj1⟩ := hv.1.mod
    refine mw_go mu_g430 (k := 3) (f1 := (60, [(1, .inl (nI j)), (0, .inr (.inr (some 169)))], [.inr (.inr (mu_r H 169 18)), .inl (nI j)], H)) (C := [mu_is H (some 169) 1]) rfl (show mu_is H (some 169) 1 from hv.1.2.2.1.1) ?_
    refine mw_fr (f' := (60, [(1, .inl (nI j)), (0, .inr (.inr (some 169)))], [.inr (.inr (some D.mp)), .inl (nI j)], H)) (by first | (rw [hv.1.2.2.1.2]; done) | (rw [hv.1.2.2.1.2]; rfl)) ?_
    refine mw_go mu_g430 (k := 1) (f1 := (63, [(1, .inl (nI j)), (0, .inr (.inr (some 169)))], [.inl (mu_i H D.mp 1), .inl (nI j)], H)) (C := [mu_is H (some D.mp) 16]) rfl (show mu_is H (some D.mp) 16 from om1) ?_
    refine mw_fr (f' := (63, [(1, .inl (nI j)), (0, .inr (.inr (some 169)))], [.inl (nI D.n), .inl (nI j)], H)) (by first | (rw [om1_1]; done) | (rw [om1_1]; rfl)) ?_
    refine mw_if (P := (nI j) < (nI D.n)) (a := 66) (b := 213) (fun _ => rfl) trivial (fun h1 => absurd h1 (by rw [show j = D.n by omega]; exact Int32.lt_irrefl)) (fun h1 => ?_)
    exact mw_of (fun _ => mu_ret rfl trivial ⟨_, rfl, hv, hw, hf⟩)
  | m_ + 1, j, H, hm_, hv, hw, hf => by
    obtain ⟨om1, ⟨om0_1, om1_1⟩, ol1, on1, oc1, oj1⟩ := hv.1.mod
    have hj : j < D.n := by omega
    refine mw_go mu_g430 (k := 3) (f1 := (60, [(1, .inl (nI j)), (0, .inr (.inr (some 169)))], [.inr (.inr (mu_r H 169 18)), .inl (nI j)], H)) (C := [mu_is H (some 169) 1]) rfl (show mu_is H (some 169) 1 from hv.1.2.2.1.1) ?_
    refine mw_fr (f' := (60, [(1, .inl (nI j)), (0, .inr (.inr (some 169)))], [.inr (.inr (some D.mp)), .inl (nI j)], H)) (by first | (rw [hv.1.2.2.1.2]; done) | (rw [hv.1.2.2.1.2]; rfl)) ?_
    refine mw_go mu_g430 (k := 1) (f1 := (63, [(1, .inl (nI j)), (0, .inr (.inr (some 169)))], [.inl (mu_i H D.mp 1), .inl (nI j)], H)) (C := [mu_is H (some D.mp) 16]) rfl (show mu_is H (some D.mp) 16 from om1) ?_
    refine mw_fr (f' := (63, [(1, .inl (nI j)), (0, .inr (.inr (some 169)))], [.inl (nI D.n), .inl (nI j)], H)) (by first | (rw [om1_1]; done) | (rw [om1_1]; rfl)) ?_
    refine mw_if (P := (nI j) < (nI D.n)) (a := 66) (b := 213) (fun _ => rfl) trivial (fun h1 => ?_) (fun h1 => absurd (nI_lt hj (by omega)) h1)
    obtain ⟨oa2, ob2, od2, oe2⟩ := ar_at (i := j) ol1 (by decide) (by rw [on1]; omega) (by rw [on1]; decide)
    have of2 : mu_r H (D.loc 0) (nI j).toNatClampNeg = some (D.ip j) := by rw [oe2]; exact oj1 j hj
    refine mw_go mu_g430 (k := 2) (f1 := (70, [(1, .inl (nI j)), (0, .inr (.inr (some 169)))], [.inr (.inr (mu_r H 169 18))], H)) (C := [mu_is H (some 169) 1]) rfl (show mu_is H (some 169) 1 from hv.1.2.2.1.1) ?_
    refine mw_fr (f' := (70, [(1, .inl (nI j)), (0, .inr (.inr (some 169)))], [.inr (.inr (some D.mp))], H)) (by first | (rw [hv.1.2.2.1.2]; done) | (rw [hv.1.2.2.1.2]; rfl)) ?_
    refine mw_go mu_g430 (k := 1) (f1 := (73, [(1, .inl (nI j)), (0, .inr (.inr (some 169)))], [.inr (.inr (mu_r H D.mp 0))], H)) (C := [mu_is H (some D.mp) 16]) rfl (show mu_is H (some D.mp) 16 from om1) ?_
    refine mw_fr (f' := (73, [(1, .inl (nI j)), (0, .inr (.inr (some 169)))], [.inr (.inr (some (D.loc 0)))], H)) (by first | (rw [om0_1]; done) | (rw [om0_1]; rfl)) ?_
    refine mw_go mu_g430 (k := 2) (f1 := (75, [(1, .inl (nI j)), (0, .inr (.inr (some 169)))], [.inr (.inr (mu_r H (D.loc 0) (nI j).toNatClampNeg))], H)) (C := [mu_is H (some (D.loc 0)) (mu_k H (D.loc 0)), 103 ≤ mu_k H (D.loc 0) ∧ mu_k H (D.loc 0) ≤ 110 ∧ mu_k H (D.loc 0) ≠ 108, vp_in (nI j) (mu_n H (D.loc 0))]) rfl (show (mu_is H (some (D.loc 0)) (mu_k H (D.loc 0))) ∧ (103 ≤ mu_k H (D.loc 0) ∧ mu_k H (D.loc 0) ≤ 110 ∧ mu_k H (D.loc 0) ≠ 108) ∧ (vp_in (nI j) (mu_n H (D.loc 0))) from ⟨oa2, ob2, od2⟩) ?_
    refine mw_fr (f' := (75, [(1, .inl (nI j)), (0, .inr (.inr (some 169)))], [.inr (.inr (some (D.ip j)))], H)) (by first | (rw [of2]; done) | (rw [of2]; rfl)) ?_
    refine mw_go mu_g430 (k := 3) (f1 := (78, [(3, .inl (0 : Int32)), (2, .inr (.inr (some (D.ip j)))), (1, .inl (nI j)), (0, .inr (.inr (some 169)))], [], H)) (C := []) rfl trivial ?_
    refine mw_sub (L' := [(3, .inl (nI 0)), (2, .inr (.inr (some (D.ip j)))), (1, .inl (nI j)), (0, .inr (.inr (some 169)))]) (by intro x hx; simp only [List.mem_cons, List.not_mem_nil, or_false] at hx ⊢; rcases hx with rfl | rfl | rfl | rfl <;> simp [nI]) ?_
    refine rp_mk4 hb hy hmd hma hval hvw hj (fun H1 g1 g2 g3 => ?_) (D.md j).2.2.length 0 _ (Nat.zero_add _) hv hw hf
    refine mw_go mu_g430 (k := 2) (f1 := (55, [(1, .inl ((nI j) + 1)), (0, .inr (.inr (some 169)))], [], H1)) (C := []) rfl trivial ?_
    refine mw_sub (L' := [(1, .inl (nI (j + 1))), (0, .inr (.inr (some 169)))]) (by intro x hx; simp only [List.mem_cons, List.not_mem_nil, or_false] at hx ⊢; rcases hx with rfl | rfl <;> first | (simp [nI_add, show (1 : Int32) = nI 1 from rfl]; done) | simp [nI]) ?_
    exact rp_mk5 hb hy hmd hma hval hvw m_ (j + 1) _ (by omega) g1 g2 g3
theorem rp_mark {tr : Prop} {Hb H : mu_H} {D : MD} {ph pt pk pa mm f : Nat} (hb : mdb D) (hy : mdy D) (hmd : mdn D) (hma : mda D) (hval : valk tr Hb D ph pt pk pa f) (hvw : mvw tr D) (hv : vsta tr Hb D ph pt pk pa H) (hw : mwr D mm H) : mu_TV (mu_D (f + 910)) 430 [.inr (.inr (some 169))] H (fun H1 => vsta tr Hb D ph pt pk pa H1 ∧ mwr D mm H1 ∧ mkf D mm pk pa H H1) := by
  refine mu_meth (M := mu_m430) rfl rfl ?_
  refine mw_ht (mu_fn_of (show [0].Nodup by decide)) ?_
  refine mw_go mu_g430 (k := 2) (f1 := (2, [(1, .inl (0 : Int32)), (0, .inr (.inr (some 169)))], [], H)) (C := []) rfl trivial ?_
  refine mw_sub (L' := [(1, .inl (nI 0)), (0, .inr (.inr (some 169)))]) (by intro x hx; simp only [List.mem_cons, List.not_mem_nil, or_false] at hx ⊢; rcases hx with rfl | rfl <;> simp [nI]) ?_
  exact rp_mk2 hb hy hmd (fun H1 g1 g2 g3 => rp_mk5 hb hy hmd hma hval hvw D.n 0 _ (Nat.zero_add _) g1 g2 g3) (D.pr 1).length 0 _ (Nat.zero_add _) hv hw mkf.rf
