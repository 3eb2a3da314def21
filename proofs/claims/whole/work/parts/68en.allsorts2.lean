/-! The reference: allSorts, the parts -/
set_option maxRecDepth 8000 in
theorem rp_asB {Hb H0 H : mu_H} {D : MD} {od sp d j k y dd : Nat} {ol : Nat → Nat} {ss : Nat → Int32} {Φ : mu_R → Prop} (hb : mdb D) (hy : mdy D) (hj : j < D.n) (hh : sah Hb D H0 od sp ol ss H) (hk : k < (D.md j).2.2.length) (hp : ptw (nth (D.md j).2.2 k)) (k3 : ¬ tkd (nth (D.md j).2.2 k) = 73) (k4 : ¬ tkd (nth (D.md j).2.2 k) = 74) (ka : ¬ tkd (nth (D.md j).2.2 k) ∈ [32, 33, 75]) (nk : nmk D j (tkk (nth (D.md j).2.2 k) 0)) (hny : nd Hb D.G dd y (tkk (nth (D.md j).2.2 k) 0)) (hthr : ∀ H1, ¬ (∀ k, k < (D.md j).2.2.length → soj D ss j k) → wfr [19, 20, 21] [27] 1 10 H0 H1 → Φ (.inr 2, H1)) (hnx : ∀ H1, sah Hb D H0 od sp ol ss H1 → srt D j ss (whr (tkd (nth (D.md j).2.2 k))) 905 0 (tkk (nth (D.md j).2.2 k) 0) = some 1 → mu_W (mu_D (d + 1826)) mu_m461 (111, [(3, .inl (nI (k + 1))), (2, .inr (.inr (some (D.ip j)))), (1, .inl (nI j)), (0, .inr (.inr (some 169)))], [], H1) Φ) : mu_W (mu_D (d + 1826)) mu_m461 (251, [(3, .inl (nI k)), (2, .inr (.inr (some (D.ip j)))), (1, .inl (nI j)), (0, .inr (.inr (some 169)))], [.inl (0 : Int32), .inl (whr (tkd (nth (D.md j).2.2 k))), .inr (.inr (some (D.ip j))), .inr (.inr (some y)), .inr (.inr (some 169)), .inr (.inr (some 169))], H) Φ := by
  refine mw_cE (as := [.inr (.inr (some y)), .inr (.inr (some (D.ip j))), .inl (whr (tkd (nth (D.md j).2.2 k))), .inl (0 : Int32)]) (o := (some 169)) (S1 := [.inr (.inr (some 169))]) rfl rfl rfl rfl (Nat.le_of_ble_eq_true rfl) (by decide) (show mu_is H (some 169) 1 from hh.1.2.2.1.1) rfl (by decide) (mu_Dc (show d + 8 + 2 * 905 + 8 = d + 1826 by omega) (rp_sort (Hb := Hb) (sp := sp) (ss := ss) hb hy hj 905 (d + 8) y (tkk (nth (D.md j).2.2 k) 0) H _ 0 (Or.inl rfl) hh.1 hh.2.1 hny (ptw_e hp ka k3) nk)) (fun E9 e9 => hthr _ (fun z => by have := (z k hk).2 ka k3 k4; rw [e9.1] at this; cases this) ((hh.2.2.2.2.1.tr (e9.2.w (fun _ z => z))).wk (fun _ z => z) (fun _ z => z) (by decide) (by decide))) (fun v9 H1 e9 => ?_)
  obtain ⟨s, rfl, p1, p2⟩ := e9
  show mu_W _ mu_m461 (254, [(3, .inl (nI k)), (2, .inr (.inr (some (D.ip j)))), (1, .inl (nI j)), (0, .inr (.inr (some 169)))], [.inl s, .inr (.inr (some 169))], H1) _
  have hh1 := hh.ff p2
  refine mw_go mu_g461 (k := 1) (f1 := (255, [(3, .inl (nI k)), (2, .inr (.inr (some (D.ip j)))), (1, .inl (nI j)), (0, .inr (.inr (some 169)))], [.inl (1 : Int32), .inl s, .inr (.inr (some 169))], H1)) (C := []) rfl trivial ?_
  refine mw_if (P := s = (1 : Int32)) (a := 258) (b := 262) (fun _ => rfl) trivial (fun h2 => ?_) (fun h2 => ?_)
  · -- 258
    refine mw_go mu_g461 (k := 2) (f1 := (263, [(3, .inl (nI k)), (2, .inr (.inr (some (D.ip j)))), (1, .inl (nI j)), (0, .inr (.inr (some 169)))], [.inl (1 : Int32), .inr (.inr (some 169))], H1)) (C := []) rfl trivial ?_
    refine mw_cE (as := [.inl (1 : Int32)]) (o := some 169) (S1 := []) rfl rfl rfl rfl (Nat.le_of_ble_eq_true rfl) (by decide) hh1.1.2.2.1.1 rfl (by decide) (rp_sound (x := 1)) (fun H9 e9 => absurd e9.1 (by decide)) (fun v9 H9 e9 => ?_)
    obtain ⟨_, rfl, e9⟩ := e9
    rw [e9]
    clear e9 H9
    show mu_W _ mu_m461 (266, [(3, .inl (nI k)), (2, .inr (.inr (some (D.ip j)))), (1, .inl (nI j)), (0, .inr (.inr (some 169)))], [], H1) _
    refine mw_go mu_g461 (k := 2) (f1 := (111, [(3, .inl ((nI k) + 1)), (2, .inr (.inr (some (D.ip j)))), (1, .inl (nI j)), (0, .inr (.inr (some 169)))], [], H1)) (C := []) rfl trivial ?_
    refine mw_sub (L' := [(3, .inl (nI (k + 1))), (2, .inr (.inr (some (D.ip j)))), (1, .inl (nI j)), (0, .inr (.inr (some 169)))]) (by intro x hx; simp only [List.mem_cons, List.not_mem_nil, or_false] at hx ⊢; rcases hx with rfl | rfl | rfl | rfl <;> first | (simp [nI_add, show (1 : Int32) = nI 1 from rfl]; done) | simp [nI]) ?_
    exact hnx _ hh1 (by rw [p1, h2])
  · -- 262
    refine mw_go mu_g461 (k := 1) (f1 := (263, [(3, .inl (nI k)), (2, .inr (.inr (some (D.ip j)))), (1, .inl (nI j)), (0, .inr (.inr (some 169)))], [.inl (0 : Int32), .inr (.inr (some 169))], H1)) (C := []) rfl trivial ?_
    exact mw_cE (as := [.inl (0 : Int32)]) (o := some 169) (S1 := []) rfl rfl rfl rfl (Nat.le_of_ble_eq_true rfl) (by decide) hh1.1.2.2.1.1 rfl (by decide) (rp_sound (x := 0)) (fun H9 e9 => by rw [e9.2]; exact hthr _ (fun z => (by have y9 := (z k hk).2 ka k3 k4; rw [p1] at y9; exact h2 (Option.some.inj y9))) ((hh1.2.2.2.2.1.ex).wk (fun _ z => z) (fun _ z => z) (by decide) (by decide))) (fun v9 H9 e9 => absurd rfl e9.1)
set_option maxRecDepth 8000 in
theorem rp_asI {Hb H0 : mu_H} {D : MD} {od sp l d j : Nat} {ol : Nat → Nat} {ss : Nat → Int32} {Φ : mu_R → Prop} (hb : mdb D) (hy : mdy D) (hj : j < D.n) (hal : alj D l j) (hma : ∀ k, k < (D.md j).2.2.length → tkd (nth (D.md j).2.2 k) ∈ [32, 33, 75] → ∃ q, fnd (D.md j).2.2 73 (nam (nth (D.md j).2.2 k)) = some q ∧ (D.Iv j).2.2.1 q = nI (avr D j (nam (nth (D.md j).2.2 k))) ∧ avr D j (nam (nth (D.md j).2.2 k)) < (D.pr 1).length) (hthr : ∀ H1, ¬ (∀ k, k < (D.md j).2.2.length → soj D ss j k) → wfr [19, 20, 21] [27] 1 10 H0 H1 → Φ (.inr 2, H1)) (hnx : ∀ H, sah Hb D H0 od sp ol ss H → (∀ k, k < (D.md j).2.2.length → soj D ss j k) → mu_W (mu_D (d + 1826)) mu_m461 (272, [(1, .inl (nI j)), (0, .inr (.inr (some 169)))], [], H) Φ) : ∀ m_ k H, k + m_ = (D.md j).2.2.length → sah Hb D H0 od sp ol ss H → (∀ i, i < k → soj D ss j i) → mu_W (mu_D (d + 1826)) mu_m461 (111, [(3, .inl (nI k)), (2, .inr (.inr (some (D.ip j)))), (1, .inl (nI j)), (0, .inr (.inr (some 169)))], [], H) Φ
  | 0, k, H, hm_, hh, hd => by
    obtain ⟨ia1, ⟨m, im1, id1⟩, ig1, ⟨iv1, ii1, if1⟩, vz1, nz1, dz1, wf1, w31_1⟩ := hh.1.ins hj
    obtain ⟨mi2, ⟨mw2, mr0_2, ms2⟩, ⟨mp2, mr1_2, mpn2⟩, mq2, mr2_2, mqn2⟩ := mdf.ra (y := (D.md j)) id1 hh.1.2.1
    obtain ⟨kd3, ⟨is3, nF3, lt3⟩, ⟨st3, sr3, sf3⟩, ⟨n2_3, n3_3, n7_3⟩, nm3, ar3, aq3, aF3, ai3, ⟨al3, am3, ax3⟩, ch3, dp3⟩ := nd.ra (c := (tmk 67 0 [] (D.md j).2.2)) mqn2 hh.1.2.1
    refine mw_go mu_g461 (k := 3) (f1 := (116, [(3, .inl (nI k)), (2, .inr (.inr (some (D.ip j)))), (1, .inl (nI j)), (0, .inr (.inr (some 169)))], [.inr (.inr (mu_r H (D.ip j) 0)), .inl (nI k)], H)) (C := [mu_is H (some (D.ip j)) 15]) rfl (show mu_is H (some (D.ip j)) 15 from ia1) ?_
    refine mw_fr (f' := (116, [(3, .inl (nI k)), (2, .inr (.inr (some (D.ip j)))), (1, .inl (nI j)), (0, .inr (.inr (some 169)))], [.inr (.inr (some m)), .inl (nI k)], H)) (by first | (rw [im1]; done) | (rw [im1]; rfl)) ?_
    refine mw_go mu_g461 (k := 1) (f1 := (119, [(3, .inl (nI k)), (2, .inr (.inr (some (D.ip j)))), (1, .inl (nI j)), (0, .inr (.inr (some 169)))], [.inr (.inr (mu_r H m 2)), .inl (nI k)], H)) (C := [mu_is H (some m) 17]) rfl (show mu_is H (some m) 17 from mi2) ?_
    refine mw_fr (f' := (119, [(3, .inl (nI k)), (2, .inr (.inr (some (D.ip j)))), (1, .inl (nI j)), (0, .inr (.inr (some 169)))], [.inr (.inr (some mq2)), .inl (nI k)], H)) (by first | (rw [mr2_2]; done) | (rw [mr2_2]; rfl)) ?_
    refine mw_go mu_g461 (k := 1) (f1 := (122, [(3, .inl (nI k)), (2, .inr (.inr (some (D.ip j)))), (1, .inl (nI j)), (0, .inr (.inr (some 169)))], [.inl (mu_i H mq2 2), .inl (nI k)], H)) (C := [mu_is H (some mq2) 18]) rfl (show mu_is H (some mq2) 18 from is3) ?_
    refine mw_fr (f' := (122, [(3, .inl (nI k)), (2, .inr (.inr (some (D.ip j)))), (1, .inl (nI j)), (0, .inr (.inr (some 169)))], [.inl (nI (D.md j).2.2.length), .inl (nI k)], H)) (by first | (rw [n2_3]; done) | (rw [n2_3]; rfl)) ?_
    refine mw_if (P := (nI k) < (nI (D.md j).2.2.length)) (a := 125) (b := 272) (fun _ => rfl) trivial (fun h1 => absurd h1 (by rw [show k = (D.md j).2.2.length by omega]; exact Int32.lt_irrefl)) (fun h1 => ?_)
    refine mw_sub (L' := [(1, .inl (nI j)), (0, .inr (.inr (some 169)))]) (by simp) ?_
    exact hnx _ hh (fun i hi => hd i (by omega))
  | m_ + 1, k, H, hm_, hh, hd => by
    obtain ⟨ia1, ⟨m, im1, id1⟩, ig1, ⟨iv1, ii1, if1⟩, vz1, nz1, dz1, wf1, w31_1⟩ := hh.1.ins hj
    obtain ⟨mi2, ⟨mw2, mr0_2, ms2⟩, ⟨mp2, mr1_2, mpn2⟩, mq2, mr2_2, mqn2⟩ := mdf.ra (y := (D.md j)) id1 hh.1.2.1
    obtain ⟨kd3, ⟨is3, nF3, lt3⟩, ⟨st3, sr3, sf3⟩, ⟨n2_3, n3_3, n7_3⟩, nm3, ar3, aq3, aF3, ai3, ⟨al3, am3, ax3⟩, ch3, dp3⟩ := nd.ra (c := (tmk 67 0 [] (D.md j).2.2)) mqn2 hh.1.2.1
    have hk : k < (D.md j).2.2.length := by omega
    have hp := (wf1.2 k hk : ptw (nth (D.md j).2.2 k))
    refine mw_go mu_g461 (k := 3) (f1 := (116, [(3, .inl (nI k)), (2, .inr (.inr (some (D.ip j)))), (1, .inl (nI j)), (0, .inr (.inr (some 169)))], [.inr (.inr (mu_r H (D.ip j) 0)), .inl (nI k)], H)) (C := [mu_is H (some (D.ip j)) 15]) rfl (show mu_is H (some (D.ip j)) 15 from ia1) ?_
    refine mw_fr (f' := (116, [(3, .inl (nI k)), (2, .inr (.inr (some (D.ip j)))), (1, .inl (nI j)), (0, .inr (.inr (some 169)))], [.inr (.inr (some m)), .inl (nI k)], H)) (by first | (rw [im1]; done) | (rw [im1]; rfl)) ?_
    refine mw_go mu_g461 (k := 1) (f1 := (119, [(3, .inl (nI k)), (2, .inr (.inr (some (D.ip j)))), (1, .inl (nI j)), (0, .inr (.inr (some 169)))], [.inr (.inr (mu_r H m 2)), .inl (nI k)], H)) (C := [mu_is H (some m) 17]) rfl (show mu_is H (some m) 17 from mi2) ?_
    refine mw_fr (f' := (119, [(3, .inl (nI k)), (2, .inr (.inr (some (D.ip j)))), (1, .inl (nI j)), (0, .inr (.inr (some 169)))], [.inr (.inr (some mq2)), .inl (nI k)], H)) (by first | (rw [mr2_2]; done) | (rw [mr2_2]; rfl)) ?_
    refine mw_go mu_g461 (k := 1) (f1 := (122, [(3, .inl (nI k)), (2, .inr (.inr (some (D.ip j)))), (1, .inl (nI j)), (0, .inr (.inr (some 169)))], [.inl (mu_i H mq2 2), .inl (nI k)], H)) (C := [mu_is H (some mq2) 18]) rfl (show mu_is H (some mq2) 18 from is3) ?_
    refine mw_fr (f' := (122, [(3, .inl (nI k)), (2, .inr (.inr (some (D.ip j)))), (1, .inl (nI j)), (0, .inr (.inr (some 169)))], [.inl (nI (D.md j).2.2.length), .inl (nI k)], H)) (by first | (rw [n2_3]; done) | (rw [n2_3]; rfl)) ?_
    refine mw_if (P := (nI k) < (nI (D.md j).2.2.length)) (a := 125) (b := 272) (fun _ => rfl) trivial (fun h1 => ?_) (fun h1 => absurd (nI_lt hk (by omega)) h1)
    obtain ⟨p, yr4, yn4⟩ := ch3 k hk
    have yn4 : nd Hb D.G (D.lv - 1) p (nth (D.md j).2.2 k) := yn4
    obtain ⟨b1_4, b2_4, b3_4, b4_4⟩ := ar_at ai3 (by decide) (Nat.lt_of_lt_of_le hk al3) (Nat.lt_of_le_of_lt ax3 (by decide))
    have y2_4 : mu_r H ar3 (nI k).toNatClampNeg = some p := by rw [b4_4]; exact yr4
    obtain ⟨kd5, ⟨is5, nF5, lt5⟩, ⟨st5, sr5, sf5⟩, ⟨n2_5, n3_5, n7_5⟩, nm5, ar5, aq5, aF5, ai5, ⟨al5, am5, ax5⟩, ch5, dp5⟩ := nd.ra (c := (nth (D.md j).2.2 k)) yn4 hh.1.2.1
    have hp1 : 0 < tsn (nth (D.md j).2.2 k) := by rw [hp.1.2]; exact Nat.one_pos
    have hp0 : 0 < (tns (nth (D.md j).2.2 k)).length := by rw [hp.1.1]; exact Nat.one_pos
    refine mw_go mu_g461 (k := 2) (f1 := (129, [(3, .inl (nI k)), (2, .inr (.inr (some (D.ip j)))), (1, .inl (nI j)), (0, .inr (.inr (some 169)))], [.inr (.inr (mu_r H (D.ip j) 0))], H)) (C := [mu_is H (some (D.ip j)) 15]) rfl (show mu_is H (some (D.ip j)) 15 from ia1) ?_
    refine mw_fr (f' := (129, [(3, .inl (nI k)), (2, .inr (.inr (some (D.ip j)))), (1, .inl (nI j)), (0, .inr (.inr (some 169)))], [.inr (.inr (some m))], H)) (by first | (rw [im1]; done) | (rw [im1]; rfl)) ?_
    refine mw_go mu_g461 (k := 1) (f1 := (132, [(3, .inl (nI k)), (2, .inr (.inr (some (D.ip j)))), (1, .inl (nI j)), (0, .inr (.inr (some 169)))], [.inr (.inr (mu_r H m 2))], H)) (C := [mu_is H (some m) 17]) rfl (show mu_is H (some m) 17 from mi2) ?_
    refine mw_fr (f' := (132, [(3, .inl (nI k)), (2, .inr (.inr (some (D.ip j)))), (1, .inl (nI j)), (0, .inr (.inr (some 169)))], [.inr (.inr (some mq2))], H)) (by first | (rw [mr2_2]; done) | (rw [mr2_2]; rfl)) ?_
    refine mw_go mu_g461 (k := 1) (f1 := (135, [(3, .inl (nI k)), (2, .inr (.inr (some (D.ip j)))), (1, .inl (nI j)), (0, .inr (.inr (some 169)))], [.inr (.inr (mu_r H mq2 1))], H)) (C := [mu_is H (some mq2) 18]) rfl (show mu_is H (some mq2) 18 from is3) ?_
    refine mw_fr (f' := (135, [(3, .inl (nI k)), (2, .inr (.inr (some (D.ip j)))), (1, .inl (nI j)), (0, .inr (.inr (some 169)))], [.inr (.inr (some ar3))], H)) (by first | (rw [aq3]; done) | (rw [aq3]; rfl)) ?_
    refine mw_go mu_g461 (k := 2) (f1 := (137, [(3, .inl (nI k)), (2, .inr (.inr (some (D.ip j)))), (1, .inl (nI j)), (0, .inr (.inr (some 169)))], [.inr (.inr (mu_r H ar3 (nI k).toNatClampNeg))], H)) (C := [mu_is H (some ar3) (mu_k H ar3), 103 ≤ mu_k H ar3 ∧ mu_k H ar3 ≤ 110 ∧ mu_k H ar3 ≠ 108, vp_in (nI k) (mu_n H ar3)]) rfl (show (mu_is H (some ar3) (mu_k H ar3)) ∧ (103 ≤ mu_k H ar3 ∧ mu_k H ar3 ≤ 110 ∧ mu_k H ar3 ≠ 108) ∧ (vp_in (nI k) (mu_n H ar3)) from ⟨b1_4, b2_4, b3_4⟩) ?_
    refine mw_fr (f' := (137, [(3, .inl (nI k)), (2, .inr (.inr (some (D.ip j)))), (1, .inl (nI j)), (0, .inr (.inr (some 169)))], [.inr (.inr (some p))], H)) (by first | (rw [y2_4]; done) | (rw [y2_4]; rfl)) ?_
    refine mw_go mu_g461 (k := 3) (f1 := (142, [(4, .inr (.inr (some p))), (3, .inl (nI k)), (2, .inr (.inr (some (D.ip j)))), (1, .inl (nI j)), (0, .inr (.inr (some 169)))], [.inr (.inr (some p)), .inr (.inr (some 169))], H)) (C := []) rfl trivial ?_
    refine mw_cIe (fun _ => rfl) (show mu_is H (some 169) 1 from hh.1.2.2.1.1) (rq_assigns (d := d + 1822) yn4 hh.1.2.1) ?_
    refine mw_if (P := (if tkd (nth (D.md j).2.2 k) ∈ [32, 33, 75] then 1 else 0) = 0) (a := 189) (b := 148) (fun _ => rfl) trivial (fun h2 => ?_) (fun h2 => ?_)
    · -- 189
      have ka : ¬ tkd (nth (D.md j).2.2 k) ∈ [32, 33, 75] := fun e => by rw [if_pos e] at h2; exact absurd h2 (by decide)
      refine mw_go mu_g461 (k := 2) (f1 := (194, [(4, .inr (.inr (some p))), (3, .inl (nI k)), (2, .inr (.inr (some (D.ip j)))), (1, .inl (nI j)), (0, .inr (.inr (some 169)))], [.inr (.inr (some 1000073)), .inr (.inr (some p))], H)) (C := []) rfl trivial ?_
      refine mw_cIe (fun _ => rfl) (show mu_is H (some p) 18 from is5) (agr.isL (e := d + 1823) (j := 73) yn4 hh.1.2.1 (by decide)) ?_
      refine mw_if (P := (if tkd (nth (D.md j).2.2 k) = 73 then 1 else 0) = 0) (a := 200) (b := 266) (fun _ => rfl) trivial (fun hi6 => ?_) (fun hi6 => ?_)
      · -- 200
        have ek6 : ¬ tkd (nth (D.md j).2.2 k) = 73 := fun e => by rw [if_pos e] at hi6; exact absurd hi6 (by decide)
        refine mw_go mu_g461 (k := 2) (f1 := (205, [(4, .inr (.inr (some p))), (3, .inl (nI k)), (2, .inr (.inr (some (D.ip j)))), (1, .inl (nI j)), (0, .inr (.inr (some 169)))], [.inr (.inr (some 1000074)), .inr (.inr (some p))], H)) (C := []) rfl trivial ?_
        refine mw_cIe (fun _ => rfl) (show mu_is H (some p) 18 from is5) (agr.isL (e := d + 1823) (j := 74) yn4 hh.1.2.1 (by decide)) ?_
        refine mw_if (P := (if tkd (nth (D.md j).2.2 k) = 74 then 1 else 0) = 0) (a := 211) (b := 266) (fun _ => rfl) trivial (fun hi7 => ?_) (fun hi7 => ?_)
        · -- 211
          have ek7 : ¬ tkd (nth (D.md j).2.2 k) = 74 := fun e => by rw [if_pos e] at hi7; exact absurd hi7 (by decide)
          have nk := hal k hk ek6
          obtain ⟨y, yr8, yn8⟩ := ch5 0 hp1
          have yn8 : nd Hb D.G ((D.lv - 1) - 1) y (tkk (nth (D.md j).2.2 k) 0) := yn8
          obtain ⟨b1_8, b2_8, b3_8, b4_8⟩ := ar_at ai5 (by decide) (Nat.lt_of_lt_of_le hp1 al5) (Nat.lt_of_le_of_lt ax5 (by decide))
          have y2_8 : mu_r H ar5 (0 : Int32).toNatClampNeg = some y := yr8
          refine mw_go mu_g461 (k := 4) (f1 := (218, [(4, .inr (.inr (some p))), (3, .inl (nI k)), (2, .inr (.inr (some (D.ip j)))), (1, .inl (nI j)), (0, .inr (.inr (some 169)))], [.inr (.inr (mu_r H p 1)), .inr (.inr (some 169)), .inr (.inr (some 169))], H)) (C := [mu_is H (some p) 18]) rfl (show mu_is H (some p) 18 from is5) ?_
          refine mw_fr (f' := (218, [(4, .inr (.inr (some p))), (3, .inl (nI k)), (2, .inr (.inr (some (D.ip j)))), (1, .inl (nI j)), (0, .inr (.inr (some 169)))], [.inr (.inr (some ar5)), .inr (.inr (some 169)), .inr (.inr (some 169))], H)) (by first | (rw [aq5]; done) | (rw [aq5]; rfl)) ?_
          refine mw_go mu_g461 (k := 2) (f1 := (220, [(4, .inr (.inr (some p))), (3, .inl (nI k)), (2, .inr (.inr (some (D.ip j)))), (1, .inl (nI j)), (0, .inr (.inr (some 169)))], [.inr (.inr (mu_r H ar5 (0 : Int32).toNatClampNeg)), .inr (.inr (some 169)), .inr (.inr (some 169))], H)) (C := [mu_is H (some ar5) (mu_k H ar5), 103 ≤ mu_k H ar5 ∧ mu_k H ar5 ≤ 110 ∧ mu_k H ar5 ≠ 108, vp_in (0 : Int32) (mu_n H ar5)]) rfl (show (mu_is H (some ar5) (mu_k H ar5)) ∧ (103 ≤ mu_k H ar5 ∧ mu_k H ar5 ≤ 110 ∧ mu_k H ar5 ≠ 108) ∧ (vp_in (0 : Int32) (mu_n H ar5)) from ⟨b1_8, b2_8, b3_8⟩) ?_
          refine mw_fr (f' := (220, [(4, .inr (.inr (some p))), (3, .inl (nI k)), (2, .inr (.inr (some (D.ip j)))), (1, .inl (nI j)), (0, .inr (.inr (some 169)))], [.inr (.inr (some y)), .inr (.inr (some 169)), .inr (.inr (some 169))], H)) (by first | (rw [y2_8]; done) | (rw [y2_8]; rfl)) ?_
          refine mw_go mu_g461 (k := 3) (f1 := (225, [(4, .inr (.inr (some p))), (3, .inl (nI k)), (2, .inr (.inr (some (D.ip j)))), (1, .inl (nI j)), (0, .inr (.inr (some 169)))], [.inr (.inr (some 1000036)), .inr (.inr (some p)), .inr (.inr (some (D.ip j))), .inr (.inr (some y)), .inr (.inr (some 169)), .inr (.inr (some 169))], H)) (C := []) rfl trivial ?_
          refine mw_cIe (fun _ => rfl) (show mu_is H (some p) 18 from is5) (agr.isL (e := d + 1823) (j := 36) yn4 hh.1.2.1 (by decide)) ?_
          refine mw_if (P := (if tkd (nth (D.md j).2.2 k) = 36 then 1 else 0) = 0) (a := 235) (b := 231) (fun _ => rfl) trivial (fun hi9 => ?_) (fun hi9 => ?_)
          · -- 235
            have ek9 : ¬ tkd (nth (D.md j).2.2 k) = 36 := fun e => by rw [if_pos e] at hi9; exact absurd hi9 (by decide)
            refine mw_go mu_g461 (k := 2) (f1 := (239, [(4, .inr (.inr (some p))), (3, .inl (nI k)), (2, .inr (.inr (some (D.ip j)))), (1, .inl (nI j)), (0, .inr (.inr (some 169)))], [.inr (.inr (some 1000038)), .inr (.inr (some p)), .inr (.inr (some (D.ip j))), .inr (.inr (some y)), .inr (.inr (some 169)), .inr (.inr (some 169))], H)) (C := []) rfl trivial ?_
            refine mw_cIe (fun _ => rfl) (show mu_is H (some p) 18 from is5) (agr.isL (e := d + 1823) (j := 38) yn4 hh.1.2.1 (by decide)) ?_
            refine mw_if (P := (if tkd (nth (D.md j).2.2 k) = 38 then 1 else 0) = 0) (a := 249) (b := 245) (fun _ => rfl) trivial (fun hi10 => ?_) (fun hi10 => ?_)
            · -- 249
              have ek10 : ¬ tkd (nth (D.md j).2.2 k) = 38 := fun e => by rw [if_pos e] at hi10; exact absurd hi10 (by decide)
              refine mw_go mu_g461 (k := 2) (f1 := (251, [(4, .inr (.inr (some p))), (3, .inl (nI k)), (2, .inr (.inr (some (D.ip j)))), (1, .inl (nI j)), (0, .inr (.inr (some 169)))], [.inl (0 : Int32), .inl (0 : Int32), .inr (.inr (some (D.ip j))), .inr (.inr (some y)), .inr (.inr (some 169)), .inr (.inr (some 169))], H)) (C := []) rfl trivial ?_
              have ew : whr (tkd (nth (D.md j).2.2 k)) = (0 : Int32) := by rw [whr, if_neg ek9, if_neg ek10]
              refine mw_fr (f' := (251, [(4, .inr (.inr (some p))), (3, .inl (nI k)), (2, .inr (.inr (some (D.ip j)))), (1, .inl (nI j)), (0, .inr (.inr (some 169)))], [.inl (0 : Int32), .inl (whr (tkd (nth (D.md j).2.2 k))), .inr (.inr (some (D.ip j))), .inr (.inr (some y)), .inr (.inr (some 169)), .inr (.inr (some 169))], H)) (by rw [ew]) ?_
              refine mw_sub (L' := [(3, .inl (nI k)), (2, .inr (.inr (some (D.ip j)))), (1, .inl (nI j)), (0, .inr (.inr (some 169)))]) (by simp) ?_
              refine rp_asB hb hy hj hh hk hp ek6 ek7 ka ⟨_, nk⟩ yn8 hthr (fun H1 z1 z2 => ?_)
              refine rp_asI hb hy hj hal hma hthr hnx m_ (k + 1) _ (by omega) z1 (fun i hi => by
                  by_cases e : i = k
                  · subst e; exact ⟨fun z => absurd z ka, fun _ _ _ => z2⟩
                  · exact hd i (by omega))
            · -- 245
              have ek10 : tkd (nth (D.md j).2.2 k) = 38 := Decidable.byContradiction (fun e => hi10 (if_neg e))
              refine mw_go mu_g461 (k := 3) (f1 := (251, [(4, .inr (.inr (some p))), (3, .inl (nI k)), (2, .inr (.inr (some (D.ip j)))), (1, .inl (nI j)), (0, .inr (.inr (some 169)))], [.inl (0 : Int32), .inl (2 : Int32), .inr (.inr (some (D.ip j))), .inr (.inr (some y)), .inr (.inr (some 169)), .inr (.inr (some 169))], H)) (C := []) rfl trivial ?_
              have ew : whr (tkd (nth (D.md j).2.2 k)) = (2 : Int32) := by rw [whr, if_neg ek9, if_pos ek10]
              refine mw_fr (f' := (251, [(4, .inr (.inr (some p))), (3, .inl (nI k)), (2, .inr (.inr (some (D.ip j)))), (1, .inl (nI j)), (0, .inr (.inr (some 169)))], [.inl (0 : Int32), .inl (whr (tkd (nth (D.md j).2.2 k))), .inr (.inr (some (D.ip j))), .inr (.inr (some y)), .inr (.inr (some 169)), .inr (.inr (some 169))], H)) (by rw [ew]) ?_
              refine mw_sub (L' := [(3, .inl (nI k)), (2, .inr (.inr (some (D.ip j)))), (1, .inl (nI j)), (0, .inr (.inr (some 169)))]) (by simp) ?_
              refine rp_asB hb hy hj hh hk hp ek6 ek7 ka ⟨_, nk⟩ yn8 hthr (fun H1 z1 z2 => ?_)
              refine rp_asI hb hy hj hal hma hthr hnx m_ (k + 1) _ (by omega) z1 (fun i hi => by
                  by_cases e : i = k
                  · subst e; exact ⟨fun z => absurd z ka, fun _ _ _ => z2⟩
                  · exact hd i (by omega))
          · -- 231
            have ek9 : tkd (nth (D.md j).2.2 k) = 36 := Decidable.byContradiction (fun e => hi9 (if_neg e))
            refine mw_go mu_g461 (k := 3) (f1 := (251, [(4, .inr (.inr (some p))), (3, .inl (nI k)), (2, .inr (.inr (some (D.ip j)))), (1, .inl (nI j)), (0, .inr (.inr (some 169)))], [.inl (0 : Int32), .inl (1 : Int32), .inr (.inr (some (D.ip j))), .inr (.inr (some y)), .inr (.inr (some 169)), .inr (.inr (some 169))], H)) (C := []) rfl trivial ?_
            have ew : whr (tkd (nth (D.md j).2.2 k)) = (1 : Int32) := if_pos ek9
            refine mw_fr (f' := (251, [(4, .inr (.inr (some p))), (3, .inl (nI k)), (2, .inr (.inr (some (D.ip j)))), (1, .inl (nI j)), (0, .inr (.inr (some 169)))], [.inl (0 : Int32), .inl (whr (tkd (nth (D.md j).2.2 k))), .inr (.inr (some (D.ip j))), .inr (.inr (some y)), .inr (.inr (some 169)), .inr (.inr (some 169))], H)) (by rw [ew]) ?_
            refine mw_sub (L' := [(3, .inl (nI k)), (2, .inr (.inr (some (D.ip j)))), (1, .inl (nI j)), (0, .inr (.inr (some 169)))]) (by simp) ?_
            refine rp_asB hb hy hj hh hk hp ek6 ek7 ka ⟨_, nk⟩ yn8 hthr (fun H1 z1 z2 => ?_)
            refine rp_asI hb hy hj hal hma hthr hnx m_ (k + 1) _ (by omega) z1 (fun i hi => by
                by_cases e : i = k
                · subst e; exact ⟨fun z => absurd z ka, fun _ _ _ => z2⟩
                · exact hd i (by omega))
        · -- 266
          have ek7 : tkd (nth (D.md j).2.2 k) = 74 := Decidable.byContradiction (fun e => hi7 (if_neg e))
          refine mw_go mu_g461 (k := 2) (f1 := (111, [(3, .inl ((nI k) + 1)), (4, .inr (.inr (some p))), (2, .inr (.inr (some (D.ip j)))), (1, .inl (nI j)), (0, .inr (.inr (some 169)))], [], H)) (C := []) rfl trivial ?_
          refine mw_sub (L' := [(3, .inl (nI (k + 1))), (2, .inr (.inr (some (D.ip j)))), (1, .inl (nI j)), (0, .inr (.inr (some 169)))]) (by intro x hx; simp only [List.mem_cons, List.not_mem_nil, or_false] at hx ⊢; rcases hx with rfl | rfl | rfl | rfl <;> first | (simp [nI_add, show (1 : Int32) = nI 1 from rfl]; done) | simp [nI]) ?_
          exact rp_asI hb hy hj hal hma hthr hnx m_ (k + 1) _ (by omega) hh (fun i hi => by
              by_cases e : i = k
              · subst e; exact ⟨fun z => absurd z ka, fun _ _ z => absurd ek7 z⟩
              · exact hd i (by omega))
      · -- 266
        have ek6 : tkd (nth (D.md j).2.2 k) = 73 := Decidable.byContradiction (fun e => hi6 (if_neg e))
        refine mw_go mu_g461 (k := 2) (f1 := (111, [(3, .inl ((nI k) + 1)), (4, .inr (.inr (some p))), (2, .inr (.inr (some (D.ip j)))), (1, .inl (nI j)), (0, .inr (.inr (some 169)))], [], H)) (C := []) rfl trivial ?_
        refine mw_sub (L' := [(3, .inl (nI (k + 1))), (2, .inr (.inr (some (D.ip j)))), (1, .inl (nI j)), (0, .inr (.inr (some 169)))]) (by intro x hx; simp only [List.mem_cons, List.not_mem_nil, or_false] at hx ⊢; rcases hx with rfl | rfl | rfl | rfl <;> first | (simp [nI_add, show (1 : Int32) = nI 1 from rfl]; done) | simp [nI]) ?_
        exact rp_asI hb hy hj hal hma hthr hnx m_ (k + 1) _ (by omega) hh (fun i hi => by
            by_cases e : i = k
            · subst e; exact ⟨fun z => absurd z ka, fun _ z => absurd ek6 z⟩
            · exact hd i (by omega))
    · -- 148
      have ka : tkd (nth (D.md j).2.2 k) ∈ [32, 33, 75] := Decidable.byContradiction (fun e => h2 (if_neg e))
      have nk := hal k hk (fun z => by rw [z] at ka; exact absurd ka (by decide))
      obtain ⟨fq, f1, f2, f3⟩ := hma k hk ka
      have fl := (fio_some _ _ _ f1).2.2.1
      have b5 := hb.2.2.1
      have gx : mu_i H (D.iv j) (nI fq).toNatClampNeg = nI (avr D j (nam (nth (D.md j).2.2 k))) := by rw [nI_clamp (show fq < 2 ^ 31 by omega), vz1.2.2 fq (by omega)]; exact f2
      have gi : vp_in (nI fq) (mu_n H (D.iv j)) := by rw [vz1.2.1]; exact vp_in_nI (by omega) (by omega)
      obtain ⟨y, yr11, yn11⟩ := ch5 0 hp1
      have yn11 : nd Hb D.G ((D.lv - 1) - 1) y (tkk (nth (D.md j).2.2 k) 0) := yn11
      obtain ⟨b1_11, b2_11, b3_11, b4_11⟩ := ar_at ai5 (by decide) (Nat.lt_of_lt_of_le hp1 al5) (Nat.lt_of_le_of_lt ax5 (by decide))
      have y2_11 : mu_r H ar5 (0 : Int32).toNatClampNeg = some y := yr11
      obtain ⟨nb12, nr12, nbF12, ni12, nn12, nl12, nk12⟩ := nm5.rd hp0
      obtain ⟨ns12, nz12, nf12⟩ := nk12 0 hp0
      obtain ⟨c1_12, c2_12, c3_12, c4_12⟩ := ar_at (i := 0) ni12 (by decide) (by rw [nn12]; exact hp0) (by rw [nn12]; omega)
      have nx12 : mu_r H nb12 (0 : Int32).toNatClampNeg = some ns12 := nz12
      refine mw_go mu_g461 (k := 3) (f1 := (154, [(4, .inr (.inr (some p))), (3, .inl (nI k)), (2, .inr (.inr (some (D.ip j)))), (1, .inl (nI j)), (0, .inr (.inr (some 169)))], [.inr (.inr (mu_r H p 1)), .inr (.inr (some 169))], H)) (C := [mu_is H (some p) 18]) rfl (show mu_is H (some p) 18 from is5) ?_
      refine mw_fr (f' := (154, [(4, .inr (.inr (some p))), (3, .inl (nI k)), (2, .inr (.inr (some (D.ip j)))), (1, .inl (nI j)), (0, .inr (.inr (some 169)))], [.inr (.inr (some ar5)), .inr (.inr (some 169))], H)) (by first | (rw [aq5]; done) | (rw [aq5]; rfl)) ?_
      refine mw_go mu_g461 (k := 2) (f1 := (156, [(4, .inr (.inr (some p))), (3, .inl (nI k)), (2, .inr (.inr (some (D.ip j)))), (1, .inl (nI j)), (0, .inr (.inr (some 169)))], [.inr (.inr (mu_r H ar5 (0 : Int32).toNatClampNeg)), .inr (.inr (some 169))], H)) (C := [mu_is H (some ar5) (mu_k H ar5), 103 ≤ mu_k H ar5 ∧ mu_k H ar5 ≤ 110 ∧ mu_k H ar5 ≠ 108, vp_in (0 : Int32) (mu_n H ar5)]) rfl (show (mu_is H (some ar5) (mu_k H ar5)) ∧ (103 ≤ mu_k H ar5 ∧ mu_k H ar5 ≤ 110 ∧ mu_k H ar5 ≠ 108) ∧ (vp_in (0 : Int32) (mu_n H ar5)) from ⟨b1_11, b2_11, b3_11⟩) ?_
      refine mw_fr (f' := (156, [(4, .inr (.inr (some p))), (3, .inl (nI k)), (2, .inr (.inr (some (D.ip j)))), (1, .inl (nI j)), (0, .inr (.inr (some 169)))], [.inr (.inr (some y)), .inr (.inr (some 169))], H)) (by first | (rw [y2_11]; done) | (rw [y2_11]; rfl)) ?_
      refine mw_go mu_g461 (k := 4) (f1 := (162, [(4, .inr (.inr (some p))), (3, .inl (nI k)), (2, .inr (.inr (some (D.ip j)))), (1, .inl (nI j)), (0, .inr (.inr (some 169)))], [.inr (.inr (mu_r H (D.ip j) 3)), .inr (.inr (some 169)), .inr (.inr (some (D.ip j))), .inr (.inr (some y)), .inr (.inr (some 169))], H)) (C := [mu_is H (some (D.ip j)) 15]) rfl (show mu_is H (some (D.ip j)) 15 from ia1) ?_
      refine mw_fr (f' := (162, [(4, .inr (.inr (some p))), (3, .inl (nI k)), (2, .inr (.inr (some (D.ip j)))), (1, .inl (nI j)), (0, .inr (.inr (some 169)))], [.inr (.inr (some (D.iv j))), .inr (.inr (some 169)), .inr (.inr (some (D.ip j))), .inr (.inr (some y)), .inr (.inr (some 169))], H)) (by first | (rw [iv1]; done) | (rw [iv1]; rfl)) ?_
      refine mw_go mu_g461 (k := 2) (f1 := (166, [(4, .inr (.inr (some p))), (3, .inl (nI k)), (2, .inr (.inr (some (D.ip j)))), (1, .inl (nI j)), (0, .inr (.inr (some 169)))], [.inr (.inr (mu_r H (D.ip j) 0)), .inr (.inr (some (D.iv j))), .inr (.inr (some 169)), .inr (.inr (some (D.ip j))), .inr (.inr (some y)), .inr (.inr (some 169))], H)) (C := [mu_is H (some (D.ip j)) 15]) rfl (show mu_is H (some (D.ip j)) 15 from ia1) ?_
      refine mw_fr (f' := (166, [(4, .inr (.inr (some p))), (3, .inl (nI k)), (2, .inr (.inr (some (D.ip j)))), (1, .inl (nI j)), (0, .inr (.inr (some 169)))], [.inr (.inr (some m)), .inr (.inr (some (D.iv j))), .inr (.inr (some 169)), .inr (.inr (some (D.ip j))), .inr (.inr (some y)), .inr (.inr (some 169))], H)) (by first | (rw [im1]; done) | (rw [im1]; rfl)) ?_
      refine mw_go mu_g461 (k := 3) (f1 := (174, [(4, .inr (.inr (some p))), (3, .inl (nI k)), (2, .inr (.inr (some (D.ip j)))), (1, .inl (nI j)), (0, .inr (.inr (some 169)))], [.inr (.inr (mu_r H p 4)), .inr (.inr (some 1000073)), .inr (.inr (some m)), .inr (.inr (some (D.iv j))), .inr (.inr (some 169)), .inr (.inr (some (D.ip j))), .inr (.inr (some y)), .inr (.inr (some 169))], H)) (C := [mu_is H (some p) 18]) rfl (show mu_is H (some p) 18 from is5) ?_
      refine mw_fr (f' := (174, [(4, .inr (.inr (some p))), (3, .inl (nI k)), (2, .inr (.inr (some (D.ip j)))), (1, .inl (nI j)), (0, .inr (.inr (some 169)))], [.inr (.inr (some nb12)), .inr (.inr (some 1000073)), .inr (.inr (some m)), .inr (.inr (some (D.iv j))), .inr (.inr (some 169)), .inr (.inr (some (D.ip j))), .inr (.inr (some y)), .inr (.inr (some 169))], H)) (by first | (rw [nr12]; done) | (rw [nr12]; rfl)) ?_
      refine mw_go mu_g461 (k := 2) (f1 := (176, [(4, .inr (.inr (some p))), (3, .inl (nI k)), (2, .inr (.inr (some (D.ip j)))), (1, .inl (nI j)), (0, .inr (.inr (some 169)))], [.inr (.inr (mu_r H nb12 (0 : Int32).toNatClampNeg)), .inr (.inr (some 1000073)), .inr (.inr (some m)), .inr (.inr (some (D.iv j))), .inr (.inr (some 169)), .inr (.inr (some (D.ip j))), .inr (.inr (some y)), .inr (.inr (some 169))], H)) (C := [mu_is H (some nb12) (mu_k H nb12), 103 ≤ mu_k H nb12 ∧ mu_k H nb12 ≤ 110 ∧ mu_k H nb12 ≠ 108, vp_in (0 : Int32) (mu_n H nb12)]) rfl (show (mu_is H (some nb12) (mu_k H nb12)) ∧ (103 ≤ mu_k H nb12 ∧ mu_k H nb12 ≤ 110 ∧ mu_k H nb12 ≠ 108) ∧ (vp_in (0 : Int32) (mu_n H nb12)) from ⟨c1_12, c2_12, c3_12⟩) ?_
      refine mw_fr (f' := (176, [(4, .inr (.inr (some p))), (3, .inl (nI k)), (2, .inr (.inr (some (D.ip j)))), (1, .inl (nI j)), (0, .inr (.inr (some 169)))], [.inr (.inr (some ns12)), .inr (.inr (some 1000073)), .inr (.inr (some m)), .inr (.inr (some (D.iv j))), .inr (.inr (some 169)), .inr (.inr (some (D.ip j))), .inr (.inr (some y)), .inr (.inr (some 169))], H)) (by first | (rw [nx12]; done) | (rw [nx12]; rfl)) ?_
      refine mw_cIe (fun _ => rfl) trivial (rq_find (d := d + 1822) (j := 73) hh.1.2.1 id1 wf1.2 nf12 (by decide)) ?_
      refine mw_fr (f' := (179, [(4, .inr (.inr (some p))), (3, .inl (nI k)), (2, .inr (.inr (some (D.ip j)))), (1, .inl (nI j)), (0, .inr (.inr (some 169)))], [.inl (nI fq), .inr (.inr (some (D.iv j))), .inr (.inr (some 169)), .inr (.inr (some (D.ip j))), .inr (.inr (some y)), .inr (.inr (some 169))], H)) (by rw [f1]; rfl) ?_
      refine mw_go mu_g461 (k := 1) (f1 := (180, [(4, .inr (.inr (some p))), (3, .inl (nI k)), (2, .inr (.inr (some (D.ip j)))), (1, .inl (nI j)), (0, .inr (.inr (some 169)))], [.inl (mu_i H (D.iv j) (nI fq).toNatClampNeg), .inr (.inr (some 169)), .inr (.inr (some (D.ip j))), .inr (.inr (some y)), .inr (.inr (some 169))], H)) (C := [mu_isr H (some (D.iv j)) 100, vp_in (nI fq) (mu_n H (D.iv j))]) rfl (show (mu_isr H (some (D.iv j)) 100) ∧ (vp_in (nI fq) (mu_n H (D.iv j))) from ⟨vz1.1.r, gi⟩) ?_
      refine mw_fr (f' := (180, [(4, .inr (.inr (some p))), (3, .inl (nI k)), (2, .inr (.inr (some (D.ip j)))), (1, .inl (nI j)), (0, .inr (.inr (some 169)))], [.inl (nI (avr D j (nam (nth (D.md j).2.2 k)))), .inr (.inr (some 169)), .inr (.inr (some (D.ip j))), .inr (.inr (some y)), .inr (.inr (some 169))], H)) (by first | (rw [gx]; done) | (rw [gx]; rfl)) ?_
      refine mw_cIe (fun _ => rfl) (show mu_is H (some 169) 1 from hh.1.2.2.1.1) (rp_sortOf (d := d + 1822) hb hy hh.1 f3) ?_
      refine mw_cE (as := [.inr (.inr (some y)), .inr (.inr (some (D.ip j))), .inl (sof D (avr D j (nam (nth (D.md j).2.2 k))))]) (o := (some 169)) (S1 := []) rfl rfl rfl rfl (Nat.le_of_ble_eq_true rfl) (by decide) (show mu_is H (some 169) 1 from hh.1.2.2.1.1) rfl (by decide) (mu_Dc (show d + 7 + 2 * 905 + 9 = d + 1826 by omega) (rp_choiceS (Hb := Hb) (sp := sp) (ss := ss) hb hy hj 905 (d + 7) y (tkk (nth (D.md j).2.2 k) 0) H _ hh.1 hh.2.1 yn11 (ptw_c hp ka) ⟨_, nk⟩)) (fun E9 e9 => hthr _ (fun z => e9.1 ((z k hk).1 ka)) ((hh.2.2.2.2.1.tr (e9.2.w (fun _ z => z))).wk (fun _ z => z) (fun _ z => z) (by decide) (by decide))) (fun v9 H13 e9 => ?_)
      obtain ⟨rfl, p1, p2⟩ := e9
      show mu_W _ mu_m461 (186, [(4, .inr (.inr (some p))), (3, .inl (nI k)), (2, .inr (.inr (some (D.ip j)))), (1, .inl (nI j)), (0, .inr (.inr (some 169)))], [], H13) _
      have hh1 := hh.ff p2
      refine mw_go mu_g461 (k := 3) (f1 := (111, [(3, .inl ((nI k) + 1)), (4, .inr (.inr (some p))), (2, .inr (.inr (some (D.ip j)))), (1, .inl (nI j)), (0, .inr (.inr (some 169)))], [], H13)) (C := []) rfl trivial ?_
      refine mw_sub (L' := [(3, .inl (nI (k + 1))), (2, .inr (.inr (some (D.ip j)))), (1, .inl (nI j)), (0, .inr (.inr (some 169)))]) (by intro x hx; simp only [List.mem_cons, List.not_mem_nil, or_false] at hx ⊢; rcases hx with rfl | rfl | rfl | rfl <;> first | (simp [nI_add, show (1 : Int32) = nI 1 from rfl]; done) | simp [nI]) ?_
      exact rp_asI hb hy hj hal hma hthr hnx m_ (k + 1) _ (by omega) hh1 (fun i hi => by
          by_cases e : i = k
          · subst e; exact ⟨fun _ => p1, fun z => absurd ka z⟩
          · exact hd i (by omega))
theorem rp_asP {Hb H0 : mu_H} {D : MD} {od sp l d : Nat} {ol : Nat → Nat} {ss : Nat → Int32} {Φ : mu_R → Prop} (hb : mdb D) (hy : mdy D) (hal : ∀ j, j < D.n → alj D l j) (hma : mda D) (hthr : ∀ H1, ¬ srok D ss → wfr [19, 20, 21] [27] 1 10 H0 H1 → Φ (.inr 2, H1)) (hfin : ∀ H, sah Hb D H0 od sp ol ss H → srok D ss → Φ (.inl none, H)) : ∀ m_ j H, j + m_ = D.n → sah Hb D H0 od sp ol ss H → (∀ i, i < j → ∀ k, k < (D.md i).2.2.length → soj D ss i k) → mu_W (mu_D (d + 1826)) mu_m461 (88, [(1, .inl (nI j)), (0, .inr (.inr (some 169)))], [], H) Φ
  | 0, j, H, hm_, hh, hd => by
    obtain ⟨om1, ⟨om0_1, om1_1⟩, ol1, on1, oc1, oj1⟩ := hh.1.mod
    refine mw_go mu_g461 (k := 3) (f1 := (93, [(1, .inl (nI j)), (0, .inr (.inr (some 169)))], [.inr (.inr (mu_r H 169 18)), .inl (nI j)], H)) (C := [mu_is H (some 169) 1]) rfl (show mu_is H (some 169) 1 from hh.1.2.2.1.1) ?_
    refine mw_fr (f' := (93, [(1, .inl (nI j)), (0, .inr (.inr (some 169)))], [.inr (.inr (some D.mp)), .inl (nI j)], H)) (by first | (rw [hh.1.2.2.1.2]; done) | (rw [hh.1.2.2.1.2]; rfl)) ?_
    refine mw_go mu_g461 (k := 1) (f1 := (96, [(1, .inl (nI j)), (0, .inr (.inr (some 169)))], [.inl (mu_i H D.mp 1), .inl (nI j)], H)) (C := [mu_is H (some D.mp) 16]) rfl (show mu_is H (some D.mp) 16 from om1) ?_
    refine mw_fr (f' := (96, [(1, .inl (nI j)), (0, .inr (.inr (some 169)))], [.inl (nI D.n), .inl (nI j)], H)) (by first | (rw [om1_1]; done) | (rw [om1_1]; rfl)) ?_
    refine mw_if (P := (nI j) < (nI D.n)) (a := 99) (b := 278) (fun _ => rfl) trivial (fun h1 => absurd h1 (by rw [show j = D.n by omega]; exact Int32.lt_irrefl)) (fun h1 => ?_)
    exact mw_of (fun _ => mu_ret rfl trivial (hfin _ hh (fun i hi => hd i (by omega))))
  | m_ + 1, j, H, hm_, hh, hd => by
    obtain ⟨om1, ⟨om0_1, om1_1⟩, ol1, on1, oc1, oj1⟩ := hh.1.mod
    have hj : j < D.n := by omega
    refine mw_go mu_g461 (k := 3) (f1 := (93, [(1, .inl (nI j)), (0, .inr (.inr (some 169)))], [.inr (.inr (mu_r H 169 18)), .inl (nI j)], H)) (C := [mu_is H (some 169) 1]) rfl (show mu_is H (some 169) 1 from hh.1.2.2.1.1) ?_
    refine mw_fr (f' := (93, [(1, .inl (nI j)), (0, .inr (.inr (some 169)))], [.inr (.inr (some D.mp)), .inl (nI j)], H)) (by first | (rw [hh.1.2.2.1.2]; done) | (rw [hh.1.2.2.1.2]; rfl)) ?_
    refine mw_go mu_g461 (k := 1) (f1 := (96, [(1, .inl (nI j)), (0, .inr (.inr (some 169)))], [.inl (mu_i H D.mp 1), .inl (nI j)], H)) (C := [mu_is H (some D.mp) 16]) rfl (show mu_is H (some D.mp) 16 from om1) ?_
    refine mw_fr (f' := (96, [(1, .inl (nI j)), (0, .inr (.inr (some 169)))], [.inl (nI D.n), .inl (nI j)], H)) (by first | (rw [om1_1]; done) | (rw [om1_1]; rfl)) ?_
    refine mw_if (P := (nI j) < (nI D.n)) (a := 99) (b := 278) (fun _ => rfl) trivial (fun h1 => ?_) (fun h1 => absurd (nI_lt hj (by omega)) h1)
    obtain ⟨oa2, ob2, od2, oe2⟩ := ar_at (i := j) ol1 (by decide) (by rw [on1]; omega) (by rw [on1]; decide)
    have of2 : mu_r H (D.loc 0) (nI j).toNatClampNeg = some (D.ip j) := by rw [oe2]; exact oj1 j hj
    refine mw_go mu_g461 (k := 2) (f1 := (103, [(1, .inl (nI j)), (0, .inr (.inr (some 169)))], [.inr (.inr (mu_r H 169 18))], H)) (C := [mu_is H (some 169) 1]) rfl (show mu_is H (some 169) 1 from hh.1.2.2.1.1) ?_
    refine mw_fr (f' := (103, [(1, .inl (nI j)), (0, .inr (.inr (some 169)))], [.inr (.inr (some D.mp))], H)) (by first | (rw [hh.1.2.2.1.2]; done) | (rw [hh.1.2.2.1.2]; rfl)) ?_
    refine mw_go mu_g461 (k := 1) (f1 := (106, [(1, .inl (nI j)), (0, .inr (.inr (some 169)))], [.inr (.inr (mu_r H D.mp 0))], H)) (C := [mu_is H (some D.mp) 16]) rfl (show mu_is H (some D.mp) 16 from om1) ?_
    refine mw_fr (f' := (106, [(1, .inl (nI j)), (0, .inr (.inr (some 169)))], [.inr (.inr (some (D.loc 0)))], H)) (by first | (rw [om0_1]; done) | (rw [om0_1]; rfl)) ?_
    refine mw_go mu_g461 (k := 2) (f1 := (108, [(1, .inl (nI j)), (0, .inr (.inr (some 169)))], [.inr (.inr (mu_r H (D.loc 0) (nI j).toNatClampNeg))], H)) (C := [mu_is H (some (D.loc 0)) (mu_k H (D.loc 0)), 103 ≤ mu_k H (D.loc 0) ∧ mu_k H (D.loc 0) ≤ 110 ∧ mu_k H (D.loc 0) ≠ 108, vp_in (nI j) (mu_n H (D.loc 0))]) rfl (show (mu_is H (some (D.loc 0)) (mu_k H (D.loc 0))) ∧ (103 ≤ mu_k H (D.loc 0) ∧ mu_k H (D.loc 0) ≤ 110 ∧ mu_k H (D.loc 0) ≠ 108) ∧ (vp_in (nI j) (mu_n H (D.loc 0))) from ⟨oa2, ob2, od2⟩) ?_
    refine mw_fr (f' := (108, [(1, .inl (nI j)), (0, .inr (.inr (some 169)))], [.inr (.inr (some (D.ip j)))], H)) (by first | (rw [of2]; done) | (rw [of2]; rfl)) ?_
    refine mw_go mu_g461 (k := 3) (f1 := (111, [(3, .inl (0 : Int32)), (2, .inr (.inr (some (D.ip j)))), (1, .inl (nI j)), (0, .inr (.inr (some 169)))], [], H)) (C := []) rfl trivial ?_
    refine mw_sub (L' := [(3, .inl (nI 0)), (2, .inr (.inr (some (D.ip j)))), (1, .inl (nI j)), (0, .inr (.inr (some 169)))]) (by intro x hx; simp only [List.mem_cons, List.not_mem_nil, or_false] at hx ⊢; rcases hx with rfl | rfl | rfl | rfl <;> simp [nI]) ?_
    refine rp_asI (H0 := H0) hb hy hj (hal j hj) (hma j hj) (fun H1 z1 z2 => hthr _ (fun z => z1 (z j hj)) z2) (fun H1 r1 z1 => ?_) (D.md j).2.2.length 0 _ (Nat.zero_add _) hh (fun i hi => absurd hi (Nat.not_lt_zero _))
    refine mw_go mu_g461 (k := 2) (f1 := (88, [(1, .inl ((nI j) + 1)), (0, .inr (.inr (some 169)))], [], H1)) (C := []) rfl trivial ?_
    refine mw_sub (L' := [(1, .inl (nI (j + 1))), (0, .inr (.inr (some 169)))]) (by intro x hx; simp only [List.mem_cons, List.not_mem_nil, or_false] at hx ⊢; rcases hx with rfl | rfl <;> first | (simp [nI_add, show (1 : Int32) = nI 1 from rfl]; done) | simp [nI]) ?_
    exact rp_asP hb hy hal hma hthr hfin m_ (j + 1) _ (by omega) r1 (fun i hi => by
        by_cases e : i = j
        · subst e; exact z1
        · exact hd i (by omega))
