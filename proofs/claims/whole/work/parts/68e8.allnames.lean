/-! The reference: allNames -/
/-- PathProverModel.allNames()V -/
abbrev mu_m459 : ev_M := (5, none, [], ev_b459)
theorem mu_g459 : mu_good mu_m459 := mu_goodk ev_k459
/-- all names of the INSTANCE j are found -/
def alj (D : MD) (l j : Nat) : Prop := ∀ k, k < (D.md j).2.2.length → tkd (nth (D.md j).2.2 k) ≠ 73 → nmo D j l (tkk (nth (D.md j).2.2 k) 0)
theorem ptw_n {l : Nat} {p : Tre} (h : ptw p) (hk : tkd p ≠ 73) (hl : 1810 ≤ l) : nwf l (tkk p 0) := by
  rcases h.2 with z | z | z
  · exact absurd z.1 hk
  · exact z.2.toN.le hl
  · exact z.2.toN.le hl
theorem rp_alI {Hb H0 : mu_H} {D : MD} {l d j : Nat} {Φ : mu_R → Prop} (hj : j < D.n) (hl : 1810 ≤ l) (hthr : ∀ H1, ¬ alj D l j → ffr 1 H0 H1 → Φ (.inr 2, H1)) (hnx : ∀ H, ffr 0 H0 H → rms Hb D H → alj D l j → mu_W (mu_D (d + l + 7)) mu_m459 (86, [(1, .inl (nI j)), (0, .inr (.inr (some 169)))], [], H) Φ) : ∀ m_ k H, k + m_ = (D.md j).2.2.length → rms Hb D H → ffr 0 H0 H → (∀ i, i < k → tkd (nth (D.md j).2.2 i) ≠ 73 → nmo D j l (tkk (nth (D.md j).2.2 i) 0)) → mu_W (mu_D (d + l + 7)) mu_m459 (29, [(3, .inl (nI k)), (2, .inr (.inr (some (D.ip j)))), (1, .inl (nI j)), (0, .inr (.inr (some 169)))], [], H) Φ
  | 0, k, H, hm_, hr, hf, hd => by
    obtain ⟨ia1, ⟨m, im1, id1⟩, ig1, ⟨iv1, ii1, if1⟩, vz1, nz1, dz1, wf1, w31_1⟩ := hr.ins hj
    obtain ⟨mi2, ⟨mw2, mr0_2, ms2⟩, ⟨mp2, mr1_2, mpn2⟩, mq2, mr2_2, mqn2⟩ := mdf.ra (y := (D.md j)) id1 hr.2.1
    obtain ⟨kd3, ⟨is3, nF3, lt3⟩, ⟨st3, sr3, sf3⟩, ⟨n2_3, n3_3, n7_3⟩, nm3, ar3, aq3, aF3, ai3, ⟨al3, am3, ax3⟩, ch3, dp3⟩ := nd.ra (c := (tmk 67 0 [] (D.md j).2.2)) mqn2 hr.2.1
    refine mw_go mu_g459 (k := 3) (f1 := (34, [(3, .inl (nI k)), (2, .inr (.inr (some (D.ip j)))), (1, .inl (nI j)), (0, .inr (.inr (some 169)))], [.inr (.inr (mu_r H (D.ip j) 0)), .inl (nI k)], H)) (C := [mu_is H (some (D.ip j)) 15]) rfl (show mu_is H (some (D.ip j)) 15 from ia1) ?_
    refine mw_fr (f' := (34, [(3, .inl (nI k)), (2, .inr (.inr (some (D.ip j)))), (1, .inl (nI j)), (0, .inr (.inr (some 169)))], [.inr (.inr (some m)), .inl (nI k)], H)) (by first | (rw [im1]; done) | (rw [im1]; rfl)) ?_
    refine mw_go mu_g459 (k := 1) (f1 := (37, [(3, .inl (nI k)), (2, .inr (.inr (some (D.ip j)))), (1, .inl (nI j)), (0, .inr (.inr (some 169)))], [.inr (.inr (mu_r H m 2)), .inl (nI k)], H)) (C := [mu_is H (some m) 17]) rfl (show mu_is H (some m) 17 from mi2) ?_
    refine mw_fr (f' := (37, [(3, .inl (nI k)), (2, .inr (.inr (some (D.ip j)))), (1, .inl (nI j)), (0, .inr (.inr (some 169)))], [.inr (.inr (some mq2)), .inl (nI k)], H)) (by first | (rw [mr2_2]; done) | (rw [mr2_2]; rfl)) ?_
    refine mw_go mu_g459 (k := 1) (f1 := (40, [(3, .inl (nI k)), (2, .inr (.inr (some (D.ip j)))), (1, .inl (nI j)), (0, .inr (.inr (some 169)))], [.inl (mu_i H mq2 2), .inl (nI k)], H)) (C := [mu_is H (some mq2) 18]) rfl (show mu_is H (some mq2) 18 from is3) ?_
    refine mw_fr (f' := (40, [(3, .inl (nI k)), (2, .inr (.inr (some (D.ip j)))), (1, .inl (nI j)), (0, .inr (.inr (some 169)))], [.inl (nI (D.md j).2.2.length), .inl (nI k)], H)) (by first | (rw [n2_3]; done) | (rw [n2_3]; rfl)) ?_
    refine mw_if (P := (nI k) < (nI (D.md j).2.2.length)) (a := 43) (b := 86) (fun _ => rfl) trivial (fun h1 => absurd h1 (by rw [show k = (D.md j).2.2.length by omega]; exact Int32.lt_irrefl)) (fun h1 => ?_)
    refine mw_sub (L' := [(1, .inl (nI j)), (0, .inr (.inr (some 169)))]) (by simp) ?_
    exact hnx _ hf hr (fun i hi z => hd i (by omega) z)
  | m_ + 1, k, H, hm_, hr, hf, hd => by
    obtain ⟨ia1, ⟨m, im1, id1⟩, ig1, ⟨iv1, ii1, if1⟩, vz1, nz1, dz1, wf1, w31_1⟩ := hr.ins hj
    obtain ⟨mi2, ⟨mw2, mr0_2, ms2⟩, ⟨mp2, mr1_2, mpn2⟩, mq2, mr2_2, mqn2⟩ := mdf.ra (y := (D.md j)) id1 hr.2.1
    obtain ⟨kd3, ⟨is3, nF3, lt3⟩, ⟨st3, sr3, sf3⟩, ⟨n2_3, n3_3, n7_3⟩, nm3, ar3, aq3, aF3, ai3, ⟨al3, am3, ax3⟩, ch3, dp3⟩ := nd.ra (c := (tmk 67 0 [] (D.md j).2.2)) mqn2 hr.2.1
    have hk : k < (D.md j).2.2.length := by omega
    have hp := (wf1.2 k hk : ptw (nth (D.md j).2.2 k))
    refine mw_go mu_g459 (k := 3) (f1 := (34, [(3, .inl (nI k)), (2, .inr (.inr (some (D.ip j)))), (1, .inl (nI j)), (0, .inr (.inr (some 169)))], [.inr (.inr (mu_r H (D.ip j) 0)), .inl (nI k)], H)) (C := [mu_is H (some (D.ip j)) 15]) rfl (show mu_is H (some (D.ip j)) 15 from ia1) ?_
    refine mw_fr (f' := (34, [(3, .inl (nI k)), (2, .inr (.inr (some (D.ip j)))), (1, .inl (nI j)), (0, .inr (.inr (some 169)))], [.inr (.inr (some m)), .inl (nI k)], H)) (by first | (rw [im1]; done) | (rw [im1]; rfl)) ?_
    refine mw_go mu_g459 (k := 1) (f1 := (37, [(3, .inl (nI k)), (2, .inr (.inr (some (D.ip j)))), (1, .inl (nI j)), (0, .inr (.inr (some 169)))], [.inr (.inr (mu_r H m 2)), .inl (nI k)], H)) (C := [mu_is H (some m) 17]) rfl (show mu_is H (some m) 17 from mi2) ?_
    refine mw_fr (f' := (37, [(3, .inl (nI k)), (2, .inr (.inr (some (D.ip j)))), (1, .inl (nI j)), (0, .inr (.inr (some 169)))], [.inr (.inr (some mq2)), .inl (nI k)], H)) (by first | (rw [mr2_2]; done) | (rw [mr2_2]; rfl)) ?_
    refine mw_go mu_g459 (k := 1) (f1 := (40, [(3, .inl (nI k)), (2, .inr (.inr (some (D.ip j)))), (1, .inl (nI j)), (0, .inr (.inr (some 169)))], [.inl (mu_i H mq2 2), .inl (nI k)], H)) (C := [mu_is H (some mq2) 18]) rfl (show mu_is H (some mq2) 18 from is3) ?_
    refine mw_fr (f' := (40, [(3, .inl (nI k)), (2, .inr (.inr (some (D.ip j)))), (1, .inl (nI j)), (0, .inr (.inr (some 169)))], [.inl (nI (D.md j).2.2.length), .inl (nI k)], H)) (by first | (rw [n2_3]; done) | (rw [n2_3]; rfl)) ?_
    refine mw_if (P := (nI k) < (nI (D.md j).2.2.length)) (a := 43) (b := 86) (fun _ => rfl) trivial (fun h1 => ?_) (fun h1 => absurd (nI_lt hk (by omega)) h1)
    obtain ⟨p, yr4, yn4⟩ := ch3 k hk
    have yn4 : nd Hb D.G (D.lv - 1) p (nth (D.md j).2.2 k) := yn4
    obtain ⟨b1_4, b2_4, b3_4, b4_4⟩ := ar_at ai3 (by decide) (Nat.lt_of_lt_of_le hk al3) (Nat.lt_of_le_of_lt ax3 (by decide))
    have y2_4 : mu_r H ar3 (nI k).toNatClampNeg = some p := by rw [b4_4]; exact yr4
    obtain ⟨kd5, ⟨is5, nF5, lt5⟩, ⟨st5, sr5, sf5⟩, ⟨n2_5, n3_5, n7_5⟩, nm5, ar5, aq5, aF5, ai5, ⟨al5, am5, ax5⟩, ch5, dp5⟩ := nd.ra (c := (nth (D.md j).2.2 k)) yn4 hr.2.1
    have hp1 : 0 < tsn (nth (D.md j).2.2 k) := by rw [hp.1.2]; exact Nat.one_pos
    refine mw_go mu_g459 (k := 2) (f1 := (47, [(3, .inl (nI k)), (2, .inr (.inr (some (D.ip j)))), (1, .inl (nI j)), (0, .inr (.inr (some 169)))], [.inr (.inr (mu_r H (D.ip j) 0))], H)) (C := [mu_is H (some (D.ip j)) 15]) rfl (show mu_is H (some (D.ip j)) 15 from ia1) ?_
    refine mw_fr (f' := (47, [(3, .inl (nI k)), (2, .inr (.inr (some (D.ip j)))), (1, .inl (nI j)), (0, .inr (.inr (some 169)))], [.inr (.inr (some m))], H)) (by first | (rw [im1]; done) | (rw [im1]; rfl)) ?_
    refine mw_go mu_g459 (k := 1) (f1 := (50, [(3, .inl (nI k)), (2, .inr (.inr (some (D.ip j)))), (1, .inl (nI j)), (0, .inr (.inr (some 169)))], [.inr (.inr (mu_r H m 2))], H)) (C := [mu_is H (some m) 17]) rfl (show mu_is H (some m) 17 from mi2) ?_
    refine mw_fr (f' := (50, [(3, .inl (nI k)), (2, .inr (.inr (some (D.ip j)))), (1, .inl (nI j)), (0, .inr (.inr (some 169)))], [.inr (.inr (some mq2))], H)) (by first | (rw [mr2_2]; done) | (rw [mr2_2]; rfl)) ?_
    refine mw_go mu_g459 (k := 1) (f1 := (53, [(3, .inl (nI k)), (2, .inr (.inr (some (D.ip j)))), (1, .inl (nI j)), (0, .inr (.inr (some 169)))], [.inr (.inr (mu_r H mq2 1))], H)) (C := [mu_is H (some mq2) 18]) rfl (show mu_is H (some mq2) 18 from is3) ?_
    refine mw_fr (f' := (53, [(3, .inl (nI k)), (2, .inr (.inr (some (D.ip j)))), (1, .inl (nI j)), (0, .inr (.inr (some 169)))], [.inr (.inr (some ar3))], H)) (by first | (rw [aq3]; done) | (rw [aq3]; rfl)) ?_
    refine mw_go mu_g459 (k := 2) (f1 := (55, [(3, .inl (nI k)), (2, .inr (.inr (some (D.ip j)))), (1, .inl (nI j)), (0, .inr (.inr (some 169)))], [.inr (.inr (mu_r H ar3 (nI k).toNatClampNeg))], H)) (C := [mu_is H (some ar3) (mu_k H ar3), 103 ≤ mu_k H ar3 ∧ mu_k H ar3 ≤ 110 ∧ mu_k H ar3 ≠ 108, vp_in (nI k) (mu_n H ar3)]) rfl (show (mu_is H (some ar3) (mu_k H ar3)) ∧ (103 ≤ mu_k H ar3 ∧ mu_k H ar3 ≤ 110 ∧ mu_k H ar3 ≠ 108) ∧ (vp_in (nI k) (mu_n H ar3)) from ⟨b1_4, b2_4, b3_4⟩) ?_
    refine mw_fr (f' := (55, [(3, .inl (nI k)), (2, .inr (.inr (some (D.ip j)))), (1, .inl (nI j)), (0, .inr (.inr (some 169)))], [.inr (.inr (some p))], H)) (by first | (rw [y2_4]; done) | (rw [y2_4]; rfl)) ?_
    refine mw_go mu_g459 (k := 3) (f1 := (62, [(4, .inr (.inr (some p))), (3, .inl (nI k)), (2, .inr (.inr (some (D.ip j)))), (1, .inl (nI j)), (0, .inr (.inr (some 169)))], [.inr (.inr (some 1000073)), .inr (.inr (some p))], H)) (C := []) rfl trivial ?_
    refine mw_cIe (fun _ => rfl) (show mu_is H (some p) 18 from is5) (agr.isL (e := d + l + 4) (j := 73) yn4 hr.2.1 (by decide)) ?_
    refine mw_if (P := (if tkd (nth (D.md j).2.2 k) = 73 then 1 else 0) = 0) (a := 68) (b := 80) (fun _ => rfl) trivial (fun hi6 => ?_) (fun hi6 => ?_)
    · -- 68
      have ek6 : ¬ tkd (nth (D.md j).2.2 k) = 73 := fun e => by rw [if_pos e] at hi6; exact absurd hi6 (by decide)
      obtain ⟨y, yr7, yn7⟩ := ch5 0 hp1
      have yn7 : nd Hb D.G ((D.lv - 1) - 1) y (tkk (nth (D.md j).2.2 k) 0) := yn7
      obtain ⟨b1_7, b2_7, b3_7, b4_7⟩ := ar_at ai5 (by decide) (Nat.lt_of_lt_of_le hp1 al5) (Nat.lt_of_le_of_lt ax5 (by decide))
      have y2_7 : mu_r H ar5 (0 : Int32).toNatClampNeg = some y := yr7
      refine mw_go mu_g459 (k := 3) (f1 := (74, [(4, .inr (.inr (some p))), (3, .inl (nI k)), (2, .inr (.inr (some (D.ip j)))), (1, .inl (nI j)), (0, .inr (.inr (some 169)))], [.inr (.inr (mu_r H p 1)), .inr (.inr (some 169))], H)) (C := [mu_is H (some p) 18]) rfl (show mu_is H (some p) 18 from is5) ?_
      refine mw_fr (f' := (74, [(4, .inr (.inr (some p))), (3, .inl (nI k)), (2, .inr (.inr (some (D.ip j)))), (1, .inl (nI j)), (0, .inr (.inr (some 169)))], [.inr (.inr (some ar5)), .inr (.inr (some 169))], H)) (by first | (rw [aq5]; done) | (rw [aq5]; rfl)) ?_
      refine mw_go mu_g459 (k := 2) (f1 := (76, [(4, .inr (.inr (some p))), (3, .inl (nI k)), (2, .inr (.inr (some (D.ip j)))), (1, .inl (nI j)), (0, .inr (.inr (some 169)))], [.inr (.inr (mu_r H ar5 (0 : Int32).toNatClampNeg)), .inr (.inr (some 169))], H)) (C := [mu_is H (some ar5) (mu_k H ar5), 103 ≤ mu_k H ar5 ∧ mu_k H ar5 ≤ 110 ∧ mu_k H ar5 ≠ 108, vp_in (0 : Int32) (mu_n H ar5)]) rfl (show (mu_is H (some ar5) (mu_k H ar5)) ∧ (103 ≤ mu_k H ar5 ∧ mu_k H ar5 ≤ 110 ∧ mu_k H ar5 ≠ 108) ∧ (vp_in (0 : Int32) (mu_n H ar5)) from ⟨b1_7, b2_7, b3_7⟩) ?_
      refine mw_fr (f' := (76, [(4, .inr (.inr (some p))), (3, .inl (nI k)), (2, .inr (.inr (some (D.ip j)))), (1, .inl (nI j)), (0, .inr (.inr (some 169)))], [.inr (.inr (some y)), .inr (.inr (some 169))], H)) (by first | (rw [y2_7]; done) | (rw [y2_7]; rfl)) ?_
      refine mw_go mu_g459 (k := 1) (f1 := (77, [(4, .inr (.inr (some p))), (3, .inl (nI k)), (2, .inr (.inr (some (D.ip j)))), (1, .inl (nI j)), (0, .inr (.inr (some 169)))], [.inr (.inr (some (D.ip j))), .inr (.inr (some y)), .inr (.inr (some 169))], H)) (C := []) rfl trivial ?_
      refine mw_cE (as := [.inr (.inr (some y)), .inr (.inr (some (D.ip j)))]) (o := (some 169)) (S1 := []) rfl rfl rfl rfl (Nat.le_of_ble_eq_true rfl) (by decide) (show mu_is H (some 169) 1 from hr.2.2.1.1) rfl (by decide) (rp_names (d := d) l hr hj yn7 (ptw_n hp ek6 hl)) (fun E9 e9 => hthr _ (fun z => e9.1 (z k hk ek6)) ((hf.tr e9.2).wk (by decide))) (fun v9 H8 e9 => ?_)
      obtain ⟨rfl, p1, p2⟩ := e9
      show mu_W _ mu_m459 (80, [(4, .inr (.inr (some p))), (3, .inl (nI k)), (2, .inr (.inr (some (D.ip j)))), (1, .inl (nI j)), (0, .inr (.inr (some 169)))], [], H8) _
      refine mw_go mu_g459 (k := 2) (f1 := (29, [(3, .inl ((nI k) + 1)), (4, .inr (.inr (some p))), (2, .inr (.inr (some (D.ip j)))), (1, .inl (nI j)), (0, .inr (.inr (some 169)))], [], H8)) (C := []) rfl trivial ?_
      refine mw_sub (L' := [(3, .inl (nI (k + 1))), (2, .inr (.inr (some (D.ip j)))), (1, .inl (nI j)), (0, .inr (.inr (some 169)))]) (by intro x hx; simp only [List.mem_cons, List.not_mem_nil, or_false] at hx ⊢; rcases hx with rfl | rfl | rfl | rfl <;> first | (simp [nI_add, show (1 : Int32) = nI 1 from rfl]; done) | simp [nI]) ?_
      exact rp_alI hj hl hthr hnx m_ (k + 1) _ (by omega) (p2.rms hr) (hf.tr p2) (fun i hi z => by
          by_cases e : i = k
          · subst e; exact p1
          · exact hd i (by omega) z)
    · -- 80
      have ek6 : tkd (nth (D.md j).2.2 k) = 73 := Decidable.byContradiction (fun e => hi6 (if_neg e))
      refine mw_go mu_g459 (k := 2) (f1 := (29, [(3, .inl ((nI k) + 1)), (4, .inr (.inr (some p))), (2, .inr (.inr (some (D.ip j)))), (1, .inl (nI j)), (0, .inr (.inr (some 169)))], [], H)) (C := []) rfl trivial ?_
      refine mw_sub (L' := [(3, .inl (nI (k + 1))), (2, .inr (.inr (some (D.ip j)))), (1, .inl (nI j)), (0, .inr (.inr (some 169)))]) (by intro x hx; simp only [List.mem_cons, List.not_mem_nil, or_false] at hx ⊢; rcases hx with rfl | rfl | rfl | rfl <;> first | (simp [nI_add, show (1 : Int32) = nI 1 from rfl]; done) | simp [nI]) ?_
      exact rp_alI hj hl hthr hnx m_ (k + 1) _ (by omega) hr hf (fun i hi z => by
          by_cases e : i = k
          · subst e; exact absurd ek6 z
          · exact hd i (by omega) z)
theorem rp_alO {Hb H0 : mu_H} {D : MD} {l d : Nat} {Φ : mu_R → Prop} (hl : 1810 ≤ l) (hthr : ∀ H1, ¬ (∀ j, j < D.n → alj D l j) → ffr 1 H0 H1 → Φ (.inr 2, H1)) (hfin : ∀ H, ffr 0 H0 H → rms Hb D H → (∀ j, j < D.n → alj D l j) → Φ (.inl none, H)) : ∀ m_ j H, j + m_ = D.n → rms Hb D H → ffr 0 H0 H → (∀ i, i < j → alj D l i) → mu_W (mu_D (d + l + 7)) mu_m459 (6, [(1, .inl (nI j)), (0, .inr (.inr (some 169)))], [], H) Φ
  | 0, j, H, hm_, hr, hf, hd => by
    obtain ⟨om1, ⟨om0_1, om1_1⟩, ol1, on1, oc1, oj1⟩ := hr.mod
    refine mw_go mu_g459 (k := 3) (f1 := (11, [(1, .inl (nI j)), (0, .inr (.inr (some 169)))], [.inr (.inr (mu_r H 169 18)), .inl (nI j)], H)) (C := [mu_is H (some 169) 1]) rfl (show mu_is H (some 169) 1 from hr.2.2.1.1) ?_
    refine mw_fr (f' := (11, [(1, .inl (nI j)), (0, .inr (.inr (some 169)))], [.inr (.inr (some D.mp)), .inl (nI j)], H)) (by first | (rw [hr.2.2.1.2]; done) | (rw [hr.2.2.1.2]; rfl)) ?_
    refine mw_go mu_g459 (k := 1) (f1 := (14, [(1, .inl (nI j)), (0, .inr (.inr (some 169)))], [.inl (mu_i H D.mp 1), .inl (nI j)], H)) (C := [mu_is H (some D.mp) 16]) rfl (show mu_is H (some D.mp) 16 from om1) ?_
    refine mw_fr (f' := (14, [(1, .inl (nI j)), (0, .inr (.inr (some 169)))], [.inl (nI D.n), .inl (nI j)], H)) (by first | (rw [om1_1]; done) | (rw [om1_1]; rfl)) ?_
    refine mw_if (P := (nI j) < (nI D.n)) (a := 17) (b := 92) (fun _ => rfl) trivial (fun h1 => absurd h1 (by rw [show j = D.n by omega]; exact Int32.lt_irrefl)) (fun h1 => ?_)
    exact mw_of (fun _ => mu_ret rfl trivial (hfin _ hf hr (fun i hi => hd i (by omega))))
  | m_ + 1, j, H, hm_, hr, hf, hd => by
    obtain ⟨om1, ⟨om0_1, om1_1⟩, ol1, on1, oc1, oj1⟩ := hr.mod
    have hj : j < D.n := by omega
    refine mw_go mu_g459 (k := 3) (f1 := (11, [(1, .inl (nI j)), (0, .inr (.inr (some 169)))], [.inr (.inr (mu_r H 169 18)), .inl (nI j)], H)) (C := [mu_is H (some 169) 1]) rfl (show mu_is H (some 169) 1 from hr.2.2.1.1) ?_
    refine mw_fr (f' := (11, [(1, .inl (nI j)), (0, .inr (.inr (some 169)))], [.inr (.inr (some D.mp)), .inl (nI j)], H)) (by first | (rw [hr.2.2.1.2]; done) | (rw [hr.2.2.1.2]; rfl)) ?_
    refine mw_go mu_g459 (k := 1) (f1 := (14, [(1, .inl (nI j)), (0, .inr (.inr (some 169)))], [.inl (mu_i H D.mp 1), .inl (nI j)], H)) (C := [mu_is H (some D.mp) 16]) rfl (show mu_is H (some D.mp) 16 from om1) ?_
    refine mw_fr (f' := (14, [(1, .inl (nI j)), (0, .inr (.inr (some 169)))], [.inl (nI D.n), .inl (nI j)], H)) (by first | (rw [om1_1]; done) | (rw [om1_1]; rfl)) ?_
    refine mw_if (P := (nI j) < (nI D.n)) (a := 17) (b := 92) (fun _ => rfl) trivial (fun h1 => ?_) (fun h1 => absurd (nI_lt hj (by omega)) h1)
    obtain ⟨oa2, ob2, od2, oe2⟩ := ar_at (i := j) ol1 (by decide) (by rw [on1]; omega) (by rw [on1]; decide)
    have of2 : mu_r H (D.loc 0) (nI j).toNatClampNeg = some (D.ip j) := by rw [oe2]; exact oj1 j hj
    refine mw_go mu_g459 (k := 2) (f1 := (21, [(1, .inl (nI j)), (0, .inr (.inr (some 169)))], [.inr (.inr (mu_r H 169 18))], H)) (C := [mu_is H (some 169) 1]) rfl (show mu_is H (some 169) 1 from hr.2.2.1.1) ?_
    refine mw_fr (f' := (21, [(1, .inl (nI j)), (0, .inr (.inr (some 169)))], [.inr (.inr (some D.mp))], H)) (by first | (rw [hr.2.2.1.2]; done) | (rw [hr.2.2.1.2]; rfl)) ?_
    refine mw_go mu_g459 (k := 1) (f1 := (24, [(1, .inl (nI j)), (0, .inr (.inr (some 169)))], [.inr (.inr (mu_r H D.mp 0))], H)) (C := [mu_is H (some D.mp) 16]) rfl (show mu_is H (some D.mp) 16 from om1) ?_
    refine mw_fr (f' := (24, [(1, .inl (nI j)), (0, .inr (.inr (some 169)))], [.inr (.inr (some (D.loc 0)))], H)) (by first | (rw [om0_1]; done) | (rw [om0_1]; rfl)) ?_
    refine mw_go mu_g459 (k := 2) (f1 := (26, [(1, .inl (nI j)), (0, .inr (.inr (some 169)))], [.inr (.inr (mu_r H (D.loc 0) (nI j).toNatClampNeg))], H)) (C := [mu_is H (some (D.loc 0)) (mu_k H (D.loc 0)), 103 ≤ mu_k H (D.loc 0) ∧ mu_k H (D.loc 0) ≤ 110 ∧ mu_k H (D.loc 0) ≠ 108, vp_in (nI j) (mu_n H (D.loc 0))]) rfl (show (mu_is H (some (D.loc 0)) (mu_k H (D.loc 0))) ∧ (103 ≤ mu_k H (D.loc 0) ∧ mu_k H (D.loc 0) ≤ 110 ∧ mu_k H (D.loc 0) ≠ 108) ∧ (vp_in (nI j) (mu_n H (D.loc 0))) from ⟨oa2, ob2, od2⟩) ?_
    refine mw_fr (f' := (26, [(1, .inl (nI j)), (0, .inr (.inr (some 169)))], [.inr (.inr (some (D.ip j)))], H)) (by first | (rw [of2]; done) | (rw [of2]; rfl)) ?_
    refine mw_go mu_g459 (k := 3) (f1 := (29, [(3, .inl (0 : Int32)), (2, .inr (.inr (some (D.ip j)))), (1, .inl (nI j)), (0, .inr (.inr (some 169)))], [], H)) (C := []) rfl trivial ?_
    refine mw_sub (L' := [(3, .inl (nI 0)), (2, .inr (.inr (some (D.ip j)))), (1, .inl (nI j)), (0, .inr (.inr (some 169)))]) (by intro x hx; simp only [List.mem_cons, List.not_mem_nil, or_false] at hx ⊢; rcases hx with rfl | rfl | rfl | rfl <;> simp [nI]) ?_
    refine rp_alI (H0 := H0) hj hl (fun H1 z1 z2 => hthr _ (fun z => z1 (z j hj)) z2) (fun H1 f1 r1 z1 => ?_) (D.md j).2.2.length 0 _ (Nat.zero_add _) hr hf (fun i hi => absurd hi (Nat.not_lt_zero _))
    refine mw_go mu_g459 (k := 2) (f1 := (6, [(1, .inl ((nI j) + 1)), (0, .inr (.inr (some 169)))], [], H1)) (C := []) rfl trivial ?_
    refine mw_sub (L' := [(1, .inl (nI (j + 1))), (0, .inr (.inr (some 169)))]) (by intro x hx; simp only [List.mem_cons, List.not_mem_nil, or_false] at hx ⊢; rcases hx with rfl | rfl <;> first | (simp [nI_add, show (1 : Int32) = nI 1 from rfl]; done) | simp [nI]) ?_
    exact rp_alO hl hthr hfin m_ (j + 1) _ (by omega) r1 f1 (fun i hi => by
        by_cases e : i = j
        · subst e; exact z1
        · exact hd i (by omega))
theorem nsro.ff {H H1 : mu_H} {G : Nat → Prop} {cap a : Nat} (h : nsro H G cap) (hf : ffr a H H1) : nsro H1 G cap := by
  obtain ⟨od, mt, bg, a1, a2, a3, a4, a5⟩ := h
  exact ⟨od, mt, bg, a1.ff hf, a2.ff hf, a3.ff hf, a4, (hf.1.len (Or.inl a1.2.1.2.1) (fun z => z.elim (gndl9 a1.2.1.1) id)).trans a5⟩
theorem rp_allNames {Hb H : mu_H} {D : MD} {l d cap : Nat} (hl : 1810 ≤ l) (hb : mdb D) (hL : ∀ s, s < (D.pr 0).length → nwf l (stdt D s)) (hr : rms Hb D H) (hg : rgd H) (ha : nsro H D.G cap) (hz : mu_z H + 3 ≤ 1000000) : mu_TE 2 (mu_D (d + l + 9)) 459 [.inr (.inr (some 169))] H (fun H1 => ¬ (acy D l ∧ ∀ j, j < D.n → alj D l j) ∧ ∃ cap', wfr [19, 20, 21, 23] [22, 24, 25] 4 (6 * (cap' - cap) + 10) H H1) (fun v H1 => v = none ∧ (∀ j, j < D.n → alj D l j) ∧ ∃ cap' ol od, ordz D l ol ∧ nsro H1 D.G cap' ∧ (D.pr 0).length ≤ cap' ∧ mu_r H1 169 22 = some od ∧ (∀ a, a < (D.pr 0).length → mu_i H1 od a = nI (ol a)) ∧ wfr [19, 20, 21, 23] [22, 24, 25] 3 (6 * (cap' - cap)) H H1) := by
  refine mu_meth (M := mu_m459) rfl rfl ?_
  refine mw_ht (mu_fn_of (show [0].Nodup by decide)) ?_
  refine mw_go mu_g459 (k := 1) (f1 := (1, [(0, .inr (.inr (some 169)))], [.inr (.inr (some 169))], H)) (C := []) rfl trivial ?_
  refine mw_cE (as := []) (o := (some 169)) (S1 := []) rfl rfl rfl rfl (Nat.le_of_ble_eq_true rfl) (by decide) (show mu_is H (some 169) 1 from hr.2.2.1.1) rfl (by decide) (rp_noself (d := d) hb hL hr hg ha hz) (fun E9 e9 => Or.inl ⟨_, rfl, fun z => e9.1 z.1, e9.2⟩) (fun v9 H1 e9 => ?_)
  obtain ⟨rfl, cap1, ol, od, q1, q2, q3, q4, q5, q6⟩ := e9
  show mu_W _ mu_m459 (4, [(0, .inr (.inr (some 169)))], [], H1) _
  obtain ⟨od0, mt0, bg0, a1, a2, a3, _⟩ := ha
  have rG : rnG H D.G [22, 24, 25] := fun f p hf hp => by
    simp only [List.mem_cons, List.not_mem_nil, or_false] at hf
    rcases hf with rfl | rfl | rfl
    · rw [a1.1] at hp; cases hp; exact ⟨a1.2.2.1, a1.2.1.2.2⟩
    · rw [a2.1] at hp; cases hp; exact ⟨a2.2.2.1, a2.2.1.2.2⟩
    · rw [a3.1] at hp; cases hp; exact ⟨a3.2.2.1, a3.2.1.2.2⟩
  have hr1 := q6.rm hr rG (by decide) (by decide)
  have nso : nsro H1 D.G cap1 := q2
  refine mw_go mu_g459 (k := 2) (f1 := (6, [(1, .inl (0 : Int32)), (0, .inr (.inr (some 169)))], [], H1)) (C := []) rfl trivial ?_
  refine mw_sub (L' := [(1, .inl (nI 0)), (0, .inr (.inr (some 169)))]) (by intro x hx; simp only [List.mem_cons, List.not_mem_nil, or_false] at hx ⊢; rcases hx with rfl | rfl <;> simp [nI]) ?_
  refine mu_Wc (show d + 1 + l + 7 = d + l + 8 by omega) (rp_alO (H0 := H1) (d := d + 1) hl (fun H1 z1 z2 => Or.inl ⟨_, rfl, fun z => z1 z.2, cap1, (q6.tr (z2.w (by decide))).wk (fun _ z => z) (fun _ z => z) (by decide) (Nat.le_refl _)⟩) (fun H1 z1 z2 z3 => Or.inr ⟨_, _, rfl, rfl, z3, cap1, ol, od, q1, nsro.ff q2 z1, q3, (z1.2.2.1 22 (List.not_mem_nil)).trans q4, fun a ha => ?_, (q6.tr (z1.w (by decide))).wk (fun _ z => z) (fun _ z => z) (by decide) (Nat.le_refl _)⟩) D.n 0 _ (Nat.zero_add _) hr1 ffr.rf (fun i hi => absurd hi (Nat.not_lt_zero _)))
  obtain ⟨od9, _, _, b1, _⟩ := nso
  have e9 : od9 = od := Option.some.inj (b1.1.symm.trans q4)
  subst e9
  exact (z1.1.i (Or.inl b1.2.1.2.1) (fun z => z.elim (gndl9 b1.2.1.1) id) a).trans (q5 a ha)
