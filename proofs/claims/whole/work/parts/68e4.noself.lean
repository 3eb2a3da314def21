/-! The reference: no expression stands on itself -/
/-- PathProverModel.noExpressionInItself()V -/
abbrev mu_m475 : ev_M := (6, none, [], ev_b475)
theorem mu_g475 : mu_good mu_m475 := mu_goodk ev_k475
theorem rp_neW {Hb H0 : mu_H} {D : MD} {od mt bg N l d : Nat} {Φ : mu_R → Prop} (hb : mdb D) (hN : N = (D.pr 0).length) (hN2 : N < 2 ^ 30) (hL : ∀ s, s < N → nwf l (stdt D s)) {k : Nat} (hk : k < N) (hthr : ∀ H1, ¬ acy D l → rfr [19, 20, 21, 23] [] (fun p => p = od ∨ p = mt ∨ p = bg) 1 10 H0 H1 → Φ (.inr 2, H1)) (hfin : ∀ w st ol on H, dfh Hb D H0 od mt bg N w st 0 ol on H → dfi D l w st 0 ol on → (∀ i, i < k → w i = 2) → w k = 2 → mu_W (mu_D (d + l + 7)) mu_m475 (226, [(2, .inl (nI k)), (1, .inl (nI N)), (0, .inr (.inr (some 169)))], [], H) Φ) : ∀ m w st sz ol on H, 2 * cntv w 0 (D.pr 0).length + sz < m → dfh Hb D H0 od mt bg N w st sz ol on H → dfi D l w st sz ol on → (∀ i, i < k → w i = 2) → w k ≠ 0 → mu_W (mu_D (d + l + 7)) mu_m475 (108, [(3, .inl (nI sz)), (2, .inl (nI k)), (1, .inl (nI N)), (0, .inr (.inr (some 169)))], [], H) Φ
  | 0, _, _, _, _, _, _, hm, _, _, _, _ => absurd hm (Nat.not_lt_zero _)
  | m + 1, w, st, sz, ol, on, H, hm, hh, hi, h2, h3 => by
    have hsz : sz ≤ N := by have := hi.sum; omega
    have b4 := hb.2.1
    refine mw_go mu_g475 (k := 1) (f1 := (109, [(3, .inl (nI sz)), (2, .inl (nI k)), (1, .inl (nI N)), (0, .inr (.inr (some 169)))], [.inl (nI sz)], H)) (C := []) rfl trivial ?_
    refine mw_if (P := 0 < (nI sz)) (a := 112) (b := 226) (fun _ => rfl) trivial (fun h1 => ?_) (fun h1 => ?_)
    · -- 112
      have sp : 0 < sz := by
        by_cases z : sz = 0
        · subst z; exact absurd h1 (by decide)
        · omega
      have e1 : nI sz - (1 : Int32) = nI (sz - 1) := by
        have e : nI (sz - 1) + (1 : Int32) = nI sz := by rw [show (1 : Int32) = nI 1 from rfl, nI_add, show sz - 1 + 1 = sz by omega]
        rw [← e, Int32.add_sub_cancel]
      have tlt := (hi.2.2.1 (sz - 1) (by omega)).1
      have t31 : (st (sz - 1)) < 2 ^ 31 := by omega
      have eb : mu_i H bg (nI (sz - 1)).toNatClampNeg = nI (st (sz - 1)) := by rw [nI_clamp (by omega)]; exact hh.2.2.2.1 (sz - 1) (by omega)
      obtain ⟨om1, ⟨om0_1, om1_1⟩, ol1, on1, oc1, oj1⟩ := hh.1.mod
      obtain ⟨⟨pa2, pb2, pc2⟩, ⟨pd2, pe2, pf2⟩, pg2, ph2, pi2⟩ := hh.1.row (k := 0) (by decide)
      obtain ⟨q, qr3, qn3⟩ := pf2 (st (sz - 1)) tlt
      obtain ⟨ra3, rb3, rc3, rd3⟩ := ar_at (i := (st (sz - 1))) pd2 (by decide) (by omega) (by omega)
      have re3 : mu_r H (D.loc 1) (nI (st (sz - 1))).toNatClampNeg = some q := by rw [rd3]; exact qr3
      obtain ⟨sa3, sb3, sc3, sd3⟩ := ar_at (i := (st (sz - 1))) pg2 (by decide) (by omega) (by omega)
      have se3 : mu_r H (D.loc 2) (nI (st (sz - 1))).toNatClampNeg = some (D.ip (pth2 (D.pr 0) (st (sz - 1))).2) := by rw [sd3]; exact (pi2 (st (sz - 1)) tlt).1
      have sj3 : (pth2 (D.pr 0) (st (sz - 1))).2 < D.n := (pi2 (st (sz - 1)) tlt).2
      refine mw_go mu_g475 (k := 2) (f1 := (116, [(3, .inl (nI sz)), (2, .inl (nI k)), (1, .inl (nI N)), (0, .inr (.inr (some 169)))], [.inr (.inr (mu_r H 169 25))], H)) (C := [mu_is H (some 169) 1]) rfl (show mu_is H (some 169) 1 from hh.1.2.2.1.1) ?_
      refine mw_fr (f' := (116, [(3, .inl (nI sz)), (2, .inl (nI k)), (1, .inl (nI N)), (0, .inr (.inr (some 169)))], [.inr (.inr (some bg))], H)) (by first | (rw [hh.2.1.2.2.1.1]; done) | (rw [hh.2.1.2.2.1.1]; rfl)) ?_
      refine mw_go mu_g475 (k := 3) (f1 := (119, [(3, .inl (nI sz)), (2, .inl (nI k)), (1, .inl (nI N)), (0, .inr (.inr (some 169)))], [.inl ((nI sz) - (1 : Int32)), .inr (.inr (some bg))], H)) (C := []) rfl trivial ?_
      refine mw_fr (f' := (119, [(3, .inl (nI sz)), (2, .inl (nI k)), (1, .inl (nI N)), (0, .inr (.inr (some 169)))], [.inl (nI (sz - 1)), .inr (.inr (some bg))], H)) (by first | (rw [e1]; done) | (rw [e1]; rfl)) ?_
      refine mw_go mu_g475 (k := 1) (f1 := (120, [(3, .inl (nI sz)), (2, .inl (nI k)), (1, .inl (nI N)), (0, .inr (.inr (some 169)))], [.inl (mu_i H bg (nI (sz - 1)).toNatClampNeg)], H)) (C := [mu_isr H (some bg) 100, vp_in (nI (sz - 1)) (mu_n H bg)]) rfl (show (mu_isr H (some bg) 100) ∧ (vp_in (nI (sz - 1)) (mu_n H bg)) from ⟨⟨rfl, Or.inl hh.2.1.2.2.1.2.1.2.1, hh.2.1.2.2.1.2.2.2.1⟩, (vp_in_nI (Nat.lt_of_lt_of_le (show sz - 1 < N by omega) hh.2.1.2.2.1.2.2.2.2.1) hh.2.1.2.2.1.2.2.2.2.2)⟩) ?_
      refine mw_fr (f' := (120, [(3, .inl (nI sz)), (2, .inl (nI k)), (1, .inl (nI N)), (0, .inr (.inr (some 169)))], [.inl (nI (st (sz - 1)))], H)) (by first | (rw [eb]; done) | (rw [eb]; rfl)) ?_
      refine mw_go mu_g475 (k := 4) (f1 := (127, [(4, .inl (nI (st (sz - 1)))), (3, .inl (nI sz)), (2, .inl (nI k)), (1, .inl (nI N)), (0, .inr (.inr (some 169)))], [.inr (.inr (mu_r H 169 18)), .inr (.inr (some 169))], H)) (C := [mu_is H (some 169) 1]) rfl (show mu_is H (some 169) 1 from hh.1.2.2.1.1) ?_
      refine mw_fr (f' := (127, [(4, .inl (nI (st (sz - 1)))), (3, .inl (nI sz)), (2, .inl (nI k)), (1, .inl (nI N)), (0, .inr (.inr (some 169)))], [.inr (.inr (some D.mp)), .inr (.inr (some 169))], H)) (by first | (rw [hh.1.2.2.1.2]; done) | (rw [hh.1.2.2.1.2]; rfl)) ?_
      refine mw_go mu_g475 (k := 1) (f1 := (130, [(4, .inl (nI (st (sz - 1)))), (3, .inl (nI sz)), (2, .inl (nI k)), (1, .inl (nI N)), (0, .inr (.inr (some 169)))], [.inr (.inr (mu_r H D.mp 7)), .inr (.inr (some 169))], H)) (C := [mu_is H (some D.mp) 16]) rfl (show mu_is H (some D.mp) 16 from om1) ?_
      refine mw_fr (f' := (130, [(4, .inl (nI (st (sz - 1)))), (3, .inl (nI sz)), (2, .inl (nI k)), (1, .inl (nI N)), (0, .inr (.inr (some 169)))], [.inr (.inr (some (D.loc 1))), .inr (.inr (some 169))], H)) (by first | (rw [(show mu_r H D.mp 7 = some (D.loc 1) from pa2)]; done) | (rw [(show mu_r H D.mp 7 = some (D.loc 1) from pa2)]; rfl)) ?_
      refine mw_go mu_g475 (k := 2) (f1 := (133, [(4, .inl (nI (st (sz - 1)))), (3, .inl (nI sz)), (2, .inl (nI k)), (1, .inl (nI N)), (0, .inr (.inr (some 169)))], [.inr (.inr (mu_r H (D.loc 1) (nI (st (sz - 1))).toNatClampNeg)), .inr (.inr (some 169))], H)) (C := [mu_is H (some (D.loc 1)) (mu_k H (D.loc 1)), 103 ≤ mu_k H (D.loc 1) ∧ mu_k H (D.loc 1) ≤ 110 ∧ mu_k H (D.loc 1) ≠ 108, vp_in (nI (st (sz - 1))) (mu_n H (D.loc 1))]) rfl (show (mu_is H (some (D.loc 1)) (mu_k H (D.loc 1))) ∧ (103 ≤ mu_k H (D.loc 1) ∧ mu_k H (D.loc 1) ≤ 110 ∧ mu_k H (D.loc 1) ≠ 108) ∧ (vp_in (nI (st (sz - 1))) (mu_n H (D.loc 1))) from ⟨ra3, rb3, rc3⟩) ?_
      refine mw_fr (f' := (133, [(4, .inl (nI (st (sz - 1)))), (3, .inl (nI sz)), (2, .inl (nI k)), (1, .inl (nI N)), (0, .inr (.inr (some 169)))], [.inr (.inr (some q)), .inr (.inr (some 169))], H)) (by first | (rw [re3]; done) | (rw [re3]; rfl)) ?_
      refine mw_go mu_g475 (k := 2) (f1 := (137, [(4, .inl (nI (st (sz - 1)))), (3, .inl (nI sz)), (2, .inl (nI k)), (1, .inl (nI N)), (0, .inr (.inr (some 169)))], [.inr (.inr (mu_r H 169 18)), .inr (.inr (some q)), .inr (.inr (some 169))], H)) (C := [mu_is H (some 169) 1]) rfl (show mu_is H (some 169) 1 from hh.1.2.2.1.1) ?_
      refine mw_fr (f' := (137, [(4, .inl (nI (st (sz - 1)))), (3, .inl (nI sz)), (2, .inl (nI k)), (1, .inl (nI N)), (0, .inr (.inr (some 169)))], [.inr (.inr (some D.mp)), .inr (.inr (some q)), .inr (.inr (some 169))], H)) (by first | (rw [hh.1.2.2.1.2]; done) | (rw [hh.1.2.2.1.2]; rfl)) ?_
      refine mw_go mu_g475 (k := 1) (f1 := (140, [(4, .inl (nI (st (sz - 1)))), (3, .inl (nI sz)), (2, .inl (nI k)), (1, .inl (nI N)), (0, .inr (.inr (some 169)))], [.inr (.inr (mu_r H D.mp 8)), .inr (.inr (some q)), .inr (.inr (some 169))], H)) (C := [mu_is H (some D.mp) 16]) rfl (show mu_is H (some D.mp) 16 from om1) ?_
      refine mw_fr (f' := (140, [(4, .inl (nI (st (sz - 1)))), (3, .inl (nI sz)), (2, .inl (nI k)), (1, .inl (nI N)), (0, .inr (.inr (some 169)))], [.inr (.inr (some (D.loc 2))), .inr (.inr (some q)), .inr (.inr (some 169))], H)) (by first | (rw [(show mu_r H D.mp 8 = some (D.loc 2) from pb2)]; done) | (rw [(show mu_r H D.mp 8 = some (D.loc 2) from pb2)]; rfl)) ?_
      refine mw_go mu_g475 (k := 2) (f1 := (143, [(4, .inl (nI (st (sz - 1)))), (3, .inl (nI sz)), (2, .inl (nI k)), (1, .inl (nI N)), (0, .inr (.inr (some 169)))], [.inr (.inr (mu_r H (D.loc 2) (nI (st (sz - 1))).toNatClampNeg)), .inr (.inr (some q)), .inr (.inr (some 169))], H)) (C := [mu_is H (some (D.loc 2)) (mu_k H (D.loc 2)), 103 ≤ mu_k H (D.loc 2) ∧ mu_k H (D.loc 2) ≤ 110 ∧ mu_k H (D.loc 2) ≠ 108, vp_in (nI (st (sz - 1))) (mu_n H (D.loc 2))]) rfl (show (mu_is H (some (D.loc 2)) (mu_k H (D.loc 2))) ∧ (103 ≤ mu_k H (D.loc 2) ∧ mu_k H (D.loc 2) ≤ 110 ∧ mu_k H (D.loc 2) ≠ 108) ∧ (vp_in (nI (st (sz - 1))) (mu_n H (D.loc 2))) from ⟨sa3, sb3, sc3⟩) ?_
      refine mw_fr (f' := (143, [(4, .inl (nI (st (sz - 1)))), (3, .inl (nI sz)), (2, .inl (nI k)), (1, .inl (nI N)), (0, .inr (.inr (some 169)))], [.inr (.inr (some (D.ip (pth2 (D.pr 0) (st (sz - 1))).2))), .inr (.inr (some q)), .inr (.inr (some 169))], H)) (by first | (rw [se3]; done) | (rw [se3]; rfl)) ?_
      have hnw := hL (st (sz - 1)) (by omega)
      refine mw_cE (as := [.inr (.inr (some q)), .inr (.inr (some (D.ip (pth2 (D.pr 0) (st (sz - 1))).2)))]) (o := (some 169)) (S1 := []) rfl rfl rfl rfl (Nat.le_of_ble_eq_true rfl) (by decide) (show mu_is H (some 169) 1 from hh.1.2.2.1.1) rfl (by decide) (rp_missing (d := d) (l := l) (c := stdt D (st (sz - 1))) (j := own D (st (sz - 1))) hb (Nat.le_of_eq hN.symm) hh.1 hh.mts sj3 qn3 hnw) (fun E9 e9 => hthr _ (fun z => by obtain ⟨rk, hz⟩ := z; exact mis_none hnw e9.1 (hz _ tlt).1) ((rfr.tr hh.2.2.2.2.2.2.1 e9.2 (W := fun p => p = od ∨ p = mt ∨ p = bg) (Fi := [19, 20, 21, 23]) (Fr := []) (fun k z => z.elim id (fun y => by simp only [List.mem_cons, List.not_mem_nil, or_false] at y ⊢; omega)) (fun k z => z.elim id id) (fun p _ z => z.elim id (fun y => y.elim))).wk (fun _ z => z) (fun _ z => z) (fun _ _ z => z) (by decide) (by decide))) (fun v9 H4 e9 => ?_)
      obtain ⟨x, rfl, p1, p2⟩ := e9
      show mu_W _ mu_m475 (146, [(4, .inl (nI (st (sz - 1)))), (3, .inl (nI sz)), (2, .inl (nI k)), (1, .inl (nI N)), (0, .inr (.inr (some 169)))], [.inl x], H4) _
      have hh1 := hh.ff p2
      refine mw_go mu_g475 (k := 2) (f1 := (150, [(5, .inl x), (4, .inl (nI (st (sz - 1)))), (3, .inl (nI sz)), (2, .inl (nI k)), (1, .inl (nI N)), (0, .inr (.inr (some 169)))], [.inl x], H4)) (C := []) rfl trivial ?_
      refine mw_if (P := x < 0) (a := 153) (b := 185) (fun _ => rfl) trivial (fun h4 => ?_) (fun h4 => ?_)
      · -- 153
        obtain ⟨g1, g2⟩ := mis_neg hb hnw p1 h4
        obtain ⟨q1, q2, q3⟩ := hi.pop sp g1 (fun t ht => by
          rcases hi.1 t (usz_lt ht) with e | e | e
          · exact absurd (by rw [e]; decide) (g2 t ht)
          · exact absurd (by rw [e]; decide) (g2 t ht)
          · exact e)
        have tN : (st (sz - 1)) < N := by omega
        have onN : on < N := by omega
        refine mw_go mu_g475 (k := 2) (f1 := (157, [(5, .inl x), (4, .inl (nI (st (sz - 1)))), (3, .inl (nI sz)), (2, .inl (nI k)), (1, .inl (nI N)), (0, .inr (.inr (some 169)))], [.inr (.inr (mu_r H4 169 24))], H4)) (C := [mu_is H4 (some 169) 1]) rfl (show mu_is H4 (some 169) 1 from hh1.1.2.2.1.1) ?_
        refine mw_fr (f' := (157, [(5, .inl x), (4, .inl (nI (st (sz - 1)))), (3, .inl (nI sz)), (2, .inl (nI k)), (1, .inl (nI N)), (0, .inr (.inr (some 169)))], [.inr (.inr (some mt))], H4)) (by first | (rw [hh1.2.1.2.1.1]; done) | (rw [hh1.2.1.2.1.1]; rfl)) ?_
        refine mw_go mu_g475 (k := 3) (f1 := (161, [(5, .inl x), (4, .inl (nI (st (sz - 1)))), (3, .inl (nI sz)), (2, .inl (nI k)), (1, .inl (nI N)), (0, .inr (.inr (some 169)))], [], (mu_si H4 mt (nI (st (sz - 1))).toNatClampNeg (vp_nar .byte (2 : Int32))))) (C := [mu_is H4 (some mt) 101, vp_in (nI (st (sz - 1))) (mu_n H4 mt)]) rfl (show (mu_is H4 (some mt) 101) ∧ (vp_in (nI (st (sz - 1))) (mu_n H4 mt)) from ⟨⟨rfl, hh1.2.1.2.1.2.1.2.1, hh1.2.1.2.1.2.2.2.1⟩, (vp_in_nI (Nat.lt_of_lt_of_le tN hh1.2.1.2.1.2.2.2.2.1) hh1.2.1.2.1.2.2.2.2.2)⟩) ?_
        refine mw_fr (f' := (161, [(5, .inl x), (4, .inl (nI (st (sz - 1)))), (3, .inl (nI sz)), (2, .inl (nI k)), (1, .inl (nI N)), (0, .inr (.inr (some 169)))], [], (mu_si H4 mt (st (sz - 1)) 2))) (by rw [nI_clamp t31]; rfl) ?_
        have hd5 : dfh Hb D H0 od mt bg N (fup w (st (sz - 1)) 2) st sz ol on (mu_si H4 mt (st (sz - 1)) 2) := hh1.wm
        obtain ⟨K5, eK5⟩ : ∃ K, K = (mu_si H4 mt (st (sz - 1)) 2) := ⟨_, rfl⟩
        rw [← eK5] at hd5 ⊢
        clear eK5
        have e2 : nI on + (1 : Int32) = nI (on + 1) := nI_add _ _
        refine mw_go mu_g475 (k := 2) (f1 := (165, [(5, .inl x), (4, .inl (nI (st (sz - 1)))), (3, .inl (nI sz)), (2, .inl (nI k)), (1, .inl (nI N)), (0, .inr (.inr (some 169)))], [.inr (.inr (mu_r K5 169 22))], K5)) (C := [mu_is K5 (some 169) 1]) rfl (show mu_is K5 (some 169) 1 from hd5.1.2.2.1.1) ?_
        refine mw_fr (f' := (165, [(5, .inl x), (4, .inl (nI (st (sz - 1)))), (3, .inl (nI sz)), (2, .inl (nI k)), (1, .inl (nI N)), (0, .inr (.inr (some 169)))], [.inr (.inr (some od))], K5)) (by first | (rw [hd5.2.1.1.1]; done) | (rw [hd5.2.1.1.1]; rfl)) ?_
        refine mw_go mu_g475 (k := 3) (f1 := (170, [(5, .inl x), (4, .inl (nI (st (sz - 1)))), (3, .inl (nI sz)), (2, .inl (nI k)), (1, .inl (nI N)), (0, .inr (.inr (some 169)))], [.inl (mu_i K5 169 23), .inr (.inr (some 169)), .inr (.inr (some od))], K5)) (C := [mu_is K5 (some 169) 1]) rfl (show mu_is K5 (some 169) 1 from hd5.1.2.2.1.1) ?_
        refine mw_fr (f' := (170, [(5, .inl x), (4, .inl (nI (st (sz - 1)))), (3, .inl (nI sz)), (2, .inl (nI k)), (1, .inl (nI N)), (0, .inr (.inr (some 169)))], [.inl (nI on), .inr (.inr (some 169)), .inr (.inr (some od))], K5)) (by first | (rw [hd5.2.2.2.2.2.1]; done) | (rw [hd5.2.2.2.2.2.1]; rfl)) ?_
        refine mw_go mu_g475 (k := 3) (f1 := (173, [(5, .inl x), (4, .inl (nI (st (sz - 1)))), (3, .inl (nI sz)), (2, .inl (nI k)), (1, .inl (nI N)), (0, .inr (.inr (some 169)))], [.inl ((nI on) + (1 : Int32)), .inr (.inr (some 169)), .inl (nI on), .inr (.inr (some od))], K5)) (C := []) rfl trivial ?_
        refine mw_fr (f' := (173, [(5, .inl x), (4, .inl (nI (st (sz - 1)))), (3, .inl (nI sz)), (2, .inl (nI k)), (1, .inl (nI N)), (0, .inr (.inr (some 169)))], [.inl (nI (on + 1)), .inr (.inr (some 169)), .inl (nI on), .inr (.inr (some od))], K5)) (by first | (rw [e2]; done) | (rw [e2]; rfl)) ?_
        refine mw_go mu_g475 (k := 1) (f1 := (176, [(5, .inl x), (4, .inl (nI (st (sz - 1)))), (3, .inl (nI sz)), (2, .inl (nI k)), (1, .inl (nI N)), (0, .inr (.inr (some 169)))], [.inl (nI on), .inr (.inr (some od))], (mu_si K5 169 23 (nI (on + 1))))) (C := [mu_is K5 (some 169) 1]) rfl (show mu_is K5 (some 169) 1 from hd5.1.2.2.1.1) ?_
        refine mw_go mu_g475 (k := 2) (f1 := (179, [(5, .inl x), (4, .inl (nI (st (sz - 1)))), (3, .inl (nI sz)), (2, .inl (nI k)), (1, .inl (nI N)), (0, .inr (.inr (some 169)))], [], (mu_si (mu_si K5 169 23 (nI (on + 1))) od (nI on).toNatClampNeg (nI (st (sz - 1)))))) (C := [mu_is K5 (some od) 100, vp_in (nI on) (mu_n K5 od)]) rfl (show (mu_is K5 (some od) 100) ∧ (vp_in (nI on) (mu_n K5 od)) from ⟨⟨rfl, hd5.2.1.1.2.1.2.1, hd5.2.1.1.2.2.2.1⟩, (vp_in_nI (Nat.lt_of_lt_of_le onN hd5.2.1.1.2.2.2.2.1) hd5.2.1.1.2.2.2.2.2)⟩) ?_
        refine mw_fr (f' := (179, [(5, .inl x), (4, .inl (nI (st (sz - 1)))), (3, .inl (nI sz)), (2, .inl (nI k)), (1, .inl (nI N)), (0, .inr (.inr (some 169)))], [], (mu_si (mu_si K5 169 23 (nI (on + 1))) od on (nI (st (sz - 1)))))) (by rw [nI_clamp (show on < 2 ^ 31 by omega)]) ?_
        have hd6 : dfh Hb D H0 od mt bg N (fup w (st (sz - 1)) 2) st sz (fup ol on (st (sz - 1))) (on + 1) (mu_si (mu_si K5 169 23 (nI (on + 1))) od on (nI (st (sz - 1)))) := hd5.wo
        obtain ⟨K6, eK6⟩ : ∃ K, K = (mu_si (mu_si K5 169 23 (nI (on + 1))) od on (nI (st (sz - 1)))) := ⟨_, rfl⟩
        rw [← eK6] at hd6 ⊢
        clear eK6
        have e3 : nI sz + (-1) = nI (sz - 1) := by rw [← e1]; exact (Int32.sub_eq_add_neg _ _).symm
        refine mw_go mu_g475 (k := 1) (f1 := (182, [(3, .inl ((nI sz) + (-1))), (5, .inl x), (4, .inl (nI (st (sz - 1)))), (2, .inl (nI k)), (1, .inl (nI N)), (0, .inr (.inr (some 169)))], [], K6)) (C := []) rfl trivial ?_
        refine mw_fr (f' := (182, [(3, .inl (nI (sz - 1))), (5, .inl x), (4, .inl (nI (st (sz - 1)))), (2, .inl (nI k)), (1, .inl (nI N)), (0, .inr (.inr (some 169)))], [], K6)) (by first | (rw [e3]; done) | (rw [e3]; rfl)) ?_
        refine mw_go mu_g475 (k := 2) (f1 := (108, [(3, .inl (nI (sz - 1))), (5, .inl x), (4, .inl (nI (st (sz - 1)))), (2, .inl (nI k)), (1, .inl (nI N)), (0, .inr (.inr (some 169)))], [], K6)) (C := []) rfl trivial ?_
        refine mw_sub (L' := [(3, .inl (nI (sz - 1))), (2, .inl (nI k)), (1, .inl (nI N)), (0, .inr (.inr (some 169)))]) (by intro x hx; simp only [List.mem_cons, List.not_mem_nil, or_false] at hx ⊢; rcases hx with rfl | rfl | rfl | rfl <;> simp [nI_add, show (1 : Int32) = nI 1 from rfl]) ?_
        exact rp_neW hb hN hN2 hL hk hthr hfin m _ _ _ _ _ _ (by omega) (hd6.less (by omega)) q1 (fun i hi2 => by
            by_cases z : i = (st (sz - 1))
            · rw [z, fup_at]
            · rw [fup_ne z]; exact h2 i hi2) (fun e => by
            by_cases z : k = (st (sz - 1))
            · rw [← z, fup_at] at e; exact absurd e (by decide)
            · rw [fup_ne z] at e; exact h3 e)
      · -- 185
        obtain ⟨s, rfl, s1, s2, s3⟩ := mis_pos hb sj3 p1 h4
        have s31 : s < 2 ^ 31 := by omega
        have sN : s < N := by omega
        refine mw_go mu_g475 (k := 3) (f1 := (190, [(5, .inl (nI s)), (4, .inl (nI (st (sz - 1)))), (3, .inl (nI sz)), (2, .inl (nI k)), (1, .inl (nI N)), (0, .inr (.inr (some 169)))], [.inr (.inr (mu_r H4 169 24)), .inr (.inr (some 169))], H4)) (C := [mu_is H4 (some 169) 1]) rfl (show mu_is H4 (some 169) 1 from hh1.1.2.2.1.1) ?_
        refine mw_fr (f' := (190, [(5, .inl (nI s)), (4, .inl (nI (st (sz - 1)))), (3, .inl (nI sz)), (2, .inl (nI k)), (1, .inl (nI N)), (0, .inr (.inr (some 169)))], [.inr (.inr (some mt)), .inr (.inr (some 169))], H4)) (by first | (rw [hh1.2.1.2.1.1]; done) | (rw [hh1.2.1.2.1.1]; rfl)) ?_
        refine mw_go mu_g475 (k := 2) (f1 := (193, [(5, .inl (nI s)), (4, .inl (nI (st (sz - 1)))), (3, .inl (nI sz)), (2, .inl (nI k)), (1, .inl (nI N)), (0, .inr (.inr (some 169)))], [.inl (mu_i H4 mt (nI s).toNatClampNeg), .inr (.inr (some 169))], H4)) (C := [mu_isr H4 (some mt) 101, vp_in (nI s) (mu_n H4 mt)]) rfl (show (mu_isr H4 (some mt) 101) ∧ (vp_in (nI s) (mu_n H4 mt)) from ⟨⟨rfl, Or.inl hh1.2.1.2.1.2.1.2.1, hh1.2.1.2.1.2.2.2.1⟩, (vp_in_nI (Nat.lt_of_lt_of_le sN hh1.2.1.2.1.2.2.2.2.1) hh1.2.1.2.1.2.2.2.2.2)⟩) ?_
        refine mw_fr (f' := (193, [(5, .inl (nI s)), (4, .inl (nI (st (sz - 1)))), (3, .inl (nI sz)), (2, .inl (nI k)), (1, .inl (nI N)), (0, .inr (.inr (some 169)))], [.inl (w s), .inr (.inr (some 169))], H4)) (by first | (rw [(show mu_i H4 mt (nI s).toNatClampNeg = (w s) by rw [nI_clamp s31]; exact hh1.2.2.1 s sN)]; done) | (rw [(show mu_i H4 mt (nI s).toNatClampNeg = (w s) by rw [nI_clamp s31]; exact hh1.2.2.1 s sN)]; rfl)) ?_
        refine mw_if (P := (w s) = 0) (a := 196) (b := 200) (fun _ => rfl) trivial (fun h5 => ?_) (fun h5 => ?_)
        · -- 196
          refine mw_go mu_g475 (k := 2) (f1 := (201, [(5, .inl (nI s)), (4, .inl (nI (st (sz - 1)))), (3, .inl (nI sz)), (2, .inl (nI k)), (1, .inl (nI N)), (0, .inr (.inr (some 169)))], [.inl (1 : Int32), .inr (.inr (some 169))], H4)) (C := []) rfl trivial ?_
          refine mw_cE (as := [.inl (1 : Int32)]) (o := some 169) (S1 := []) rfl rfl rfl rfl (Nat.le_of_ble_eq_true rfl) (by decide) hh1.1.2.2.1.1 rfl (by decide) (rp_sound (x := 1)) (fun H9 e9 => absurd e9.1 (by decide)) (fun v9 H9 e9 => ?_)
          obtain ⟨_, rfl, e9⟩ := e9
          rw [e9]
          clear e9 H9
          show mu_W _ mu_m475 (204, [(5, .inl (nI s)), (4, .inl (nI (st (sz - 1)))), (3, .inl (nI sz)), (2, .inl (nI k)), (1, .inl (nI N)), (0, .inr (.inr (some 169)))], [], H4) _
          refine mw_go mu_g475 (k := 2) (f1 := (208, [(5, .inl (nI s)), (4, .inl (nI (st (sz - 1)))), (3, .inl (nI sz)), (2, .inl (nI k)), (1, .inl (nI N)), (0, .inr (.inr (some 169)))], [.inr (.inr (mu_r H4 169 24))], H4)) (C := [mu_is H4 (some 169) 1]) rfl (show mu_is H4 (some 169) 1 from hh1.1.2.2.1.1) ?_
          refine mw_fr (f' := (208, [(5, .inl (nI s)), (4, .inl (nI (st (sz - 1)))), (3, .inl (nI sz)), (2, .inl (nI k)), (1, .inl (nI N)), (0, .inr (.inr (some 169)))], [.inr (.inr (some mt))], H4)) (by first | (rw [hh1.2.1.2.1.1]; done) | (rw [hh1.2.1.2.1.1]; rfl)) ?_
          refine mw_go mu_g475 (k := 3) (f1 := (212, [(5, .inl (nI s)), (4, .inl (nI (st (sz - 1)))), (3, .inl (nI sz)), (2, .inl (nI k)), (1, .inl (nI N)), (0, .inr (.inr (some 169)))], [], (mu_si H4 mt (nI s).toNatClampNeg (vp_nar .byte (1 : Int32))))) (C := [mu_is H4 (some mt) 101, vp_in (nI s) (mu_n H4 mt)]) rfl (show (mu_is H4 (some mt) 101) ∧ (vp_in (nI s) (mu_n H4 mt)) from ⟨⟨rfl, hh1.2.1.2.1.2.1.2.1, hh1.2.1.2.1.2.2.2.1⟩, (vp_in_nI (Nat.lt_of_lt_of_le sN hh1.2.1.2.1.2.2.2.2.1) hh1.2.1.2.1.2.2.2.2.2)⟩) ?_
          obtain ⟨q1, q2, q3⟩ := hi.push (s := s) (by omega) h5 (fun _ => s2)
          refine mw_fr (f' := (212, [(5, .inl (nI s)), (4, .inl (nI (st (sz - 1)))), (3, .inl (nI sz)), (2, .inl (nI k)), (1, .inl (nI N)), (0, .inr (.inr (some 169)))], [], (mu_si H4 mt s 1))) (by rw [nI_clamp s31]; rfl) ?_
          have hd7 : dfh Hb D H0 od mt bg N (fup w s 1) st sz ol on (mu_si H4 mt s 1) := hh1.wm
          obtain ⟨K7, eK7⟩ : ∃ K, K = (mu_si H4 mt s 1) := ⟨_, rfl⟩
          rw [← eK7] at hd7 ⊢
          clear eK7
          have sz31 : sz < N := by omega
          refine mw_go mu_g475 (k := 2) (f1 := (216, [(5, .inl (nI s)), (4, .inl (nI (st (sz - 1)))), (3, .inl (nI sz)), (2, .inl (nI k)), (1, .inl (nI N)), (0, .inr (.inr (some 169)))], [.inr (.inr (mu_r K7 169 25))], K7)) (C := [mu_is K7 (some 169) 1]) rfl (show mu_is K7 (some 169) 1 from hd7.1.2.2.1.1) ?_
          refine mw_fr (f' := (216, [(5, .inl (nI s)), (4, .inl (nI (st (sz - 1)))), (3, .inl (nI sz)), (2, .inl (nI k)), (1, .inl (nI N)), (0, .inr (.inr (some 169)))], [.inr (.inr (some bg))], K7)) (by first | (rw [hd7.2.1.2.2.1.1]; done) | (rw [hd7.2.1.2.2.1.1]; rfl)) ?_
          refine mw_go mu_g475 (k := 4) (f1 := (223, [(3, .inl ((nI sz) + 1)), (5, .inl (nI s)), (4, .inl (nI (st (sz - 1)))), (2, .inl (nI k)), (1, .inl (nI N)), (0, .inr (.inr (some 169)))], [], (mu_si K7 bg (nI sz).toNatClampNeg (nI s)))) (C := [mu_is K7 (some bg) 100, vp_in (nI sz) (mu_n K7 bg)]) rfl (show (mu_is K7 (some bg) 100) ∧ (vp_in (nI sz) (mu_n K7 bg)) from ⟨⟨rfl, hd7.2.1.2.2.1.2.1.2.1, hd7.2.1.2.2.1.2.2.2.1⟩, (vp_in_nI (Nat.lt_of_lt_of_le sz31 hd7.2.1.2.2.1.2.2.2.2.1) hd7.2.1.2.2.1.2.2.2.2.2)⟩) ?_
          refine mw_fr (f' := (223, [(3, .inl ((nI sz) + 1)), (5, .inl (nI s)), (4, .inl (nI (st (sz - 1)))), (2, .inl (nI k)), (1, .inl (nI N)), (0, .inr (.inr (some 169)))], [], (mu_si K7 bg sz (nI s)))) (by rw [nI_clamp (show sz < 2 ^ 31 by omega)]) ?_
          have hd8 : dfh Hb D H0 od mt bg N (fup w s 1) (fup st sz s) (sz + 1) ol on (mu_si K7 bg sz (nI s)) := hd7.wb
          obtain ⟨K8, eK8⟩ : ∃ K, K = (mu_si K7 bg sz (nI s)) := ⟨_, rfl⟩
          rw [← eK8] at hd8 ⊢
          clear eK8
          refine mw_go mu_g475 (k := 1) (f1 := (108, [(3, .inl ((nI sz) + 1)), (5, .inl (nI s)), (4, .inl (nI (st (sz - 1)))), (2, .inl (nI k)), (1, .inl (nI N)), (0, .inr (.inr (some 169)))], [], K8)) (C := []) rfl trivial ?_
          refine mw_sub (L' := [(3, .inl (nI (sz + 1))), (2, .inl (nI k)), (1, .inl (nI N)), (0, .inr (.inr (some 169)))]) (by intro x hx; simp only [List.mem_cons, List.not_mem_nil, or_false] at hx ⊢; rcases hx with rfl | rfl | rfl | rfl <;> simp [nI_add, show (1 : Int32) = nI 1 from rfl]) ?_
          exact rp_neW hb hN hN2 hL hk hthr hfin m _ _ _ _ _ _ (by omega) hd8 q1 (fun i hi2 => by
              rw [fup_ne (fun e => by have := h2 i hi2; rw [e, h5] at this; exact absurd this (by decide))]; exact h2 i hi2) (fun e => by
              by_cases z : k = s
              · subst z; rw [fup_at] at e; exact absurd e (by decide)
              · rw [fup_ne z] at e; exact h3 e)
        · -- 200
          refine mw_go mu_g475 (k := 1) (f1 := (201, [(5, .inl (nI s)), (4, .inl (nI (st (sz - 1)))), (3, .inl (nI sz)), (2, .inl (nI k)), (1, .inl (nI N)), (0, .inr (.inr (some 169)))], [.inl (0 : Int32), .inr (.inr (some 169))], H4)) (C := []) rfl trivial ?_
          have w1 : w s = 1 := by
            rcases hi.1 s (by omega) with e | e | e
            · exact absurd e h5
            · exact e
            · rw [e] at s3; exact absurd s3 (by decide)
          exact mw_cE (as := [.inl (0 : Int32)]) (o := some 169) (S1 := []) rfl rfl rfl rfl (Nat.le_of_ble_eq_true rfl) (by decide) hh1.1.2.2.1.1 rfl (by decide) (rp_sound (x := 0)) (fun H9 e9 => by rw [e9.2]; exact hthr _ (hi.bad sp w1 s2) ((rfr.ex hh1.2.2.2.2.2.2.1).wk (fun _ z => z) (fun _ z => z) (fun _ _ z => z) (by decide) (by decide))) (fun v9 H9 e9 => absurd rfl e9.1)
    · -- 226
      have s0 : sz = 0 := by
        have e : ¬ (0 : Int32) < nI sz := h1
        by_cases z : sz = 0
        · exact z
        · exact absurd (nI_lt (a := 0) (b := sz) (by omega) (by omega)) e
      subst s0
      refine mw_sub (L' := [(2, .inl (nI k)), (1, .inl (nI N)), (0, .inr (.inr (some 169)))]) (by simp) ?_
      refine hfin _ _ _ _ _ hh hi h2 ?_
      rcases hi.1 k (by omega) with e | e | e
      · exact absurd e h3
      · obtain ⟨a, ha, _⟩ := hi.2.2.2.1 k (by omega) e
        exact absurd ha (Nat.not_lt_zero _)
      · exact e
