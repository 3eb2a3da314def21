/-! The reference: untils -/
theorem rp_untils {tr : Prop} {Hb H : mu_H} {D : MD} {ph pt pk pa mm st f : Nat} (hb : mdb D) (hy : mdy D) (hmd : mdn D) (hNS : prd D (D.pr 1).length ≤ 16384) (hma : mda D) (hval : valk tr Hb D ph pt pk pa f) (hvw : mvw tr D) (hvt : valk True Hb D ph pt pk pa f) (hwt : mvw True D) (hfw : mvf tr D) {j q dd F kk : Nat} {c : Tre} (hj : j < D.n) (hn : nd Hb D.G dd q c) (hF : f + 914 ≤ F) (h2 : 1 < tsn c) (hfo : fmk tr Hb D ph pt pk pa mm st F kk j (tkk c 1)) {qp rp qo ro k m : Nat} {rr : Nat → Nat × Nat} (hs : sst tr Hb D ph pt pk pa mm st H) (hg : gos D st H) (hw : rwv D ph pt pk st H k m rr) (hp : btk D ph pt pk st H qp rp) (hq : btk D ph pt pk st H qo ro) (hro : ∀ i, k ≤ i → i < m → ro ≠ (rr i).2) (hz : mu_z H + 3 * (512 - m) + 3 ≤ 1000000) (hk : k + kk + 1 ≤ 256 ∧ k + 5 ≤ 256) : mu_TV (mu_D (F + 1)) 417 [.inr (.inr (some 169)), .inr (.inr (some q)), .inr (.inr (some (D.ip j))), .inr (.inr (some qp)), .inr (.inr (some qo))] H (fun H1 => ∃ m1 rr1, sst tr Hb D ph pt pk pa mm st H1 ∧ gos D st H1 ∧ rwv D ph pt pk st H1 k m1 rr1 ∧ lnt D ph pt pk pa mm st k m rr (fun p => p = ro) H m1 rr1 H1) := by
  refine mu_meth (M := mu_m417) rfl rfl ?_
  refine mw_ht (mu_fn_of (show [0, 1, 2, 3, 4].Nodup by decide)) ?_
  have n0 := nst.first hs hg hw hq hro hz
  refine mw_go mu_g417 (k := 1) (f1 := (1, [(0, .inr (.inr (some 169))), (1, .inr (.inr (some q))), (2, .inr (.inr (some (D.ip j)))), (3, .inr (.inr (some qp))), (4, .inr (.inr (some qo)))], [.inr (.inr (some 169))], H)) (C := []) rfl trivial ?_
  refine mw_cA (fun _ => rfl) (show mu_is H (some 169) 1 from n0.1.1.1.1.2.2.1.1) (mu_TA.up (show f + 2 ≤ F by omega) (rp_rowN (d := f) n0 (by omega))) (fun y1 H1 q1 => ?_)
  obtain ⟨m1, rr1, qb, rb, ey1, ⟨jr1, lr1⟩, kr1, n1, e1, l1, b1⟩ := q1
  subst ey1
  have k1_0 := b1 _ _ hp
  have k1_1 := b1 _ _ hq
  refine mw_go mu_g417 (k := 1) (f1 := (6, [(5, .inr (.inr (some qb))), (0, .inr (.inr (some 169))), (1, .inr (.inr (some q))), (2, .inr (.inr (some (D.ip j)))), (3, .inr (.inr (some qp))), (4, .inr (.inr (some qo)))], [], H1)) (C := []) rfl trivial ?_
  obtain ⟨kd2, ⟨is2, nF2, lt2⟩, ⟨st2, sr2, sf2⟩, ⟨n2_2, n3_2, n7_2⟩, nm2, ar2, aq2, aF2, ai2, ⟨al2, am2, ax2⟩, ch2, dp2⟩ := nd.ra (c := c) hn n1.1.1.1.1.2.1
  obtain ⟨y3, yr3, yn3⟩ := ch2 1 h2
  have yn3 : nd Hb D.G (dd - 1) y3 (tkk c 1) := yn3
  obtain ⟨b1_3, b2_3, b3_3, b4_3⟩ := ar_at ai2 (by decide) (Nat.lt_of_lt_of_le h2 al2) (Nat.lt_of_le_of_lt ax2 (by decide))
  have y2_3 : mu_r H1 ar2 (1 : Int32).toNatClampNeg = some y3 := yr3
  refine mw_go mu_g417 (k := 3) (f1 := (11, [(5, .inr (.inr (some qb))), (0, .inr (.inr (some 169))), (1, .inr (.inr (some q))), (2, .inr (.inr (some (D.ip j)))), (3, .inr (.inr (some qp))), (4, .inr (.inr (some qo)))], [.inr (.inr (mu_r H1 q 1)), .inr (.inr (some 169))], H1)) (C := [mu_is H1 (some q) 18]) rfl (show mu_is H1 (some q) 18 from is2) ?_
  refine mw_fr (f' := (11, [(5, .inr (.inr (some qb))), (0, .inr (.inr (some 169))), (1, .inr (.inr (some q))), (2, .inr (.inr (some (D.ip j)))), (3, .inr (.inr (some qp))), (4, .inr (.inr (some qo)))], [.inr (.inr (some ar2)), .inr (.inr (some 169))], H1)) (by first | (rw [aq2]; done) | (rw [aq2]; rfl)) ?_
  refine mw_go mu_g417 (k := 2) (f1 := (13, [(5, .inr (.inr (some qb))), (0, .inr (.inr (some 169))), (1, .inr (.inr (some q))), (2, .inr (.inr (some (D.ip j)))), (3, .inr (.inr (some qp))), (4, .inr (.inr (some qo)))], [.inr (.inr (mu_r H1 ar2 (1 : Int32).toNatClampNeg)), .inr (.inr (some 169))], H1)) (C := [mu_is H1 (some ar2) (mu_k H1 ar2), 103 ≤ mu_k H1 ar2 ∧ mu_k H1 ar2 ≤ 110 ∧ mu_k H1 ar2 ≠ 108, vp_in (1 : Int32) (mu_n H1 ar2)]) rfl (show (mu_is H1 (some ar2) (mu_k H1 ar2)) ∧ (103 ≤ mu_k H1 ar2 ∧ mu_k H1 ar2 ≤ 110 ∧ mu_k H1 ar2 ≠ 108) ∧ (vp_in (1 : Int32) (mu_n H1 ar2)) from ⟨b1_3, b2_3, b3_3⟩) ?_
  refine mw_fr (f' := (13, [(5, .inr (.inr (some qb))), (0, .inr (.inr (some 169))), (1, .inr (.inr (some q))), (2, .inr (.inr (some (D.ip j)))), (3, .inr (.inr (some qp))), (4, .inr (.inr (some qo)))], [.inr (.inr (some y3)), .inr (.inr (some 169))], H1)) (by first | (rw [y2_3]; done) | (rw [y2_3]; rfl)) ?_
  refine mw_go mu_g417 (k := 2) (f1 := (16, [(5, .inr (.inr (some qb))), (0, .inr (.inr (some 169))), (1, .inr (.inr (some q))), (2, .inr (.inr (some (D.ip j)))), (3, .inr (.inr (some qp))), (4, .inr (.inr (some qo)))], [.inr (.inr (some qb)), .inr (.inr (some (D.ip j))), .inr (.inr (some y3)), .inr (.inr (some 169))], H1)) (C := []) rfl trivial ?_
  refine mw_cV (fun _ => rfl) (show mu_is H1 (some 169) 1 from n1.1.1.1.1.2.2.1.1) (mu_TV.up (show F ≤ F by omega) (nst.call n1 (wok.row jr1 (by omega) (by omega)) (hfo _ _ _ _ _ _ _ _ yn3 n1.1.1 n1.1.2.1 n1.1.2.2 kr1 (nst.apart n1 (wok.row jr1 (by omega) (by omega))) n1.2.2.2.1 (by omega)))) (fun H4 q4 => ?_)
  obtain ⟨m4, rr4, n4, e4, l4, b4⟩ := q4
  have k4_0 := b4 _ _ k1_0
  have k4_1 := b4 _ _ k1_1
  have k4_2 := b4 _ _ kr1
  have j4_0 := (e4 k (by have := n1.1.2.2.m512; omega)).trans jr1
  obtain ⟨kd5, ⟨is5, nF5, lt5⟩, ⟨st5, sr5, sf5⟩, ⟨n2_5, n3_5, n7_5⟩, nm5, ar5, aq5, aF5, ai5, ⟨al5, am5, ax5⟩, ch5, dp5⟩ := nd.ra (c := c) hn n4.1.1.1.1.2.1
  refine mw_go mu_g417 (k := 2) (f1 := (22, [(5, .inr (.inr (some qb))), (0, .inr (.inr (some 169))), (1, .inr (.inr (some q))), (2, .inr (.inr (some (D.ip j)))), (3, .inr (.inr (some qp))), (4, .inr (.inr (some qo)))], [.inr (.inr (some 1000047)), .inr (.inr (some q))], H4)) (C := []) rfl trivial ?_
  refine mw_cIe (fun _ => rfl) (show mu_is H4 (some q) 18 from is5) (mu_TI.up (show f + 3 ≤ F by omega) (agr.isL (e := f) (j := 47) hn n4.1.1.1.1.2.1 (by decide))) ?_
  refine mw_if (P := (if tkd c = 47 then 1 else 0) = 0) (a := 40) (b := 28) (fun _ => rfl) trivial (fun hi6 => ?_) (fun hi6 => ?_)
  · -- 40
    have ek6 : ¬ tkd c = 47 := fun e => by rw [if_pos e] at hi6; exact absurd hi6 (by decide)
    refine mw_go mu_g417 (k := 2) (f1 := (43, [(5, .inr (.inr (some qb))), (0, .inr (.inr (some 169))), (1, .inr (.inr (some q))), (2, .inr (.inr (some (D.ip j)))), (3, .inr (.inr (some qp))), (4, .inr (.inr (some qo)))], [.inr (.inr (some qb)), .inr (.inr (some 169))], H4)) (C := []) rfl trivial ?_
    refine mw_cV (fun _ => rfl) (show mu_is H4 (some 169) 1 from n4.1.1.1.1.2.2.1.1) (mu_TV.up (show f + 3 ≤ F by omega) (nst.zcall n4 k4_2 (wok.row j4_0 (by omega) (by omega)) (rp_deny (d := f) hNS n4.1.1 n4.1.2.1 k4_2))) (fun H7 q7 => ?_)
    obtain ⟨m7, rr7, n7, e7, l7, b7⟩ := q7
    have k7_0 := b7 _ _ k4_0
    have k7_1 := b7 _ _ k4_1
    have k7_2 := b7 _ _ k4_2
    have j7_0 := (e7 k (by have := n4.1.2.2.m512; omega)).trans j4_0
    refine mw_go mu_g417 (k := 1) (f1 := (47, [(5, .inr (.inr (some qb))), (0, .inr (.inr (some 169))), (1, .inr (.inr (some q))), (2, .inr (.inr (some (D.ip j)))), (3, .inr (.inr (some qp))), (4, .inr (.inr (some qo)))], [.inr (.inr (some 169))], H7)) (C := []) rfl trivial ?_
    refine mw_cA (fun _ => rfl) (show mu_is H7 (some 169) 1 from n7.1.1.1.1.2.2.1.1) (mu_TA.up (show f + 2 ≤ F by omega) (rp_rowN (d := f) n7 (by omega))) (fun y8 H8 q8 => ?_)
    obtain ⟨m8, rr8, qg, rg, ey8, ⟨jr8, lr8⟩, kr8, n8, e8, l8, b8⟩ := q8
    subst ey8
    have k8_0 := b8 _ _ k7_0
    have k8_1 := b8 _ _ k7_1
    have k8_2 := b8 _ _ k7_2
    have j8_0 := (e8 k (by have := n7.1.2.2.m512; omega)).trans j7_0
    refine mw_go mu_g417 (k := 2) (f1 := (53, [(6, .inr (.inr (some qg))), (5, .inr (.inr (some qb))), (0, .inr (.inr (some 169))), (1, .inr (.inr (some q))), (2, .inr (.inr (some (D.ip j)))), (3, .inr (.inr (some qp))), (4, .inr (.inr (some qo)))], [.inr (.inr (some 169))], H8)) (C := []) rfl trivial ?_
    refine mw_cA (fun _ => rfl) (show mu_is H8 (some 169) 1 from n8.1.1.1.1.2.2.1.1) (mu_TA.up (show f + 2 ≤ F by omega) (rp_rowN (d := f) n8 (by omega))) (fun y9 H9 q9 => ?_)
    obtain ⟨m9, rr9, qh, rh, ey9, ⟨jr9, lr9⟩, kr9, n9, e9, l9, b9⟩ := q9
    subst ey9
    have k9_0 := b9 _ _ k8_0
    have k9_1 := b9 _ _ k8_1
    have k9_2 := b9 _ _ k8_2
    have k9_3 := b9 _ _ kr8
    have j9_0 := (e9 k (by have := n8.1.2.2.m512; omega)).trans j8_0
    have j9_1 := (e9 (k + 1) (by have := n8.1.2.2.m512; omega)).trans jr8
    refine mw_go mu_g417 (k := 3) (f1 := (61, [(8, .inl (0 : Int32)), (7, .inr (.inr (some qh))), (6, .inr (.inr (some qg))), (5, .inr (.inr (some qb))), (0, .inr (.inr (some 169))), (1, .inr (.inr (some q))), (2, .inr (.inr (some (D.ip j)))), (3, .inr (.inr (some qp))), (4, .inr (.inr (some qo)))], [], H9)) (C := []) rfl trivial ?_
    refine mw_sub (L' := [(8, .inl (nI 0)), (7, .inr (.inr (some qh))), (6, .inr (.inr (some qg))), (5, .inr (.inr (some qb))), (4, .inr (.inr (some qo))), (3, .inr (.inr (some qp))), (0, .inr (.inr (some 169)))]) (by intro x hx; simp only [List.mem_cons, List.not_mem_nil, or_false] at hx ⊢; rcases hx with rfl | rfl | rfl | rfl | rfl | rfl | rfl <;> simp [nI]) ?_
    refine rp_ut0 (f := f) hNS hF (fun H10 s10 g10 ka10 kb10 kc10 kd10 ke10 f10 => ?_) (prd D (D.pr 1).length) 0 _ (Nat.zero_add _) n9.1.1 n9.1.2.1 k9_0 k9_1 k9_2 k9_3 kr9 zfr.rf
    have n10 := nst.z n9 s10 g10 f10 k9_3 (wok.row j9_1 (by omega) (by omega))
    refine mw_go mu_g417 (k := 4) (f1 := (114, [(7, .inr (.inr (some qh))), (6, .inr (.inr (some qg))), (5, .inr (.inr (some qb))), (4, .inr (.inr (some qo))), (3, .inr (.inr (some qp))), (0, .inr (.inr (some 169)))], [.inr (.inr (some qo)), .inr (.inr (some qg)), .inr (.inr (some qb)), .inr (.inr (some 169))], H10)) (C := []) rfl trivial ?_
    refine mw_cV (fun _ => rfl) (show mu_is H10 (some 169) 1 from n10.1.1.1.1.2.2.1.1) (mu_TV.up (show f + 914 ≤ F by omega) (nst.zcall n10 kb10 (Or.inl rfl) (rp_until hb hy hmd hNS hma hval hvw hvt hwt n10.1.1 n10.1.2.1 kc10 kd10 kb10))) (fun H11 q11 => ?_)
    obtain ⟨m11, rr11, n11, e11, l11, b11⟩ := q11
    have k11_0 := b11 _ _ ka10
    have k11_1 := b11 _ _ kb10
    have k11_2 := b11 _ _ kc10
    have k11_3 := b11 _ _ kd10
    have k11_4 := b11 _ _ ke10
    have j11_0 := (e11 k (by have := n10.1.2.2.m512; omega)).trans j9_0
    have j11_1 := (e11 (k + 1) (by have := n10.1.2.2.m512; omega)).trans j9_1
    have j11_2 := (e11 ((k + 1) + 1) (by have := n10.1.2.2.m512; omega)).trans jr9
    refine mw_go mu_g417 (k := 3) (f1 := (122, [(7, .inr (.inr (some qh))), (6, .inr (.inr (some qg))), (5, .inr (.inr (some qb))), (4, .inr (.inr (some qo))), (3, .inr (.inr (some qp))), (0, .inr (.inr (some 169)))], [.inr (.inr (some qh)), .inr (.inr (some qb)), .inr (.inr (some 169))], H11)) (C := []) rfl trivial ?_
    refine mw_cV (fun _ => rfl) (show mu_is H11 (some 169) 1 from n11.1.1.1.1.2.2.1.1) (mu_TV.up (show f + 914 ≤ F by omega) (nst.call n11 (wok.row j11_2 (by omega) (by omega)) (rp_always hb hy hmd hNS hma hval hvw hvt hwt hfw n11.1.1 n11.1.2.1 k11_2 k11_4 n11.1.2.2 (by omega) n11.room (nst.apart n11 (wok.row j11_2 (by omega) (by omega)))))) (fun H12 q12 => ?_)
    obtain ⟨m12, rr12, n12, e12, l12, b12⟩ := q12
    have k12_0 := b12 _ _ k11_0
    have k12_1 := b12 _ _ k11_1
    have k12_2 := b12 _ _ k11_2
    have k12_3 := b12 _ _ k11_3
    have k12_4 := b12 _ _ k11_4
    have j12_0 := (e12 k (by have := n11.1.2.2.m512; omega)).trans j11_0
    have j12_1 := (e12 (k + 1) (by have := n11.1.2.2.m512; omega)).trans j11_1
    have j12_2 := (e12 ((k + 1) + 1) (by have := n11.1.2.2.m512; omega)).trans j11_2
    refine mw_go mu_g417 (k := 2) (f1 := (128, [(8, .inl (0 : Int32)), (7, .inr (.inr (some qh))), (6, .inr (.inr (some qg))), (5, .inr (.inr (some qb))), (4, .inr (.inr (some qo))), (3, .inr (.inr (some qp))), (0, .inr (.inr (some 169)))], [], H12)) (C := []) rfl trivial ?_
    refine mw_sub (L' := [(8, .inl (nI 0)), (7, .inr (.inr (some qh))), (4, .inr (.inr (some qo))), (0, .inr (.inr (some 169)))]) (by intro x hx; simp only [List.mem_cons, List.not_mem_nil, or_false] at hx ⊢; rcases hx with rfl | rfl | rfl | rfl <;> simp [nI]) ?_
    refine rp_ut1 (f := f) hNS hF (fun H13 s13 g13 ka13 kb13 f13 => ?_) (prd D (D.pr 1).length) 0 _ (Nat.zero_add _) n12.1.1 n12.1.2.1 k12_1 k12_4 zfr.rf
    have n13 := nst.z n12 s13 g13 f13 k12_1 (Or.inl rfl)
    refine mw_go mu_g417 (k := 3) (f1 := (192, [(0, .inr (.inr (some 169)))], [.inl (mu_i H13 169 52), .inr (.inr (some 169))], H13)) (C := [mu_is H13 (some 169) 1]) rfl (show mu_is H13 (some 169) 1 from n13.1.1.1.1.2.2.1.1) ?_
    refine mw_fr (f' := (192, [(0, .inr (.inr (some 169)))], [.inl (nI (((k + 1) + 1) + 1)), .inr (.inr (some 169))], H13)) (by first | (rw [n13.i52]; done) | (rw [n13.i52]; rfl)) ?_
    refine mw_go mu_g417 (k := 2) (f1 := (194, [(0, .inr (.inr (some 169)))], [.inl ((nI (((k + 1) + 1) + 1)) - (2 : Int32)), .inr (.inr (some 169))], H13)) (C := []) rfl trivial ?_
    refine mw_fr (f' := (194, [(0, .inr (.inr (some 169)))], [.inl (nI (k + 1)), .inr (.inr (some 169))], H13)) (by first | (rw [(nI_less2 (k + 1))]; done) | (rw [(nI_less2 (k + 1))]; rfl)) ?_
    refine mw_go mu_g417 (k := 1) (f1 := (197, [(0, .inr (.inr (some 169)))], [], (mu_si H13 169 52 (nI (k + 1))))) (C := [mu_is H13 (some 169) 1]) rfl (show mu_is H13 (some 169) 1 from n13.1.1.1.1.2.2.1.1) ?_
    obtain ⟨nD, _⟩ := nst.dec2 (k := k + 1) n13 (by omega)
    obtain ⟨K14, eK14⟩ : ∃ K, K = (mu_si H13 169 52 (nI (k + 1))) := ⟨_, rfl⟩
    rw [← eK14] at nD ⊢
    clear eK14
    refine mw_go mu_g417 (k := 3) (f1 := (202, [(0, .inr (.inr (some 169)))], [.inl (mu_i K14 169 52), .inr (.inr (some 169))], K14)) (C := [mu_is K14 (some 169) 1]) rfl (show mu_is K14 (some 169) 1 from nD.1.1.1.1.2.2.1.1) ?_
    refine mw_fr (f' := (202, [(0, .inr (.inr (some 169)))], [.inl (nI (k + 1)), .inr (.inr (some 169))], K14)) (by first | (rw [nD.i52]; done) | (rw [nD.i52]; rfl)) ?_
    refine mw_go mu_g417 (k := 2) (f1 := (204, [(0, .inr (.inr (some 169)))], [.inl ((nI (k + 1)) - (1 : Int32)), .inr (.inr (some 169))], K14)) (C := []) rfl trivial ?_
    refine mw_fr (f' := (204, [(0, .inr (.inr (some 169)))], [.inl (nI k), .inr (.inr (some 169))], K14)) (by first | (rw [(nI_less1 k)]; done) | (rw [(nI_less1 k)]; rfl)) ?_
    refine mw_go mu_g417 (k := 1) (f1 := (207, [(0, .inr (.inr (some 169)))], [], (mu_si K14 169 52 (nI k)))) (C := [mu_is K14 (some 169) 1]) rfl (show mu_is K14 (some 169) 1 from nD.1.1.1.1.2.2.1.1) ?_
    obtain ⟨nE, _⟩ := nst.dec nD (Nat.le_refl _)
    exact mw_of (fun _ => mu_ret rfl trivial ⟨_, rfl, _, _, nE.1.1, nE.1.2.1, nE.1.2.2, nE.2.1⟩)
  · -- 28
    have ek6 : tkd c = 47 := Decidable.byContradiction (fun e => hi6 (if_neg e))
    refine mw_go mu_g417 (k := 4) (f1 := (34, [(5, .inr (.inr (some qb))), (0, .inr (.inr (some 169))), (1, .inr (.inr (some q))), (2, .inr (.inr (some (D.ip j)))), (3, .inr (.inr (some qp))), (4, .inr (.inr (some qo)))], [.inr (.inr (some qo)), .inr (.inr (some qb)), .inr (.inr (some qp)), .inr (.inr (some 169))], H4)) (C := []) rfl trivial ?_
    refine mw_cV (fun _ => rfl) (show mu_is H4 (some 169) 1 from n4.1.1.1.1.2.2.1.1) (mu_TV.up (show f + 914 ≤ F by omega) (nst.zcall n4 k4_1 (Or.inl rfl) (rp_until hb hy hmd hNS hma hval hvw hvt hwt n4.1.1 n4.1.2.1 k4_0 k4_2 k4_1))) (fun H15 q15 => ?_)
    obtain ⟨m15, rr15, n15, e15, l15, b15⟩ := q15
    have k15_0 := b15 _ _ k4_0
    have k15_1 := b15 _ _ k4_1
    have k15_2 := b15 _ _ k4_2
    have j15_0 := (e15 k (by have := n4.1.2.2.m512; omega)).trans j4_0
    refine mw_go mu_g417 (k := 1) (f1 := (197, [(5, .inr (.inr (some qb))), (0, .inr (.inr (some 169))), (1, .inr (.inr (some q))), (2, .inr (.inr (some (D.ip j)))), (3, .inr (.inr (some qp))), (4, .inr (.inr (some qo)))], [], H15)) (C := []) rfl trivial ?_
    refine mw_go mu_g417 (k := 3) (f1 := (202, [(5, .inr (.inr (some qb))), (0, .inr (.inr (some 169))), (1, .inr (.inr (some q))), (2, .inr (.inr (some (D.ip j)))), (3, .inr (.inr (some qp))), (4, .inr (.inr (some qo)))], [.inl (mu_i H15 169 52), .inr (.inr (some 169))], H15)) (C := [mu_is H15 (some 169) 1]) rfl (show mu_is H15 (some 169) 1 from n15.1.1.1.1.2.2.1.1) ?_
    refine mw_fr (f' := (202, [(5, .inr (.inr (some qb))), (0, .inr (.inr (some 169))), (1, .inr (.inr (some q))), (2, .inr (.inr (some (D.ip j)))), (3, .inr (.inr (some qp))), (4, .inr (.inr (some qo)))], [.inl (nI (k + 1)), .inr (.inr (some 169))], H15)) (by first | (rw [n15.i52]; done) | (rw [n15.i52]; rfl)) ?_
    refine mw_go mu_g417 (k := 2) (f1 := (204, [(5, .inr (.inr (some qb))), (0, .inr (.inr (some 169))), (1, .inr (.inr (some q))), (2, .inr (.inr (some (D.ip j)))), (3, .inr (.inr (some qp))), (4, .inr (.inr (some qo)))], [.inl ((nI (k + 1)) - (1 : Int32)), .inr (.inr (some 169))], H15)) (C := []) rfl trivial ?_
    refine mw_fr (f' := (204, [(5, .inr (.inr (some qb))), (0, .inr (.inr (some 169))), (1, .inr (.inr (some q))), (2, .inr (.inr (some (D.ip j)))), (3, .inr (.inr (some qp))), (4, .inr (.inr (some qo)))], [.inl (nI k), .inr (.inr (some 169))], H15)) (by first | (rw [(nI_less1 k)]; done) | (rw [(nI_less1 k)]; rfl)) ?_
    refine mw_go mu_g417 (k := 1) (f1 := (207, [(5, .inr (.inr (some qb))), (0, .inr (.inr (some 169))), (1, .inr (.inr (some q))), (2, .inr (.inr (some (D.ip j)))), (3, .inr (.inr (some qp))), (4, .inr (.inr (some qo)))], [], (mu_si H15 169 52 (nI k)))) (C := [mu_is H15 (some 169) 1]) rfl (show mu_is H15 (some 169) 1 from n15.1.1.1.1.2.2.1.1) ?_
    obtain ⟨nE, _⟩ := nst.dec n15 (Nat.le_refl _)
    exact mw_of (fun _ => mu_ret rfl trivial ⟨_, rfl, _, _, nE.1.1, nE.1.2.1, nE.1.2.2, nE.2.1⟩)
