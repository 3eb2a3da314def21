/-! The reference: differentNames -/
/-- PathProverModel.differentNames(LPathProverModel$Module;)V -/
abbrev mu_m484 : ev_M := (5, none, [], ev_b484)
theorem mu_g484 : mu_good mu_m484 := mu_goodk ev_k484
def cpl (ps : List Tre) : Nat → Nat → List Tre → List Tre
  | 0, _, a => a
  | m + 1, k, a => cpl ps m (k + 1) (a ++ [nth ps k])
def vdl (cs : List Tre) : Nat → Nat → List Tre → List Tre
  | 0, _, a => a
  | m + 1, k, a => vdl cs m (k + 1) (if tkd (nth cs k) = 73 ∨ tkd (nth cs k) = 74 then a ++ [nth cs k] else a)
/-- what has a name in a MODULE: params, VARs, DEFINEs -/
def nmy (y : Mdl) : List Tre := vdl y.2.2 y.2.2.length 0 (cpl y.2.1 y.2.1.length 0 [])
/-- names differ -/
def dfz (y : Mdl) : Prop := ∀ j, j < (nmy y).length → ∀ i, i < j → ¬ nam (nth (nmy y) i) = nam (nth (nmy y) j)
/-- each has a name -/
def aln (cs : List Tre) : Prop := ∀ i, i < cs.length → 0 < (tns (nth cs i)).length
theorem aln.add {cs : List Tre} {c : Tre} (h : aln cs) (hc : 0 < (tns c).length) : aln (cs ++ [c]) := getD_all (Q := fun c => 0 < (tns c).length) h hc
theorem cpl_len {ps : List Tre} : ∀ m k a, (cpl ps m k a).length = a.length + m
  | 0, _, _ => rfl
  | m + 1, k, a => by
    have h : (cpl ps m (k + 1) (a ++ [nth ps k])).length = (a ++ [nth ps k]).length + m := cpl_len m (k + 1) _
    rw [cpl, h, len_ap]
    omega
theorem vdl_len {cs : List Tre} : ∀ m k a, (vdl cs m k a).length ≤ a.length + m
  | 0, _, _ => Nat.le_refl _
  | m + 1, k, a => by
    have h : (vdl cs m (k + 1) (if tkd (nth cs k) = 73 ∨ tkd (nth cs k) = 74 then a ++ [nth cs k] else a)).length ≤ (if tkd (nth cs k) = 73 ∨ tkd (nth cs k) = 74 then a ++ [nth cs k] else a).length + m := vdl_len m (k + 1) _
    rw [vdl]
    refine Nat.le_trans h ?_
    split
    · rw [len_ap]; omega
    · omega
theorem rp_df1 {T : Nat → Int32} {n dep d lv m q : Nat} {t : Tok} {H0 : mu_H} {F : Nat → Prop} {y : Mdl} {Φ : mu_R → Prop} (h0 : pst T n t dep F H0) (hm0 : mdf H0 F lv m y) (hw : mdw y) (hz : mu_z H0 + 4 * (y.2.1.length + y.2.2.length) + 30 ≤ 1000000) {as : List Tre} (hfin : ∀ H a c qs, pst T n t dep F H → nun H0 H F lv q a c (1000000 + 77) 77 0 [] qs (cpl y.2.1 y.2.1.length 0 as) → kep (fun p => mu_z H0 ≤ p ∧ p < 1000000) c (10 * c) H0 H → aln (cpl y.2.1 y.2.1.length 0 as) → mu_W (mu_D (d + 4)) mu_m484 (44, [(2, .inr (.inr (some q))), (1, .inr (.inr (some m))), (0, .inr (.inr (some 169)))], [], H) Φ) : ∀ m_ j H a c qs cs_, j + m_ = y.2.1.length → pst T n t dep F H → nun H0 H F lv q a c (1000000 + 77) 77 0 [] qs cs_ → kep (fun p => mu_z H0 ≤ p ∧ p < 1000000) c (10 * c) H0 H → aln cs_ → cs_.length ≤ 0 + j → cpl y.2.1 m_ j cs_ = cpl y.2.1 y.2.1.length 0 as → mu_W (mu_D (d + 4)) mu_m484 (13, [(3, .inl (nI j)), (2, .inr (.inr (some q))), (1, .inr (.inr (some m))), (0, .inr (.inr (some 169)))], [], H) Φ
  | 0, j, H, a, c, qs, cs_, hm_, hs, hu, hk, hal, hlen, hcs => by
    have hcs : cs_ = _ := hcs
    subst hcs
    have g200 := h0.1.1
    have hF0 : ∀ p, (mu_z H0 ≤ p ∧ p < 1000000) → ¬ F p ∧ p < 1000000 := fun p z => ⟨fun y => by have := (h0.fz _ y).2.1.1; omega, z.2⟩
    have hm := hm0.kt (ktf.kp hk hF0)
    have hcap := hu.cap
    have hzk := hk.2.2.1.1
    obtain ⟨mi1, ⟨mw1, mr0_1, ms1⟩, ⟨mp1, mr1_1, mpn1⟩, mq1, mr2_1, mqn1⟩ := mdf.rd (y := y) hm
    obtain ⟨kd2, ⟨is2, nF2, lt2⟩, ⟨st2, sr2, sf2⟩, ⟨n2_2, n3_2, n7_2⟩, nm2, ar2, aq2, aF2, ai2, ⟨al2, am2, ax2⟩, ch2, dp2⟩ := nd.rd (c := (tmk 62 0 [] y.2.1)) mpn1
    refine mw_go mu_g484 (k := 3) (f1 := (18, [(3, .inl (nI j)), (2, .inr (.inr (some q))), (1, .inr (.inr (some m))), (0, .inr (.inr (some 169)))], [.inr (.inr (mu_r H m 1)), .inl (nI j)], H)) (C := [mu_is H (some m) 17]) rfl (show mu_is H (some m) 17 from mi1) ?_
    refine mw_fr (f' := (18, [(3, .inl (nI j)), (2, .inr (.inr (some q))), (1, .inr (.inr (some m))), (0, .inr (.inr (some 169)))], [.inr (.inr (some mp1)), .inl (nI j)], H)) (by first | (rw [mr1_1]; done) | (rw [mr1_1]; rfl)) ?_
    refine mw_go mu_g484 (k := 1) (f1 := (21, [(3, .inl (nI j)), (2, .inr (.inr (some q))), (1, .inr (.inr (some m))), (0, .inr (.inr (some 169)))], [.inl (mu_i H mp1 2), .inl (nI j)], H)) (C := [mu_is H (some mp1) 18]) rfl (show mu_is H (some mp1) 18 from is2) ?_
    refine mw_fr (f' := (21, [(3, .inl (nI j)), (2, .inr (.inr (some q))), (1, .inr (.inr (some m))), (0, .inr (.inr (some 169)))], [.inl (nI y.2.1.length), .inl (nI j)], H)) (by first | (rw [n2_2]; done) | (rw [n2_2]; rfl)) ?_
    refine mw_if (P := (nI j) < (nI y.2.1.length)) (a := 24) (b := 44) (fun _ => rfl) trivial (fun h1 => absurd h1 (by rw [show j = y.2.1.length by omega]; exact Int32.lt_irrefl)) (fun h1 => ?_)
    refine mw_sub (L' := [(2, .inr (.inr (some q))), (1, .inr (.inr (some m))), (0, .inr (.inr (some 169)))]) (by simp) ?_
    exact hfin H a c qs hs hu hk hal
  | m_ + 1, j, H, a, c, qs, cs_, hm_, hs, hu, hk, hal, hlen, hcs => by
    have g200 := h0.1.1
    have hF0 : ∀ p, (mu_z H0 ≤ p ∧ p < 1000000) → ¬ F p ∧ p < 1000000 := fun p z => ⟨fun y => by have := (h0.fz _ y).2.1.1; omega, z.2⟩
    have hm := hm0.kt (ktf.kp hk hF0)
    have hcap := hu.cap
    have hzk := hk.2.2.1.1
    obtain ⟨mi1, ⟨mw1, mr0_1, ms1⟩, ⟨mp1, mr1_1, mpn1⟩, mq1, mr2_1, mqn1⟩ := mdf.rd (y := y) hm
    obtain ⟨kd2, ⟨is2, nF2, lt2⟩, ⟨st2, sr2, sf2⟩, ⟨n2_2, n3_2, n7_2⟩, nm2, ar2, aq2, aF2, ai2, ⟨al2, am2, ax2⟩, ch2, dp2⟩ := nd.rd (c := (tmk 62 0 [] y.2.1)) mpn1
    have hj : j < y.2.1.length := by omega
    have hl26 : y.2.1.length ≤ 2 ^ 21 := Nat.le_trans al2 ax2
    have hp := hw.1 j hj
    refine mw_go mu_g484 (k := 3) (f1 := (18, [(3, .inl (nI j)), (2, .inr (.inr (some q))), (1, .inr (.inr (some m))), (0, .inr (.inr (some 169)))], [.inr (.inr (mu_r H m 1)), .inl (nI j)], H)) (C := [mu_is H (some m) 17]) rfl (show mu_is H (some m) 17 from mi1) ?_
    refine mw_fr (f' := (18, [(3, .inl (nI j)), (2, .inr (.inr (some q))), (1, .inr (.inr (some m))), (0, .inr (.inr (some 169)))], [.inr (.inr (some mp1)), .inl (nI j)], H)) (by first | (rw [mr1_1]; done) | (rw [mr1_1]; rfl)) ?_
    refine mw_go mu_g484 (k := 1) (f1 := (21, [(3, .inl (nI j)), (2, .inr (.inr (some q))), (1, .inr (.inr (some m))), (0, .inr (.inr (some 169)))], [.inl (mu_i H mp1 2), .inl (nI j)], H)) (C := [mu_is H (some mp1) 18]) rfl (show mu_is H (some mp1) 18 from is2) ?_
    refine mw_fr (f' := (21, [(3, .inl (nI j)), (2, .inr (.inr (some q))), (1, .inr (.inr (some m))), (0, .inr (.inr (some 169)))], [.inl (nI y.2.1.length), .inl (nI j)], H)) (by first | (rw [n2_2]; done) | (rw [n2_2]; rfl)) ?_
    refine mw_if (P := (nI j) < (nI y.2.1.length)) (a := 24) (b := 44) (fun _ => rfl) trivial (fun h1 => ?_) (fun h1 => absurd (nI_lt hj (by omega)) h1)
    obtain ⟨p, yr3, yn3⟩ := ch2 j hj
    have yn3 : nd H F (lv - 1) p (nth y.2.1 j) := yn3
    obtain ⟨b1_3, b2_3, b3_3, b4_3⟩ := ar_at ai2 (by decide) (Nat.lt_of_lt_of_le hj al2) (Nat.lt_of_le_of_lt ax2 (by decide))
    have y2_3 : mu_r H ar2 (nI j).toNatClampNeg = some p := by rw [b4_3]; exact yr3
    obtain ⟨kd4, ⟨is4, nF4, lt4⟩, ⟨st4, sr4, sf4⟩, ⟨n2_4, n3_4, n7_4⟩, nm4, ar4, aq4, aF4, ai4, ⟨al4, am4, ax4⟩, ch4, dp4⟩ := nd.rd (c := (nth y.2.1 j)) yn3
    refine mw_go mu_g484 (k := 3) (f1 := (29, [(3, .inl (nI j)), (2, .inr (.inr (some q))), (1, .inr (.inr (some m))), (0, .inr (.inr (some 169)))], [.inr (.inr (mu_r H m 1)), .inr (.inr (some q))], H)) (C := [mu_is H (some m) 17]) rfl (show mu_is H (some m) 17 from mi1) ?_
    refine mw_fr (f' := (29, [(3, .inl (nI j)), (2, .inr (.inr (some q))), (1, .inr (.inr (some m))), (0, .inr (.inr (some 169)))], [.inr (.inr (some mp1)), .inr (.inr (some q))], H)) (by first | (rw [mr1_1]; done) | (rw [mr1_1]; rfl)) ?_
    refine mw_go mu_g484 (k := 1) (f1 := (32, [(3, .inl (nI j)), (2, .inr (.inr (some q))), (1, .inr (.inr (some m))), (0, .inr (.inr (some 169)))], [.inr (.inr (mu_r H mp1 1)), .inr (.inr (some q))], H)) (C := [mu_is H (some mp1) 18]) rfl (show mu_is H (some mp1) 18 from is2) ?_
    refine mw_fr (f' := (32, [(3, .inl (nI j)), (2, .inr (.inr (some q))), (1, .inr (.inr (some m))), (0, .inr (.inr (some 169)))], [.inr (.inr (some ar2)), .inr (.inr (some q))], H)) (by first | (rw [aq2]; done) | (rw [aq2]; rfl)) ?_
    refine mw_go mu_g484 (k := 2) (f1 := (34, [(3, .inl (nI j)), (2, .inr (.inr (some q))), (1, .inr (.inr (some m))), (0, .inr (.inr (some 169)))], [.inr (.inr (mu_r H ar2 (nI j).toNatClampNeg)), .inr (.inr (some q))], H)) (C := [mu_is H (some ar2) (mu_k H ar2), 103 ≤ mu_k H ar2 ∧ mu_k H ar2 ≤ 110 ∧ mu_k H ar2 ≠ 108, vp_in (nI j) (mu_n H ar2)]) rfl (show (mu_is H (some ar2) (mu_k H ar2)) ∧ (103 ≤ mu_k H ar2 ∧ mu_k H ar2 ≤ 110 ∧ mu_k H ar2 ≠ 108) ∧ (vp_in (nI j) (mu_n H ar2)) from ⟨b1_3, b2_3, b3_3⟩) ?_
    refine mw_fr (f' := (34, [(3, .inl (nI j)), (2, .inr (.inr (some q))), (1, .inr (.inr (some m))), (0, .inr (.inr (some 169)))], [.inr (.inr (some p)), .inr (.inr (some q))], H)) (by first | (rw [y2_3]; done) | (rw [y2_3]; rfl)) ?_
    have hs9 := hu
    refine mw_cA (fun _ => rfl) hu.is (nd_addW hu hs g200 (nd.le yn3 (Nat.sub_le _ _)) (by omega) (by omega)) (fun r9 H2 q9 => ?_)
    obtain ⟨rfl, kn, a1, c1, u1, s1, hc1, k1, kx, ax⟩ := q9
    have k2 : kep (fun p => mu_z H0 ≤ p ∧ p < 1000000) c1 (10 * c1) H0 H2 := (hk.tr k1 (W := (fun p => mu_z H0 ≤ p ∧ p < 1000000)) (fun p _ z => z.elim id id)).wk (fun _ _ z => z) (by omega) (by omega)
    show mu_W _ mu_m484 (37, [(3, .inl (nI j)), (2, .inr (.inr (some q))), (1, .inr (.inr (some m))), (0, .inr (.inr (some 169)))], [.inr (.inr (some q))], H2) _
    refine mw_go mu_g484 (k := 3) (f1 := (13, [(3, .inl ((nI j) + 1)), (2, .inr (.inr (some q))), (1, .inr (.inr (some m))), (0, .inr (.inr (some 169)))], [], H2)) (C := []) rfl trivial ?_
    refine mw_sub (L' := [(3, .inl (nI (j + 1))), (2, .inr (.inr (some q))), (1, .inr (.inr (some m))), (0, .inr (.inr (some 169)))]) (by intro x hx; simp only [List.mem_cons, List.not_mem_nil, or_false] at hx ⊢; rcases hx with rfl | rfl | rfl | rfl <;> simp [nI_add, show (1 : Int32) = nI 1 from rfl]) ?_
    exact rp_df1 h0 hm0 hw hz hfin m_ (j + 1) _ _ _ _ _ (by omega) s1 u1 k2 (hal.add (by rw [hp.2.1]; exact Nat.one_pos)) (by rw [len_ap]; omega) hcs
theorem rp_df2 {T : Nat → Int32} {n dep d lv m q : Nat} {t : Tok} {H0 : mu_H} {F : Nat → Prop} {y : Mdl} {Φ : mu_R → Prop} (h0 : pst T n t dep F H0) (hm0 : mdf H0 F lv m y) (hw : mdw y) (hz : mu_z H0 + 4 * (y.2.1.length + y.2.2.length) + 30 ≤ 1000000) {as : List Tre} (hfin : ∀ H a c qs, pst T n t dep F H → nun H0 H F lv q a c (1000000 + 77) 77 0 [] qs (vdl y.2.2 y.2.2.length 0 as) → kep (fun p => mu_z H0 ≤ p ∧ p < 1000000) c (10 * c) H0 H → aln (vdl y.2.2 y.2.2.length 0 as) → mu_W (mu_D (d + 4)) mu_m484 (103, [(2, .inr (.inr (some q))), (1, .inr (.inr (some m))), (0, .inr (.inr (some 169)))], [], H) Φ) : ∀ m_ j H a c qs cs_, j + m_ = y.2.2.length → pst T n t dep F H → nun H0 H F lv q a c (1000000 + 77) 77 0 [] qs cs_ → kep (fun p => mu_z H0 ≤ p ∧ p < 1000000) c (10 * c) H0 H → aln cs_ → cs_.length ≤ y.2.1.length + j → vdl y.2.2 m_ j cs_ = vdl y.2.2 y.2.2.length 0 as → mu_W (mu_D (d + 4)) mu_m484 (46, [(3, .inl (nI j)), (2, .inr (.inr (some q))), (1, .inr (.inr (some m))), (0, .inr (.inr (some 169)))], [], H) Φ
  | 0, j, H, a, c, qs, cs_, hm_, hs, hu, hk, hal, hlen, hcs => by
    have hcs : cs_ = _ := hcs
    subst hcs
    have g200 := h0.1.1
    have hF0 : ∀ p, (mu_z H0 ≤ p ∧ p < 1000000) → ¬ F p ∧ p < 1000000 := fun p z => ⟨fun y => by have := (h0.fz _ y).2.1.1; omega, z.2⟩
    have hm := hm0.kt (ktf.kp hk hF0)
    have hcap := hu.cap
    have hzk := hk.2.2.1.1
    obtain ⟨mi1, ⟨mw1, mr0_1, ms1⟩, ⟨mp1, mr1_1, mpn1⟩, mq1, mr2_1, mqn1⟩ := mdf.rd (y := y) hm
    obtain ⟨kd2, ⟨is2, nF2, lt2⟩, ⟨st2, sr2, sf2⟩, ⟨n2_2, n3_2, n7_2⟩, nm2, ar2, aq2, aF2, ai2, ⟨al2, am2, ax2⟩, ch2, dp2⟩ := nd.rd (c := (tmk 67 0 [] y.2.2)) mqn1
    refine mw_go mu_g484 (k := 3) (f1 := (51, [(3, .inl (nI j)), (2, .inr (.inr (some q))), (1, .inr (.inr (some m))), (0, .inr (.inr (some 169)))], [.inr (.inr (mu_r H m 2)), .inl (nI j)], H)) (C := [mu_is H (some m) 17]) rfl (show mu_is H (some m) 17 from mi1) ?_
    refine mw_fr (f' := (51, [(3, .inl (nI j)), (2, .inr (.inr (some q))), (1, .inr (.inr (some m))), (0, .inr (.inr (some 169)))], [.inr (.inr (some mq1)), .inl (nI j)], H)) (by first | (rw [mr2_1]; done) | (rw [mr2_1]; rfl)) ?_
    refine mw_go mu_g484 (k := 1) (f1 := (54, [(3, .inl (nI j)), (2, .inr (.inr (some q))), (1, .inr (.inr (some m))), (0, .inr (.inr (some 169)))], [.inl (mu_i H mq1 2), .inl (nI j)], H)) (C := [mu_is H (some mq1) 18]) rfl (show mu_is H (some mq1) 18 from is2) ?_
    refine mw_fr (f' := (54, [(3, .inl (nI j)), (2, .inr (.inr (some q))), (1, .inr (.inr (some m))), (0, .inr (.inr (some 169)))], [.inl (nI y.2.2.length), .inl (nI j)], H)) (by first | (rw [n2_2]; done) | (rw [n2_2]; rfl)) ?_
    refine mw_if (P := (nI j) < (nI y.2.2.length)) (a := 57) (b := 103) (fun _ => rfl) trivial (fun h1 => absurd h1 (by rw [show j = y.2.2.length by omega]; exact Int32.lt_irrefl)) (fun h1 => ?_)
    refine mw_sub (L' := [(2, .inr (.inr (some q))), (1, .inr (.inr (some m))), (0, .inr (.inr (some 169)))]) (by simp) ?_
    exact hfin H a c qs hs hu hk hal
  | m_ + 1, j, H, a, c, qs, cs_, hm_, hs, hu, hk, hal, hlen, hcs => by
    have g200 := h0.1.1
    have hF0 : ∀ p, (mu_z H0 ≤ p ∧ p < 1000000) → ¬ F p ∧ p < 1000000 := fun p z => ⟨fun y => by have := (h0.fz _ y).2.1.1; omega, z.2⟩
    have hm := hm0.kt (ktf.kp hk hF0)
    have hcap := hu.cap
    have hzk := hk.2.2.1.1
    obtain ⟨mi1, ⟨mw1, mr0_1, ms1⟩, ⟨mp1, mr1_1, mpn1⟩, mq1, mr2_1, mqn1⟩ := mdf.rd (y := y) hm
    obtain ⟨kd2, ⟨is2, nF2, lt2⟩, ⟨st2, sr2, sf2⟩, ⟨n2_2, n3_2, n7_2⟩, nm2, ar2, aq2, aF2, ai2, ⟨al2, am2, ax2⟩, ch2, dp2⟩ := nd.rd (c := (tmk 67 0 [] y.2.2)) mqn1
    have hj : j < y.2.2.length := by omega
    have hl26 : y.2.2.length ≤ 2 ^ 21 := Nat.le_trans al2 ax2
    have hp := hw.2 j hj
    refine mw_go mu_g484 (k := 3) (f1 := (51, [(3, .inl (nI j)), (2, .inr (.inr (some q))), (1, .inr (.inr (some m))), (0, .inr (.inr (some 169)))], [.inr (.inr (mu_r H m 2)), .inl (nI j)], H)) (C := [mu_is H (some m) 17]) rfl (show mu_is H (some m) 17 from mi1) ?_
    refine mw_fr (f' := (51, [(3, .inl (nI j)), (2, .inr (.inr (some q))), (1, .inr (.inr (some m))), (0, .inr (.inr (some 169)))], [.inr (.inr (some mq1)), .inl (nI j)], H)) (by first | (rw [mr2_1]; done) | (rw [mr2_1]; rfl)) ?_
    refine mw_go mu_g484 (k := 1) (f1 := (54, [(3, .inl (nI j)), (2, .inr (.inr (some q))), (1, .inr (.inr (some m))), (0, .inr (.inr (some 169)))], [.inl (mu_i H mq1 2), .inl (nI j)], H)) (C := [mu_is H (some mq1) 18]) rfl (show mu_is H (some mq1) 18 from is2) ?_
    refine mw_fr (f' := (54, [(3, .inl (nI j)), (2, .inr (.inr (some q))), (1, .inr (.inr (some m))), (0, .inr (.inr (some 169)))], [.inl (nI y.2.2.length), .inl (nI j)], H)) (by first | (rw [n2_2]; done) | (rw [n2_2]; rfl)) ?_
    refine mw_if (P := (nI j) < (nI y.2.2.length)) (a := 57) (b := 103) (fun _ => rfl) trivial (fun h1 => ?_) (fun h1 => absurd (nI_lt hj (by omega)) h1)
    obtain ⟨p, yr3, yn3⟩ := ch2 j hj
    have yn3 : nd H F (lv - 1) p (nth y.2.2 j) := yn3
    obtain ⟨b1_3, b2_3, b3_3, b4_3⟩ := ar_at ai2 (by decide) (Nat.lt_of_lt_of_le hj al2) (Nat.lt_of_le_of_lt ax2 (by decide))
    have y2_3 : mu_r H ar2 (nI j).toNatClampNeg = some p := by rw [b4_3]; exact yr3
    obtain ⟨kd4, ⟨is4, nF4, lt4⟩, ⟨st4, sr4, sf4⟩, ⟨n2_4, n3_4, n7_4⟩, nm4, ar4, aq4, aF4, ai4, ⟨al4, am4, ax4⟩, ch4, dp4⟩ := nd.rd (c := (nth y.2.2 j)) yn3
    refine mw_go mu_g484 (k := 2) (f1 := (61, [(3, .inl (nI j)), (2, .inr (.inr (some q))), (1, .inr (.inr (some m))), (0, .inr (.inr (some 169)))], [.inr (.inr (mu_r H m 2))], H)) (C := [mu_is H (some m) 17]) rfl (show mu_is H (some m) 17 from mi1) ?_
    refine mw_fr (f' := (61, [(3, .inl (nI j)), (2, .inr (.inr (some q))), (1, .inr (.inr (some m))), (0, .inr (.inr (some 169)))], [.inr (.inr (some mq1))], H)) (by first | (rw [mr2_1]; done) | (rw [mr2_1]; rfl)) ?_
    refine mw_go mu_g484 (k := 1) (f1 := (64, [(3, .inl (nI j)), (2, .inr (.inr (some q))), (1, .inr (.inr (some m))), (0, .inr (.inr (some 169)))], [.inr (.inr (mu_r H mq1 1))], H)) (C := [mu_is H (some mq1) 18]) rfl (show mu_is H (some mq1) 18 from is2) ?_
    refine mw_fr (f' := (64, [(3, .inl (nI j)), (2, .inr (.inr (some q))), (1, .inr (.inr (some m))), (0, .inr (.inr (some 169)))], [.inr (.inr (some ar2))], H)) (by first | (rw [aq2]; done) | (rw [aq2]; rfl)) ?_
    refine mw_go mu_g484 (k := 2) (f1 := (66, [(3, .inl (nI j)), (2, .inr (.inr (some q))), (1, .inr (.inr (some m))), (0, .inr (.inr (some 169)))], [.inr (.inr (mu_r H ar2 (nI j).toNatClampNeg))], H)) (C := [mu_is H (some ar2) (mu_k H ar2), 103 ≤ mu_k H ar2 ∧ mu_k H ar2 ≤ 110 ∧ mu_k H ar2 ≠ 108, vp_in (nI j) (mu_n H ar2)]) rfl (show (mu_is H (some ar2) (mu_k H ar2)) ∧ (103 ≤ mu_k H ar2 ∧ mu_k H ar2 ≤ 110 ∧ mu_k H ar2 ≠ 108) ∧ (vp_in (nI j) (mu_n H ar2)) from ⟨b1_3, b2_3, b3_3⟩) ?_
    refine mw_fr (f' := (66, [(3, .inl (nI j)), (2, .inr (.inr (some q))), (1, .inr (.inr (some m))), (0, .inr (.inr (some 169)))], [.inr (.inr (some p))], H)) (by first | (rw [y2_3]; done) | (rw [y2_3]; rfl)) ?_
    refine mw_go mu_g484 (k := 3) (f1 := (73, [(4, .inr (.inr (some p))), (3, .inl (nI j)), (2, .inr (.inr (some q))), (1, .inr (.inr (some m))), (0, .inr (.inr (some 169)))], [.inr (.inr (some 1000073)), .inr (.inr (some p))], H)) (C := []) rfl trivial ?_
    refine mw_cIe (fun _ => rfl) (show mu_is H (some p) 18 from is4) (nd.isL (e := d + 1) (j := 73) yn3 (by decide)) ?_
    refine mw_if (P := (if tkd (nth y.2.2 j) = 73 then 1 else 0) = 0) (a := 79) (b := 90) (fun _ => rfl) trivial (fun hi5 => ?_) (fun hi5 => ?_)
    · -- 79
      have ek5 : ¬ tkd (nth y.2.2 j) = 73 := fun e => by rw [if_pos e] at hi5; exact absurd hi5 (by decide)
      refine mw_go mu_g484 (k := 2) (f1 := (84, [(4, .inr (.inr (some p))), (3, .inl (nI j)), (2, .inr (.inr (some q))), (1, .inr (.inr (some m))), (0, .inr (.inr (some 169)))], [.inr (.inr (some 1000074)), .inr (.inr (some p))], H)) (C := []) rfl trivial ?_
      refine mw_cIe (fun _ => rfl) (show mu_is H (some p) 18 from is4) (nd.isL (e := d + 1) (j := 74) yn3 (by decide)) ?_
      refine mw_if (P := (if tkd (nth y.2.2 j) = 74 then 1 else 0) = 0) (a := 97) (b := 90) (fun _ => rfl) trivial (fun hi6 => ?_) (fun hi6 => ?_)
      · -- 97
        have ek6 : ¬ tkd (nth y.2.2 j) = 74 := fun e => by rw [if_pos e] at hi6; exact absurd hi6 (by decide)
        refine mw_go mu_g484 (k := 2) (f1 := (46, [(3, .inl ((nI j) + 1)), (4, .inr (.inr (some p))), (2, .inr (.inr (some q))), (1, .inr (.inr (some m))), (0, .inr (.inr (some 169)))], [], H)) (C := []) rfl trivial ?_
        refine mw_sub (L' := [(3, .inl (nI (j + 1))), (2, .inr (.inr (some q))), (1, .inr (.inr (some m))), (0, .inr (.inr (some 169)))]) (by intro x hx; simp only [List.mem_cons, List.not_mem_nil, or_false] at hx ⊢; rcases hx with rfl | rfl | rfl | rfl <;> simp [nI_add, show (1 : Int32) = nI 1 from rfl]) ?_
        exact rp_df2 h0 hm0 hw hz hfin m_ (j + 1) _ _ _ _ _ (by omega) hs hu hk hal (by omega) (by rw [vdl, if_neg (fun z => z.elim ek5 ek6)] at hcs; exact hcs)
      · -- 90
        have ek6 : tkd (nth y.2.2 j) = 74 := Decidable.byContradiction (fun e => hi6 (if_neg e))
        refine mw_go mu_g484 (k := 2) (f1 := (93, [(4, .inr (.inr (some p))), (3, .inl (nI j)), (2, .inr (.inr (some q))), (1, .inr (.inr (some m))), (0, .inr (.inr (some 169)))], [.inr (.inr (some p)), .inr (.inr (some q))], H)) (C := []) rfl trivial ?_
        have hs9 := hu
        refine mw_cA (fun _ => rfl) hu.is (nd_addW hu hs g200 (nd.le yn3 (Nat.sub_le _ _)) (by omega) (by omega)) (fun r9 H2 q9 => ?_)
        obtain ⟨rfl, kn, a1, c1, u1, s1, hc1, k1, kx, ax⟩ := q9
        have k2 : kep (fun p => mu_z H0 ≤ p ∧ p < 1000000) c1 (10 * c1) H0 H2 := (hk.tr k1 (W := (fun p => mu_z H0 ≤ p ∧ p < 1000000)) (fun p _ z => z.elim id id)).wk (fun _ _ z => z) (by omega) (by omega)
        show mu_W _ mu_m484 (96, [(4, .inr (.inr (some p))), (3, .inl (nI j)), (2, .inr (.inr (some q))), (1, .inr (.inr (some m))), (0, .inr (.inr (some 169)))], [.inr (.inr (some q))], H2) _
        refine mw_go mu_g484 (k := 3) (f1 := (46, [(3, .inl ((nI j) + 1)), (4, .inr (.inr (some p))), (2, .inr (.inr (some q))), (1, .inr (.inr (some m))), (0, .inr (.inr (some 169)))], [], H2)) (C := []) rfl trivial ?_
        refine mw_sub (L' := [(3, .inl (nI (j + 1))), (2, .inr (.inr (some q))), (1, .inr (.inr (some m))), (0, .inr (.inr (some 169)))]) (by intro x hx; simp only [List.mem_cons, List.not_mem_nil, or_false] at hx ⊢; rcases hx with rfl | rfl | rfl | rfl <;> simp [nI_add, show (1 : Int32) = nI 1 from rfl]) ?_
        exact rp_df2 h0 hm0 hw hz hfin m_ (j + 1) _ _ _ _ _ (by omega) s1 u1 k2 (hal.add (by rw [hp.1.1]; exact Nat.one_pos)) (by rw [len_ap]; omega) (by rw [vdl, if_pos (Or.inr ek6)] at hcs; exact hcs)
    · -- 90
      have ek5 : tkd (nth y.2.2 j) = 73 := Decidable.byContradiction (fun e => hi5 (if_neg e))
      refine mw_go mu_g484 (k := 2) (f1 := (93, [(4, .inr (.inr (some p))), (3, .inl (nI j)), (2, .inr (.inr (some q))), (1, .inr (.inr (some m))), (0, .inr (.inr (some 169)))], [.inr (.inr (some p)), .inr (.inr (some q))], H)) (C := []) rfl trivial ?_
      have hs9 := hu
      refine mw_cA (fun _ => rfl) hu.is (nd_addW hu hs g200 (nd.le yn3 (Nat.sub_le _ _)) (by omega) (by omega)) (fun r9 H2 q9 => ?_)
      obtain ⟨rfl, kn, a1, c1, u1, s1, hc1, k1, kx, ax⟩ := q9
      have k2 : kep (fun p => mu_z H0 ≤ p ∧ p < 1000000) c1 (10 * c1) H0 H2 := (hk.tr k1 (W := (fun p => mu_z H0 ≤ p ∧ p < 1000000)) (fun p _ z => z.elim id id)).wk (fun _ _ z => z) (by omega) (by omega)
      show mu_W _ mu_m484 (96, [(4, .inr (.inr (some p))), (3, .inl (nI j)), (2, .inr (.inr (some q))), (1, .inr (.inr (some m))), (0, .inr (.inr (some 169)))], [.inr (.inr (some q))], H2) _
      refine mw_go mu_g484 (k := 3) (f1 := (46, [(3, .inl ((nI j) + 1)), (4, .inr (.inr (some p))), (2, .inr (.inr (some q))), (1, .inr (.inr (some m))), (0, .inr (.inr (some 169)))], [], H2)) (C := []) rfl trivial ?_
      refine mw_sub (L' := [(3, .inl (nI (j + 1))), (2, .inr (.inr (some q))), (1, .inr (.inr (some m))), (0, .inr (.inr (some 169)))]) (by intro x hx; simp only [List.mem_cons, List.not_mem_nil, or_false] at hx ⊢; rcases hx with rfl | rfl | rfl | rfl <;> simp [nI_add, show (1 : Int32) = nI 1 from rfl]) ?_
      exact rp_df2 h0 hm0 hw hz hfin m_ (j + 1) _ _ _ _ _ (by omega) s1 u1 k2 (hal.add (by rw [hp.1.1]; exact Nat.one_pos)) (by rw [len_ap]; omega) (by rw [vdl, if_pos (Or.inl ek5)] at hcs; exact hcs)
theorem rp_df3 {d q lv : Nat} {H : mu_H} {F : Nat → Prop} {cs : List Tre} (h9 : mu_is H (some 169) 1) (hq : nd H F lv q (tmk 77 0 [] cs)) (hal : aln cs) (m : Nat) {j : Nat} (hj : j < cs.length) (hfin : (∀ i, i < j → ¬ nam (nth cs i) = nam (nth cs j)) → mu_W (mu_D (d + 4)) mu_m484 (105, [(3, .inl (nI (j + 1))), (2, .inr (.inr (some q))), (1, .inr (.inr (some m))), (0, .inr (.inr (some 169)))], [], H) (fun r => (∃ H1, r = (.inr 2, H1) ∧ ¬ (∀ j, j < cs.length → ∀ i, i < j → ¬ nam (nth cs i) = nam (nth cs j)) ∧ H1 = mu_ex H) ∨ ∃ v H1, r = (.inl v, H1) ∧ (∀ j, j < cs.length → ∀ i, i < j → ¬ nam (nth cs i) = nam (nth cs j)) ∧ v = none ∧ H1 = H)) : ∀ m_ i, i + m_ = j → (∀ k, k < i → ¬ nam (nth cs k) = nam (nth cs j)) → mu_W (mu_D (d + 4)) mu_m484 (116, [(4, .inl (nI i)), (3, .inl (nI j)), (2, .inr (.inr (some q))), (1, .inr (.inr (some m))), (0, .inr (.inr (some 169)))], [], H) (fun r => (∃ H1, r = (.inr 2, H1) ∧ ¬ (∀ j, j < cs.length → ∀ i, i < j → ¬ nam (nth cs i) = nam (nth cs j)) ∧ H1 = mu_ex H) ∨ ∃ v H1, r = (.inl v, H1) ∧ (∀ j, j < cs.length → ∀ i, i < j → ¬ nam (nth cs i) = nam (nth cs j)) ∧ v = none ∧ H1 = H)
  | 0, i, hm_, hacc => by
    obtain ⟨kd1, ⟨is1, nF1, lt1⟩, ⟨st1, sr1, sf1⟩, ⟨n2_1, n3_1, n7_1⟩, nm1, ar1, aq1, aF1, ai1, ⟨al1, am1, ax1⟩, ch1, dp1⟩ := nd.rd (c := (tmk 77 0 [] cs)) hq
    have hl26 : cs.length ≤ 2 ^ 21 := Nat.le_trans al1 ax1
    refine mw_go mu_g484 (k := 2) (f1 := (119, [(4, .inl (nI i)), (3, .inl (nI j)), (2, .inr (.inr (some q))), (1, .inr (.inr (some m))), (0, .inr (.inr (some 169)))], [.inl (nI j), .inl (nI i)], H)) (C := []) rfl trivial ?_
    refine mw_if (P := (nI i) < (nI j)) (a := 122) (b := 166) (fun _ => rfl) trivial (fun h1 => absurd h1 (by rw [show i = j by omega]; exact Int32.lt_irrefl)) (fun h1 => ?_)
    refine mw_go mu_g484 (k := 2) (f1 := (105, [(3, .inl ((nI j) + 1)), (4, .inl (nI i)), (2, .inr (.inr (some q))), (1, .inr (.inr (some m))), (0, .inr (.inr (some 169)))], [], H)) (C := []) rfl trivial ?_
    refine mw_sub (L' := [(3, .inl (nI (j + 1))), (2, .inr (.inr (some q))), (1, .inr (.inr (some m))), (0, .inr (.inr (some 169)))]) (by intro x hx; simp only [List.mem_cons, List.not_mem_nil, or_false] at hx ⊢; rcases hx with rfl | rfl | rfl | rfl <;> simp [nI_add, show (1 : Int32) = nI 1 from rfl]) ?_
    exact hfin (fun i hi => hacc i (by omega))
  | m_ + 1, i, hm_, hacc => by
    obtain ⟨kd1, ⟨is1, nF1, lt1⟩, ⟨st1, sr1, sf1⟩, ⟨n2_1, n3_1, n7_1⟩, nm1, ar1, aq1, aF1, ai1, ⟨al1, am1, ax1⟩, ch1, dp1⟩ := nd.rd (c := (tmk 77 0 [] cs)) hq
    have hl26 : cs.length ≤ 2 ^ 21 := Nat.le_trans al1 ax1
    have hi : i < j := by omega
    have hin : i < cs.length := by omega
    refine mw_go mu_g484 (k := 2) (f1 := (119, [(4, .inl (nI i)), (3, .inl (nI j)), (2, .inr (.inr (some q))), (1, .inr (.inr (some m))), (0, .inr (.inr (some 169)))], [.inl (nI j), .inl (nI i)], H)) (C := []) rfl trivial ?_
    refine mw_if (P := (nI i) < (nI j)) (a := 122) (b := 166) (fun _ => rfl) trivial (fun h1 => ?_) (fun h1 => absurd (nI_lt hi (by omega)) h1)
    obtain ⟨u, yr2, yn2⟩ := ch1 i hin
    have yn2 : nd H F (lv - 1) u (nth cs i) := yn2
    obtain ⟨b1_2, b2_2, b3_2, b4_2⟩ := ar_at ai1 (by decide) (Nat.lt_of_lt_of_le hin al1) (Nat.lt_of_le_of_lt ax1 (by decide))
    have y2_2 : mu_r H ar1 (nI i).toNatClampNeg = some u := by rw [b4_2]; exact yr2
    obtain ⟨kd3, ⟨is3, nF3, lt3⟩, ⟨st3, sr3, sf3⟩, ⟨n2_3, n3_3, n7_3⟩, nm3, ar3, aq3, aF3, ai3, ⟨al3, am3, ax3⟩, ch3, dp3⟩ := nd.rd (c := (nth cs i)) yn2
    obtain ⟨nb4, nr4, nbF4, ni4, nn4, nl4, nk4⟩ := nm3.rd (hal i hin)
    obtain ⟨ns4, nz4, nf4⟩ := nk4 0 (hal i hin)
    obtain ⟨c1_4, c2_4, c3_4, c4_4⟩ := ar_at (i := 0) ni4 (by decide) (by rw [nn4]; exact (hal i hin)) (by rw [nn4]; omega)
    have nx4 : mu_r H nb4 (0 : Int32).toNatClampNeg = some ns4 := nz4
    obtain ⟨v, yr5, yn5⟩ := ch1 j hj
    have yn5 : nd H F (lv - 1) v (nth cs j) := yn5
    obtain ⟨b1_5, b2_5, b3_5, b4_5⟩ := ar_at ai1 (by decide) (Nat.lt_of_lt_of_le hj al1) (Nat.lt_of_le_of_lt ax1 (by decide))
    have y2_5 : mu_r H ar1 (nI j).toNatClampNeg = some v := by rw [b4_5]; exact yr5
    obtain ⟨kd6, ⟨is6, nF6, lt6⟩, ⟨st6, sr6, sf6⟩, ⟨n2_6, n3_6, n7_6⟩, nm6, ar6, aq6, aF6, ai6, ⟨al6, am6, ax6⟩, ch6, dp6⟩ := nd.rd (c := (nth cs j)) yn5
    obtain ⟨nb7, nr7, nbF7, ni7, nn7, nl7, nk7⟩ := nm6.rd (hal j hj)
    obtain ⟨ns7, nz7, nf7⟩ := nk7 0 (hal j hj)
    obtain ⟨c1_7, c2_7, c3_7, c4_7⟩ := ar_at (i := 0) ni7 (by decide) (by rw [nn7]; exact (hal j hj)) (by rw [nn7]; omega)
    have nx7 : mu_r H nb7 (0 : Int32).toNatClampNeg = some ns7 := nz7
    refine mw_go mu_g484 (k := 3) (f1 := (127, [(4, .inl (nI i)), (3, .inl (nI j)), (2, .inr (.inr (some q))), (1, .inr (.inr (some m))), (0, .inr (.inr (some 169)))], [.inr (.inr (mu_r H q 1)), .inr (.inr (some 169))], H)) (C := [mu_is H (some q) 18]) rfl (show mu_is H (some q) 18 from is1) ?_
    refine mw_fr (f' := (127, [(4, .inl (nI i)), (3, .inl (nI j)), (2, .inr (.inr (some q))), (1, .inr (.inr (some m))), (0, .inr (.inr (some 169)))], [.inr (.inr (some ar1)), .inr (.inr (some 169))], H)) (by first | (rw [aq1]; done) | (rw [aq1]; rfl)) ?_
    refine mw_go mu_g484 (k := 2) (f1 := (130, [(4, .inl (nI i)), (3, .inl (nI j)), (2, .inr (.inr (some q))), (1, .inr (.inr (some m))), (0, .inr (.inr (some 169)))], [.inr (.inr (mu_r H ar1 (nI i).toNatClampNeg)), .inr (.inr (some 169))], H)) (C := [mu_is H (some ar1) (mu_k H ar1), 103 ≤ mu_k H ar1 ∧ mu_k H ar1 ≤ 110 ∧ mu_k H ar1 ≠ 108, vp_in (nI i) (mu_n H ar1)]) rfl (show (mu_is H (some ar1) (mu_k H ar1)) ∧ (103 ≤ mu_k H ar1 ∧ mu_k H ar1 ≤ 110 ∧ mu_k H ar1 ≠ 108) ∧ (vp_in (nI i) (mu_n H ar1)) from ⟨b1_5, b2_5, b3_2⟩) ?_
    refine mw_fr (f' := (130, [(4, .inl (nI i)), (3, .inl (nI j)), (2, .inr (.inr (some q))), (1, .inr (.inr (some m))), (0, .inr (.inr (some 169)))], [.inr (.inr (some u)), .inr (.inr (some 169))], H)) (by first | (rw [y2_2]; done) | (rw [y2_2]; rfl)) ?_
    refine mw_go mu_g484 (k := 1) (f1 := (133, [(4, .inl (nI i)), (3, .inl (nI j)), (2, .inr (.inr (some q))), (1, .inr (.inr (some m))), (0, .inr (.inr (some 169)))], [.inr (.inr (mu_r H u 4)), .inr (.inr (some 169))], H)) (C := [mu_is H (some u) 18]) rfl (show mu_is H (some u) 18 from is3) ?_
    refine mw_fr (f' := (133, [(4, .inl (nI i)), (3, .inl (nI j)), (2, .inr (.inr (some q))), (1, .inr (.inr (some m))), (0, .inr (.inr (some 169)))], [.inr (.inr (some nb4)), .inr (.inr (some 169))], H)) (by first | (rw [nr4]; done) | (rw [nr4]; rfl)) ?_
    refine mw_go mu_g484 (k := 2) (f1 := (135, [(4, .inl (nI i)), (3, .inl (nI j)), (2, .inr (.inr (some q))), (1, .inr (.inr (some m))), (0, .inr (.inr (some 169)))], [.inr (.inr (mu_r H nb4 (0 : Int32).toNatClampNeg)), .inr (.inr (some 169))], H)) (C := [mu_is H (some nb4) (mu_k H nb4), 103 ≤ mu_k H nb4 ∧ mu_k H nb4 ≤ 110 ∧ mu_k H nb4 ≠ 108, vp_in (0 : Int32) (mu_n H nb4)]) rfl (show (mu_is H (some nb4) (mu_k H nb4)) ∧ (103 ≤ mu_k H nb4 ∧ mu_k H nb4 ≤ 110 ∧ mu_k H nb4 ≠ 108) ∧ (vp_in (0 : Int32) (mu_n H nb4)) from ⟨c1_4, c2_4, c3_4⟩) ?_
    refine mw_fr (f' := (135, [(4, .inl (nI i)), (3, .inl (nI j)), (2, .inr (.inr (some q))), (1, .inr (.inr (some m))), (0, .inr (.inr (some 169)))], [.inr (.inr (some ns4)), .inr (.inr (some 169))], H)) (by first | (rw [nx4]; done) | (rw [nx4]; rfl)) ?_
    refine mw_go mu_g484 (k := 2) (f1 := (139, [(4, .inl (nI i)), (3, .inl (nI j)), (2, .inr (.inr (some q))), (1, .inr (.inr (some m))), (0, .inr (.inr (some 169)))], [.inr (.inr (mu_r H q 1)), .inr (.inr (some ns4)), .inr (.inr (some 169))], H)) (C := [mu_is H (some q) 18]) rfl (show mu_is H (some q) 18 from is1) ?_
    refine mw_fr (f' := (139, [(4, .inl (nI i)), (3, .inl (nI j)), (2, .inr (.inr (some q))), (1, .inr (.inr (some m))), (0, .inr (.inr (some 169)))], [.inr (.inr (some ar1)), .inr (.inr (some ns4)), .inr (.inr (some 169))], H)) (by first | (rw [aq1]; done) | (rw [aq1]; rfl)) ?_
    refine mw_go mu_g484 (k := 2) (f1 := (141, [(4, .inl (nI i)), (3, .inl (nI j)), (2, .inr (.inr (some q))), (1, .inr (.inr (some m))), (0, .inr (.inr (some 169)))], [.inr (.inr (mu_r H ar1 (nI j).toNatClampNeg)), .inr (.inr (some ns4)), .inr (.inr (some 169))], H)) (C := [mu_is H (some ar1) (mu_k H ar1), 103 ≤ mu_k H ar1 ∧ mu_k H ar1 ≤ 110 ∧ mu_k H ar1 ≠ 108, vp_in (nI j) (mu_n H ar1)]) rfl (show (mu_is H (some ar1) (mu_k H ar1)) ∧ (103 ≤ mu_k H ar1 ∧ mu_k H ar1 ≤ 110 ∧ mu_k H ar1 ≠ 108) ∧ (vp_in (nI j) (mu_n H ar1)) from ⟨b1_5, b2_5, b3_5⟩) ?_
    refine mw_fr (f' := (141, [(4, .inl (nI i)), (3, .inl (nI j)), (2, .inr (.inr (some q))), (1, .inr (.inr (some m))), (0, .inr (.inr (some 169)))], [.inr (.inr (some v)), .inr (.inr (some ns4)), .inr (.inr (some 169))], H)) (by first | (rw [y2_5]; done) | (rw [y2_5]; rfl)) ?_
    refine mw_go mu_g484 (k := 1) (f1 := (144, [(4, .inl (nI i)), (3, .inl (nI j)), (2, .inr (.inr (some q))), (1, .inr (.inr (some m))), (0, .inr (.inr (some 169)))], [.inr (.inr (mu_r H v 4)), .inr (.inr (some ns4)), .inr (.inr (some 169))], H)) (C := [mu_is H (some v) 18]) rfl (show mu_is H (some v) 18 from is6) ?_
    refine mw_fr (f' := (144, [(4, .inl (nI i)), (3, .inl (nI j)), (2, .inr (.inr (some q))), (1, .inr (.inr (some m))), (0, .inr (.inr (some 169)))], [.inr (.inr (some nb7)), .inr (.inr (some ns4)), .inr (.inr (some 169))], H)) (by first | (rw [nr7]; done) | (rw [nr7]; rfl)) ?_
    refine mw_go mu_g484 (k := 2) (f1 := (146, [(4, .inl (nI i)), (3, .inl (nI j)), (2, .inr (.inr (some q))), (1, .inr (.inr (some m))), (0, .inr (.inr (some 169)))], [.inr (.inr (mu_r H nb7 (0 : Int32).toNatClampNeg)), .inr (.inr (some ns4)), .inr (.inr (some 169))], H)) (C := [mu_is H (some nb7) (mu_k H nb7), 103 ≤ mu_k H nb7 ∧ mu_k H nb7 ≤ 110 ∧ mu_k H nb7 ≠ 108, vp_in (0 : Int32) (mu_n H nb7)]) rfl (show (mu_is H (some nb7) (mu_k H nb7)) ∧ (103 ≤ mu_k H nb7 ∧ mu_k H nb7 ≤ 110 ∧ mu_k H nb7 ≠ 108) ∧ (vp_in (0 : Int32) (mu_n H nb7)) from ⟨c1_7, c2_7, c3_7⟩) ?_
    refine mw_fr (f' := (146, [(4, .inl (nI i)), (3, .inl (nI j)), (2, .inr (.inr (some q))), (1, .inr (.inr (some m))), (0, .inr (.inr (some 169)))], [.inr (.inr (some ns7)), .inr (.inr (some ns4)), .inr (.inr (some 169))], H)) (by first | (rw [nx7]; done) | (rw [nx7]; rfl)) ?_
    refine mw_cS rfl (by decide) nf4.1.1 (sb_equals (d := _) nf4.1 nf7.1 (Nat.lt_trans nf4.2.2 (by decide)) (Nat.lt_trans nf7.2.2 (by decide))) (fun x9 H9 q9 => ?_)
    rw [q9.1, q9.2]
    clear q9 H9 x9
    show mu_W _ mu_m484 (149, [(4, .inl (nI i)), (3, .inl (nI j)), (2, .inr (.inr (some q))), (1, .inr (.inr (some m))), (0, .inr (.inr (some 169)))], [.inl (if (nam (nth cs i)) = (nam (nth cs j)) then 1 else 0), .inr (.inr (some 169))], H) _
    refine mw_if (P := (if (nam (nth cs i)) = (nam (nth cs j)) then 1 else 0) = 0) (a := 152) (b := 156) (fun _ => rfl) trivial (fun hi8 => ?_) (fun hi8 => ?_)
    · -- 152
      have ek8 : ¬ (nam (nth cs i)) = (nam (nth cs j)) := fun e => by rw [if_pos e] at hi8; exact absurd hi8 (by decide)
      refine mw_go mu_g484 (k := 2) (f1 := (157, [(4, .inl (nI i)), (3, .inl (nI j)), (2, .inr (.inr (some q))), (1, .inr (.inr (some m))), (0, .inr (.inr (some 169)))], [.inl (1 : Int32), .inr (.inr (some 169))], H)) (C := []) rfl trivial ?_
      refine mw_cE (as := [.inl (1 : Int32)]) (o := some 169) (S1 := []) rfl rfl rfl rfl (Nat.le_of_ble_eq_true rfl) (by decide) h9 rfl (by decide) (rp_sound (x := 1)) (fun H9 e9 => absurd e9.1 (by decide)) (fun v9 H9 e9 => ?_)
      obtain ⟨_, rfl, e9⟩ := e9
      rw [e9]
      clear e9 H9
      show mu_W _ mu_m484 (160, [(4, .inl (nI i)), (3, .inl (nI j)), (2, .inr (.inr (some q))), (1, .inr (.inr (some m))), (0, .inr (.inr (some 169)))], [], H) _
      refine mw_go mu_g484 (k := 2) (f1 := (116, [(4, .inl ((nI i) + 1)), (3, .inl (nI j)), (2, .inr (.inr (some q))), (1, .inr (.inr (some m))), (0, .inr (.inr (some 169)))], [], H)) (C := []) rfl trivial ?_
      refine mw_sub (L' := [(4, .inl (nI (i + 1))), (3, .inl (nI j)), (2, .inr (.inr (some q))), (1, .inr (.inr (some m))), (0, .inr (.inr (some 169)))]) (by intro x hx; simp only [List.mem_cons, List.not_mem_nil, or_false] at hx ⊢; rcases hx with rfl | rfl | rfl | rfl | rfl <;> simp [nI_add, show (1 : Int32) = nI 1 from rfl]) ?_
      exact rp_df3 h9 hq hal m hj hfin m_ (i + 1) (by omega) (fun k hk => by
        by_cases e : k = i
        · rw [e]; exact ek8
        · exact hacc k (by omega))
    · -- 156
      have ek8 : (nam (nth cs i)) = (nam (nth cs j)) := Decidable.byContradiction (fun e => hi8 (if_neg e))
      refine mw_go mu_g484 (k := 1) (f1 := (157, [(4, .inl (nI i)), (3, .inl (nI j)), (2, .inr (.inr (some q))), (1, .inr (.inr (some m))), (0, .inr (.inr (some 169)))], [.inl (0 : Int32), .inr (.inr (some 169))], H)) (C := []) rfl trivial ?_
      exact mw_cE (as := [.inl (0 : Int32)]) (o := some 169) (S1 := []) rfl rfl rfl rfl (Nat.le_of_ble_eq_true rfl) (by decide) h9 rfl (by decide) (rp_sound (x := 0)) (fun H9 e9 => by rw [e9.2]; exact Or.inl ⟨_, rfl, (fun z => z j hj i hi ek8), rfl⟩) (fun v9 H9 e9 => absurd rfl e9.1)
theorem rp_df4 {d q lv : Nat} {H : mu_H} {F : Nat → Prop} {cs : List Tre} (h9 : mu_is H (some 169) 1) (hq : nd H F lv q (tmk 77 0 [] cs)) (hal : aln cs) (m : Nat) : ∀ m_ j, j + m_ = cs.length → (∀ k, k < j → ∀ i, i < k → ¬ nam (nth cs i) = nam (nth cs k)) → mu_W (mu_D (d + 4)) mu_m484 (105, [(3, .inl (nI j)), (2, .inr (.inr (some q))), (1, .inr (.inr (some m))), (0, .inr (.inr (some 169)))], [], H) (fun r => (∃ H1, r = (.inr 2, H1) ∧ ¬ (∀ j, j < cs.length → ∀ i, i < j → ¬ nam (nth cs i) = nam (nth cs j)) ∧ H1 = mu_ex H) ∨ ∃ v H1, r = (.inl v, H1) ∧ (∀ j, j < cs.length → ∀ i, i < j → ¬ nam (nth cs i) = nam (nth cs j)) ∧ v = none ∧ H1 = H)
  | 0, j, hm_, hacc => by
    obtain ⟨kd1, ⟨is1, nF1, lt1⟩, ⟨st1, sr1, sf1⟩, ⟨n2_1, n3_1, n7_1⟩, nm1, ar1, aq1, aF1, ai1, ⟨al1, am1, ax1⟩, ch1, dp1⟩ := nd.rd (c := (tmk 77 0 [] cs)) hq
    have hl26 : cs.length ≤ 2 ^ 21 := Nat.le_trans al1 ax1
    refine mw_go mu_g484 (k := 3) (f1 := (110, [(3, .inl (nI j)), (2, .inr (.inr (some q))), (1, .inr (.inr (some m))), (0, .inr (.inr (some 169)))], [.inl (mu_i H q 2), .inl (nI j)], H)) (C := [mu_is H (some q) 18]) rfl (show mu_is H (some q) 18 from is1) ?_
    refine mw_fr (f' := (110, [(3, .inl (nI j)), (2, .inr (.inr (some q))), (1, .inr (.inr (some m))), (0, .inr (.inr (some 169)))], [.inl (nI cs.length), .inl (nI j)], H)) (by first | (rw [n2_1]; done) | (rw [n2_1]; rfl)) ?_
    refine mw_if (P := (nI j) < (nI cs.length)) (a := 113) (b := 172) (fun _ => rfl) trivial (fun h1 => absurd h1 (by rw [show j = cs.length by omega]; exact Int32.lt_irrefl)) (fun h1 => ?_)
    exact mw_of (fun _ => mu_ret rfl trivial (Or.inr ⟨_, _, rfl, fun k hk => hacc k (by omega), rfl, rfl⟩))
  | m_ + 1, j, hm_, hacc => by
    obtain ⟨kd1, ⟨is1, nF1, lt1⟩, ⟨st1, sr1, sf1⟩, ⟨n2_1, n3_1, n7_1⟩, nm1, ar1, aq1, aF1, ai1, ⟨al1, am1, ax1⟩, ch1, dp1⟩ := nd.rd (c := (tmk 77 0 [] cs)) hq
    have hl26 : cs.length ≤ 2 ^ 21 := Nat.le_trans al1 ax1
    have hj : j < cs.length := by omega
    refine mw_go mu_g484 (k := 3) (f1 := (110, [(3, .inl (nI j)), (2, .inr (.inr (some q))), (1, .inr (.inr (some m))), (0, .inr (.inr (some 169)))], [.inl (mu_i H q 2), .inl (nI j)], H)) (C := [mu_is H (some q) 18]) rfl (show mu_is H (some q) 18 from is1) ?_
    refine mw_fr (f' := (110, [(3, .inl (nI j)), (2, .inr (.inr (some q))), (1, .inr (.inr (some m))), (0, .inr (.inr (some 169)))], [.inl (nI cs.length), .inl (nI j)], H)) (by first | (rw [n2_1]; done) | (rw [n2_1]; rfl)) ?_
    refine mw_if (P := (nI j) < (nI cs.length)) (a := 113) (b := 172) (fun _ => rfl) trivial (fun h1 => ?_) (fun h1 => absurd (nI_lt hj (by omega)) h1)
    refine mw_go mu_g484 (k := 2) (f1 := (116, [(4, .inl (0 : Int32)), (3, .inl (nI j)), (2, .inr (.inr (some q))), (1, .inr (.inr (some m))), (0, .inr (.inr (some 169)))], [], H)) (C := []) rfl trivial ?_
    refine mw_sub (L' := [(4, .inl (nI 0)), (3, .inl (nI j)), (2, .inr (.inr (some q))), (1, .inr (.inr (some m))), (0, .inr (.inr (some 169)))]) (by intro x hx; simp only [List.mem_cons, List.not_mem_nil, or_false] at hx ⊢; rcases hx with rfl | rfl | rfl | rfl | rfl <;> simp [nI]) ?_
    exact rp_df3 h9 hq hal m hj (fun hall => rp_df4 h9 hq hal m m_ (j + 1) (by omega) (fun k hk => by
      by_cases e : k = j
      · rw [e]; exact hall
      · exact hacc k (by omega))) j 0 (by omega) (fun i hi => absurd hi (Nat.not_lt_zero _))
theorem rp_different {T : Nat → Int32} {n dep d lv m : Nat} {t : Tok} {H0 : mu_H} {F : Nat → Prop} {y : Mdl} (h0 : pst T n t dep F H0) (hm0 : mdf H0 F lv m y) (hw : mdw y) (hz : mu_z H0 + 4 * (y.2.1.length + y.2.2.length) + 30 ≤ 1000000) : mu_TE 2 (mu_D (d + 5)) 484 [.inr (.inr (some 169)), .inr (.inr (some m))] H0 (fun H1 => ¬ dfz y ∧ knw (2 * (y.2.1.length + y.2.2.length) + 10) H0 H1) (fun v H1 => dfz y ∧ v = none ∧ knw (2 * (y.2.1.length + y.2.2.length) + 10) H0 H1) := by
  have g200 := h0.1.1
  have hF0 : ∀ p, (mu_z H0 ≤ p ∧ p < 1000000) → ¬ F p ∧ p < 1000000 := fun p z => ⟨fun y => by have := (h0.fz _ y).2.1.1; omega, z.2⟩
  refine mu_meth (M := mu_m484) rfl rfl ?_
  refine mw_ht (mu_fn_of (show [0, 1].Nodup by decide)) ?_
  refine mw_newo rfl (by decide) (by omega) ?_
  show mu_W _ mu_m484 (3, [(0, .inr (.inr (some 169))), (1, .inr (.inr (some m)))], [.inr (.inr (some (mu_z H0)))], (mu_nw H0 18 0 8)) _
  refine mw_go mu_g484 (k := 2) (f1 := (7, [(0, .inr (.inr (some 169))), (1, .inr (.inr (some m)))], [.inr (.inr (some 1000077)), .inr (.inr (some (mu_z H0))), .inr (.inr (some (mu_z H0)))], (mu_nw H0 18 0 8))) (C := []) rfl trivial ?_
  refine mw_cV (fun _ => rfl) ⟨rfl, Nat.lt_succ_self _⟩ (nd_newL (j := 77) (H0 := H0) (f := lv) h0 (by omega) (Nat.le_refl _) (by decide)) (fun H1 q1 => ?_)
  obtain ⟨v1, s1, k1⟩ := q1
  have u1 := v1.nun
  show mu_W _ mu_m484 (10, [(0, .inr (.inr (some 169))), (1, .inr (.inr (some m)))], [.inr (.inr (some (mu_z H0)))], H1) _
  refine mw_go mu_g484 (k := 3) (f1 := (13, [(3, .inl (0 : Int32)), (2, .inr (.inr (some (mu_z H0)))), (0, .inr (.inr (some 169))), (1, .inr (.inr (some m)))], [], H1)) (C := []) rfl trivial ?_
  refine mw_sub (L' := [(3, .inl (nI 0)), (2, .inr (.inr (some (mu_z H0)))), (1, .inr (.inr (some m))), (0, .inr (.inr (some 169)))]) (by simp [nI]) ?_
  refine rp_df1 (q := mu_z H0) h0 hm0 hw hz (as := []) (fun H2 a2 c2 qs2 s2 u2 k2 al2 => ?_) y.2.1.length 0 H1 _ 2 [] [] (Nat.zero_add _) s1 u1 (k1.wk (fun _ _ z => z) (by omega) (by omega)) (fun i hi => absurd hi (Nat.not_lt_zero _)) (Nat.le_refl _) rfl
  show mu_W _ mu_m484 (44, [(2, .inr (.inr (some (mu_z H0)))), (1, .inr (.inr (some m))), (0, .inr (.inr (some 169)))], [], H2) _
  refine mw_go mu_g484 (k := 2) (f1 := (46, [(3, .inl (0 : Int32)), (2, .inr (.inr (some (mu_z H0)))), (1, .inr (.inr (some m))), (0, .inr (.inr (some 169)))], [], H2)) (C := []) rfl trivial ?_
  refine mw_sub (L' := [(3, .inl (nI 0)), (2, .inr (.inr (some (mu_z H0)))), (1, .inr (.inr (some m))), (0, .inr (.inr (some 169)))]) (by simp [nI]) ?_
  have cl := cpl_len (ps := y.2.1) y.2.1.length 0 []
  refine rp_df2 (q := mu_z H0) h0 hm0 hw hz (as := cpl y.2.1 y.2.1.length 0 []) (fun H3 a3 c3 qs3 s3 u3 k3 al3 => ?_) y.2.2.length 0 H2 _ _ _ _ (Nat.zero_add _) s2 u2 k2 al2 (by rw [cl]; show 0 + _ ≤ _; omega) rfl
  show mu_W _ mu_m484 (103, [(2, .inr (.inr (some (mu_z H0)))), (1, .inr (.inr (some m))), (0, .inr (.inr (some 169)))], [], H3) _
  refine mw_go mu_g484 (k := 2) (f1 := (105, [(3, .inl (0 : Int32)), (2, .inr (.inr (some (mu_z H0)))), (1, .inr (.inr (some m))), (0, .inr (.inr (some 169)))], [], H3)) (C := []) rfl trivial ?_
  have vl := vdl_len (cs := y.2.2) y.2.2.length 0 (cpl y.2.1 y.2.1.length 0 [])
  have cp3 := u3.cap
  have cl0 : (cpl y.2.1 y.2.1.length 0 []).length = 0 + y.2.1.length := cl
  obtain ⟨_, n3, _⟩ := u3.doneX (F0 := F) (A := c3) s3 g200 (⟨⟨k3.wk (W' := fun p => p = 169 ∨ mu_r H0 169 13 = some p) (fun p hp z => by omega) (Nat.le_refl _) (Nat.le_refl _), fun k _ => k3.i (Or.inl (by omega)) (fun z => by have := z.1; omega) k, fun k _ => k3.r (Or.inl (by omega)) (fun z => by have := z.1; omega) k, k3.k (Or.inl (by omega)) (fun z => by have := z.1; omega)⟩, Or.inl (k3.r (Or.inl (by omega)) (fun z => by have := z.1; omega) 13), fun _ z => z, fun _ z => Or.inl z⟩ : pfr c3 F F H0 H3) (Nat.le_refl _)
  have kn3 : knw c3 H0 H3 := k3.wk (fun p hp z => by omega) (Nat.le_refl _) (Nat.le_refl _)
  refine mw_sub (L' := [(3, .inl (nI 0)), (2, .inr (.inr (some (mu_z H0)))), (1, .inr (.inr (some m))), (0, .inr (.inr (some 169)))]) (by simp [nI]) ?_
  refine mw_imp (fun r hr => ?_) (rp_df4 (d := d) s3.is n3 al3 m (nmy y).length 0 (Nat.zero_add _) (fun k hk => absurd hk (Nat.not_lt_zero _)))
  rcases hr with ⟨H4, e1, e2, e3⟩ | ⟨v, H4, e1, e2, e3, e4⟩
  · exact Or.inl ⟨H4, e1, e2, by rw [e3]; exact (kn3.tr knw.ex).wk (by omega)⟩
  · exact Or.inr ⟨v, H4, e1, e2, e3, by rw [e4]; exact kn3.wk (by omega)⟩
