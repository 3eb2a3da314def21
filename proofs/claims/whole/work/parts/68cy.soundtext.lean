/-! The reference: soundText -/
/-- PathProverModel.soundText(LPathProverModel$Module;)V -/
abbrev mu_m482 : ev_M := (8, none, [], ev_b482)
theorem mu_g482 : mu_good mu_m482 := mu_goodk ev_k482
theorem nd.isS {H : mu_H} {F : Nat → Prop} {d q s k e : Nat} {c : Tre} (h : nd H F d q c) (hs : stf H F s (txt k)) (hk : k < 79) : mu_TI (mu_D (e + 3)) 518 [.inr (.inr (some q)), .inr (.inr (some s))] H (fun x H1 => x = (if tkd c = k then 1 else 0) ∧ H1 = H) := by
  obtain ⟨h1, h2, ⟨s', h3, h4⟩, _⟩ := h.rd
  refine (nd_is (d := e) h2.1 h3 h4.1 (Nat.lt_trans h4.2.2 (by decide)) hs.1 (Nat.lt_trans hs.2.2 (by decide))).imp (fun x H1 q => ⟨q.1.trans ?_, q.2⟩)
  by_cases e2 : tkd c = k
  · rw [if_pos e2, if_pos (by rw [e2])]
  · rw [if_neg e2, if_neg (fun z => e2 (txt_inj _ h1 _ hk z))]
/-- two assignments that may stand side by side (q before p) -/
def asx (p q : Tre) : Prop := ¬ (tkd q ∈ [32, 33, 75] ∧ nam q = nam p) ∨ (¬ tkd q = tkd p ∧ ¬ tkd q = 75 ∧ ¬ tkd p = 75)
/-- what an assignment needs -/
def asy (cs : List Tre) (k : Nat) : Prop := (∃ v, fnd cs 73 (nam (nth cs k)) = some v ∧ ¬ tkd (tkk (nth cs v) 0) = 72) ∧ ∀ j, j < k → asx (nth cs k) (nth cs j)
/-- a part that is sound -/
def ptz (ms : List Mdl) (cs : List Tre) (k : Nat) : Prop := (tkd (nth cs k) = 73 → sty ms (tkk (nth cs k) 0)) ∧ (tkd (nth cs k) ∈ [32, 33, 75] → asy cs k)
/-- a MODULE that is sound -/
def mdz (ms : List Mdl) (y : Mdl) : Prop := dfz y ∧ ∀ k, k < y.2.2.length → ptz ms y.2.2 k
theorem rp_sx1 {d lv r m : Nat} {H : mu_H} {F : Nat → Prop} {ms : List Mdl} {y : Mdl} (ht : rtx H F lv r ms) (hm : mdf H F lv m y) (hw : mdw y) {k p : Nat} (hk : k < y.2.2.length) (hp : nd H F (lv - 1) p (nth y.2.2 k)) (hbad : ∀ j, j < k → ¬ asx (nth y.2.2 k) (nth y.2.2 j) → ¬ (∀ k, k < y.2.2.length → ptz ms y.2.2 k)) (hfin : (∀ i, i < k → asx (nth y.2.2 k) (nth y.2.2 i)) → mu_W (mu_D (d + 5)) mu_m482 (221, [(3, .inr (.inr (some p))), (2, .inl (nI k)), (1, .inr (.inr (some m))), (0, .inr (.inr (some 169)))], [], H) (fun r => (∃ H1, r = (.inr 2, H1) ∧ ¬ (∀ k, k < y.2.2.length → ptz ms y.2.2 k) ∧ H1 = mu_ex H) ∨ ∃ v H1, r = (.inl v, H1) ∧ (∀ k, k < y.2.2.length → ptz ms y.2.2 k) ∧ v = none ∧ H1 = H)) : ∀ m_ j, j + m_ = k → (∀ i, i < j → asx (nth y.2.2 k) (nth y.2.2 i)) → mu_W (mu_D (d + 5)) mu_m482 (115, [(5, .inl (nI j)), (3, .inr (.inr (some p))), (2, .inl (nI k)), (1, .inr (.inr (some m))), (0, .inr (.inr (some 169)))], [], H) (fun r => (∃ H1, r = (.inr 2, H1) ∧ ¬ (∀ k, k < y.2.2.length → ptz ms y.2.2 k) ∧ H1 = mu_ex H) ∨ ∃ v H1, r = (.inl v, H1) ∧ (∀ k, k < y.2.2.length → ptz ms y.2.2 k) ∧ v = none ∧ H1 = H)
  | 0, j, hm_, hacc => by
    have ht0 := ht
    have hm0 := hm
    obtain ⟨tx14, tx_is, tx_n, tx15, tx_m, tx9⟩ := ht
    obtain ⟨mi1, ⟨mw1, mr0_1, ms1⟩, ⟨mp1, mr1_1, mpn1⟩, mq1, mr2_1, mqn1⟩ := mdf.rd (y := y) hm
    obtain ⟨kd2, ⟨is2, nF2, lt2⟩, ⟨st2, sr2, sf2⟩, ⟨n2_2, n3_2, n7_2⟩, nm2, ar2, aq2, aF2, ai2, ⟨al2, am2, ax2⟩, ch2, dp2⟩ := nd.rd (c := (tmk 67 0 [] y.2.2)) mqn1
    have hl26 : y.2.2.length ≤ 2 ^ 21 := Nat.le_trans al2 ax2
    refine mw_go mu_g482 (k := 2) (f1 := (118, [(5, .inl (nI j)), (3, .inr (.inr (some p))), (2, .inl (nI k)), (1, .inr (.inr (some m))), (0, .inr (.inr (some 169)))], [.inl (nI k), .inl (nI j)], H)) (C := []) rfl trivial ?_
    refine mw_if (P := (nI j) < (nI k)) (a := 121) (b := 221) (fun _ => rfl) trivial (fun h1 => absurd h1 (by rw [show j = k by omega]; exact Int32.lt_irrefl)) (fun h1 => ?_)
    refine mw_sub (L' := [(3, .inr (.inr (some p))), (2, .inl (nI k)), (1, .inr (.inr (some m))), (0, .inr (.inr (some 169)))]) (by simp) ?_
    exact hfin (fun i hi => hacc i (by omega))
  | m_ + 1, j, hm_, hacc => by
    have ht0 := ht
    have hm0 := hm
    obtain ⟨tx14, tx_is, tx_n, tx15, tx_m, tx9⟩ := ht
    obtain ⟨mi1, ⟨mw1, mr0_1, ms1⟩, ⟨mp1, mr1_1, mpn1⟩, mq1, mr2_1, mqn1⟩ := mdf.rd (y := y) hm
    obtain ⟨kd2, ⟨is2, nF2, lt2⟩, ⟨st2, sr2, sf2⟩, ⟨n2_2, n3_2, n7_2⟩, nm2, ar2, aq2, aF2, ai2, ⟨al2, am2, ax2⟩, ch2, dp2⟩ := nd.rd (c := (tmk 67 0 [] y.2.2)) mqn1
    have hl26 : y.2.2.length ≤ 2 ^ 21 := Nat.le_trans al2 ax2
    have hj : j < k := by omega
    have hjn : j < y.2.2.length := by omega
    have hn1 : 0 < (tns (nth y.2.2 k)).length := by rw [(hw.2 k hk).1.1]; exact Nat.one_pos
    have hn2 : 0 < (tns (nth y.2.2 j)).length := by rw [(hw.2 j hjn).1.1]; exact Nat.one_pos
    refine mw_go mu_g482 (k := 2) (f1 := (118, [(5, .inl (nI j)), (3, .inr (.inr (some p))), (2, .inl (nI k)), (1, .inr (.inr (some m))), (0, .inr (.inr (some 169)))], [.inl (nI k), .inl (nI j)], H)) (C := []) rfl trivial ?_
    refine mw_if (P := (nI j) < (nI k)) (a := 121) (b := 221) (fun _ => rfl) trivial (fun h1 => ?_) (fun h1 => absurd (nI_lt hj (by omega)) h1)
    obtain ⟨kd3, ⟨is3, nF3, lt3⟩, ⟨st3, sr3, sf3⟩, ⟨n2_3, n3_3, n7_3⟩, nm3, ar3, aq3, aF3, ai3, ⟨al3, am3, ax3⟩, ch3, dp3⟩ := nd.rd (c := (nth y.2.2 k)) hp
    obtain ⟨q, yr4, yn4⟩ := ch2 j hjn
    have yn4 : nd H F (lv - 1) q (nth y.2.2 j) := yn4
    obtain ⟨b1_4, b2_4, b3_4, b4_4⟩ := ar_at ai2 (by decide) (Nat.lt_of_lt_of_le hjn al2) (Nat.lt_of_le_of_lt ax2 (by decide))
    have y2_4 : mu_r H ar2 (nI j).toNatClampNeg = some q := by rw [b4_4]; exact yr4
    obtain ⟨kd5, ⟨is5, nF5, lt5⟩, ⟨st5, sr5, sf5⟩, ⟨n2_5, n3_5, n7_5⟩, nm5, ar5, aq5, aF5, ai5, ⟨al5, am5, ax5⟩, ch5, dp5⟩ := nd.rd (c := (nth y.2.2 j)) yn4
    obtain ⟨nb6, nr6, nbF6, ni6, nn6, nl6, nk6⟩ := nm3.rd hn1
    obtain ⟨ns6, nz6, nf6⟩ := nk6 0 hn1
    obtain ⟨c1_6, c2_6, c3_6, c4_6⟩ := ar_at (i := 0) ni6 (by decide) (by rw [nn6]; exact hn1) (by rw [nn6]; omega)
    have nx6 : mu_r H nb6 (0 : Int32).toNatClampNeg = some ns6 := nz6
    obtain ⟨nb7, nr7, nbF7, ni7, nn7, nl7, nk7⟩ := nm5.rd hn2
    obtain ⟨ns7, nz7, nf7⟩ := nk7 0 hn2
    obtain ⟨c1_7, c2_7, c3_7, c4_7⟩ := ar_at (i := 0) ni7 (by decide) (by rw [nn7]; exact hn2) (by rw [nn7]; omega)
    have nx7 : mu_r H nb7 (0 : Int32).toNatClampNeg = some ns7 := nz7
    refine mw_go mu_g482 (k := 2) (f1 := (125, [(5, .inl (nI j)), (3, .inr (.inr (some p))), (2, .inl (nI k)), (1, .inr (.inr (some m))), (0, .inr (.inr (some 169)))], [.inr (.inr (mu_r H m 2))], H)) (C := [mu_is H (some m) 17]) rfl (show mu_is H (some m) 17 from mi1) ?_
    refine mw_fr (f' := (125, [(5, .inl (nI j)), (3, .inr (.inr (some p))), (2, .inl (nI k)), (1, .inr (.inr (some m))), (0, .inr (.inr (some 169)))], [.inr (.inr (some mq1))], H)) (by first | (rw [mr2_1]; done) | (rw [mr2_1]; rfl)) ?_
    refine mw_go mu_g482 (k := 1) (f1 := (128, [(5, .inl (nI j)), (3, .inr (.inr (some p))), (2, .inl (nI k)), (1, .inr (.inr (some m))), (0, .inr (.inr (some 169)))], [.inr (.inr (mu_r H mq1 1))], H)) (C := [mu_is H (some mq1) 18]) rfl (show mu_is H (some mq1) 18 from is2) ?_
    refine mw_fr (f' := (128, [(5, .inl (nI j)), (3, .inr (.inr (some p))), (2, .inl (nI k)), (1, .inr (.inr (some m))), (0, .inr (.inr (some 169)))], [.inr (.inr (some ar2))], H)) (by first | (rw [aq2]; done) | (rw [aq2]; rfl)) ?_
    refine mw_go mu_g482 (k := 2) (f1 := (131, [(5, .inl (nI j)), (3, .inr (.inr (some p))), (2, .inl (nI k)), (1, .inr (.inr (some m))), (0, .inr (.inr (some 169)))], [.inr (.inr (mu_r H ar2 (nI j).toNatClampNeg))], H)) (C := [mu_is H (some ar2) (mu_k H ar2), 103 ≤ mu_k H ar2 ∧ mu_k H ar2 ≤ 110 ∧ mu_k H ar2 ≠ 108, vp_in (nI j) (mu_n H ar2)]) rfl (show (mu_is H (some ar2) (mu_k H ar2)) ∧ (103 ≤ mu_k H ar2 ∧ mu_k H ar2 ≤ 110 ∧ mu_k H ar2 ≠ 108) ∧ (vp_in (nI j) (mu_n H ar2)) from ⟨b1_4, b2_4, b3_4⟩) ?_
    refine mw_fr (f' := (131, [(5, .inl (nI j)), (3, .inr (.inr (some p))), (2, .inl (nI k)), (1, .inr (.inr (some m))), (0, .inr (.inr (some 169)))], [.inr (.inr (some q))], H)) (by first | (rw [y2_4]; done) | (rw [y2_4]; rfl)) ?_
    refine mw_go mu_g482 (k := 3) (f1 := (136, [(6, .inr (.inr (some q))), (5, .inl (nI j)), (3, .inr (.inr (some p))), (2, .inl (nI k)), (1, .inr (.inr (some m))), (0, .inr (.inr (some 169)))], [.inr (.inr (some q)), .inr (.inr (some 169))], H)) (C := []) rfl trivial ?_
    refine mw_cIe (fun _ => rfl) (show mu_is H (some 169) 1 from tx9) (rp_assigns (d := d + 1) yn4) ?_
    refine mw_if (P := (if tkd (nth y.2.2 j) ∈ [32, 33, 75] then 1 else 0) = 0) (a := 165) (b := 142) (fun _ => rfl) trivial (fun h3 => ?_) (fun h3 => ?_)
    · -- 165
      have ea : ¬ tkd (nth y.2.2 j) ∈ [32, 33, 75] := fun e => by rw [if_pos e] at h3; exact absurd h3 (by decide)
      refine mw_go mu_g482 (k := 4) (f1 := (171, [(7, .inl (0 : Int32)), (6, .inr (.inr (some q))), (5, .inl (nI j)), (3, .inr (.inr (some p))), (2, .inl (nI k)), (1, .inr (.inr (some m))), (0, .inr (.inr (some 169)))], [.inl (0 : Int32), .inr (.inr (some 169))], H)) (C := []) rfl trivial ?_
      refine mw_if (P := (0 : Int32) = 0) (a := 207) (b := 174) (fun _ => rfl) trivial (fun h4 => ?_) (fun h4 => absurd rfl h4)
      refine mw_go mu_g482 (k := 2) (f1 := (212, [(7, .inl (0 : Int32)), (6, .inr (.inr (some q))), (5, .inl (nI j)), (3, .inr (.inr (some p))), (2, .inl (nI k)), (1, .inr (.inr (some m))), (0, .inr (.inr (some 169)))], [.inl (1 : Int32), .inr (.inr (some 169))], H)) (C := []) rfl trivial ?_
      refine mw_cE (as := [.inl (1 : Int32)]) (o := some 169) (S1 := []) rfl rfl rfl rfl (Nat.le_of_ble_eq_true rfl) (by decide) tx9 rfl (by decide) (rp_sound (x := 1)) (fun H9 e9 => absurd e9.1 (by decide)) (fun v9 H9 e9 => ?_)
      obtain ⟨_, rfl, e9⟩ := e9
      rw [e9]
      clear e9 H9
      show mu_W _ mu_m482 (215, [(7, .inl (0 : Int32)), (6, .inr (.inr (some q))), (5, .inl (nI j)), (3, .inr (.inr (some p))), (2, .inl (nI k)), (1, .inr (.inr (some m))), (0, .inr (.inr (some 169)))], [], H) _
      refine mw_go mu_g482 (k := 2) (f1 := (115, [(5, .inl ((nI j) + 1)), (7, .inl (0 : Int32)), (6, .inr (.inr (some q))), (3, .inr (.inr (some p))), (2, .inl (nI k)), (1, .inr (.inr (some m))), (0, .inr (.inr (some 169)))], [], H)) (C := []) rfl trivial ?_
      refine mw_sub (L' := [(5, .inl (nI (j + 1))), (3, .inr (.inr (some p))), (2, .inl (nI k)), (1, .inr (.inr (some m))), (0, .inr (.inr (some 169)))]) (by intro x hx; simp only [List.mem_cons, List.not_mem_nil, or_false] at hx ⊢; rcases hx with rfl | rfl | rfl | rfl | rfl <;> simp [nI_add, show (1 : Int32) = nI 1 from rfl]) ?_
      exact rp_sx1 ht0 hm0 hw hk hp hbad hfin m_ (j + 1) (by omega) (fun i hi => by
        by_cases e : i = j
        · rw [e]; exact Or.inl (fun z => ea z.1)
        · exact hacc i (by omega))
    · -- 142
      have ea : tkd (nth y.2.2 j) ∈ [32, 33, 75] := Decidable.byContradiction (fun e => h3 (if_neg e))
      refine mw_go mu_g482 (k := 2) (f1 := (147, [(6, .inr (.inr (some q))), (5, .inl (nI j)), (3, .inr (.inr (some p))), (2, .inl (nI k)), (1, .inr (.inr (some m))), (0, .inr (.inr (some 169)))], [.inr (.inr (mu_r H q 4))], H)) (C := [mu_is H (some q) 18]) rfl (show mu_is H (some q) 18 from is5) ?_
      refine mw_fr (f' := (147, [(6, .inr (.inr (some q))), (5, .inl (nI j)), (3, .inr (.inr (some p))), (2, .inl (nI k)), (1, .inr (.inr (some m))), (0, .inr (.inr (some 169)))], [.inr (.inr (some nb7))], H)) (by first | (rw [nr7]; done) | (rw [nr7]; rfl)) ?_
      refine mw_go mu_g482 (k := 2) (f1 := (149, [(6, .inr (.inr (some q))), (5, .inl (nI j)), (3, .inr (.inr (some p))), (2, .inl (nI k)), (1, .inr (.inr (some m))), (0, .inr (.inr (some 169)))], [.inr (.inr (mu_r H nb7 (0 : Int32).toNatClampNeg))], H)) (C := [mu_is H (some nb7) (mu_k H nb7), 103 ≤ mu_k H nb7 ∧ mu_k H nb7 ≤ 110 ∧ mu_k H nb7 ≠ 108, vp_in (0 : Int32) (mu_n H nb7)]) rfl (show (mu_is H (some nb7) (mu_k H nb7)) ∧ (103 ≤ mu_k H nb7 ∧ mu_k H nb7 ≤ 110 ∧ mu_k H nb7 ≠ 108) ∧ (vp_in (0 : Int32) (mu_n H nb7)) from ⟨c1_7, c2_7, c3_7⟩) ?_
      refine mw_fr (f' := (149, [(6, .inr (.inr (some q))), (5, .inl (nI j)), (3, .inr (.inr (some p))), (2, .inl (nI k)), (1, .inr (.inr (some m))), (0, .inr (.inr (some 169)))], [.inr (.inr (some ns7))], H)) (by first | (rw [nx7]; done) | (rw [nx7]; rfl)) ?_
      refine mw_go mu_g482 (k := 2) (f1 := (153, [(6, .inr (.inr (some q))), (5, .inl (nI j)), (3, .inr (.inr (some p))), (2, .inl (nI k)), (1, .inr (.inr (some m))), (0, .inr (.inr (some 169)))], [.inr (.inr (mu_r H p 4)), .inr (.inr (some ns7))], H)) (C := [mu_is H (some p) 18]) rfl (show mu_is H (some p) 18 from is3) ?_
      refine mw_fr (f' := (153, [(6, .inr (.inr (some q))), (5, .inl (nI j)), (3, .inr (.inr (some p))), (2, .inl (nI k)), (1, .inr (.inr (some m))), (0, .inr (.inr (some 169)))], [.inr (.inr (some nb6)), .inr (.inr (some ns7))], H)) (by first | (rw [nr6]; done) | (rw [nr6]; rfl)) ?_
      refine mw_go mu_g482 (k := 2) (f1 := (155, [(6, .inr (.inr (some q))), (5, .inl (nI j)), (3, .inr (.inr (some p))), (2, .inl (nI k)), (1, .inr (.inr (some m))), (0, .inr (.inr (some 169)))], [.inr (.inr (mu_r H nb6 (0 : Int32).toNatClampNeg)), .inr (.inr (some ns7))], H)) (C := [mu_is H (some nb6) (mu_k H nb6), 103 ≤ mu_k H nb6 ∧ mu_k H nb6 ≤ 110 ∧ mu_k H nb6 ≠ 108, vp_in (0 : Int32) (mu_n H nb6)]) rfl (show (mu_is H (some nb6) (mu_k H nb6)) ∧ (103 ≤ mu_k H nb6 ∧ mu_k H nb6 ≤ 110 ∧ mu_k H nb6 ≠ 108) ∧ (vp_in (0 : Int32) (mu_n H nb6)) from ⟨c1_6, c2_6, c3_6⟩) ?_
      refine mw_fr (f' := (155, [(6, .inr (.inr (some q))), (5, .inl (nI j)), (3, .inr (.inr (some p))), (2, .inl (nI k)), (1, .inr (.inr (some m))), (0, .inr (.inr (some 169)))], [.inr (.inr (some ns6)), .inr (.inr (some ns7))], H)) (by first | (rw [nx6]; done) | (rw [nx6]; rfl)) ?_
      refine mw_cS rfl (by decide) nf7.1.1 (sb_equals (d := _) nf7.1 nf6.1 (Nat.lt_trans nf7.2.2 (by decide)) (Nat.lt_trans nf6.2.2 (by decide))) (fun x9 H9 q9 => ?_)
      rw [q9.1, q9.2]
      clear q9 H9 x9
      show mu_W _ mu_m482 (158, [(6, .inr (.inr (some q))), (5, .inl (nI j)), (3, .inr (.inr (some p))), (2, .inl (nI k)), (1, .inr (.inr (some m))), (0, .inr (.inr (some 169)))], [.inl (if (nam (nth y.2.2 j)) = (nam (nth y.2.2 k)) then 1 else 0)], H) _
      refine mw_if (P := (if (nam (nth y.2.2 j)) = (nam (nth y.2.2 k)) then 1 else 0) = 0) (a := 165) (b := 161) (fun _ => rfl) trivial (fun hi8 => ?_) (fun hi8 => ?_)
      · -- 165
        have ek8 : ¬ (nam (nth y.2.2 j)) = (nam (nth y.2.2 k)) := fun e => by rw [if_pos e] at hi8; exact absurd hi8 (by decide)
        refine mw_go mu_g482 (k := 4) (f1 := (171, [(7, .inl (0 : Int32)), (6, .inr (.inr (some q))), (5, .inl (nI j)), (3, .inr (.inr (some p))), (2, .inl (nI k)), (1, .inr (.inr (some m))), (0, .inr (.inr (some 169)))], [.inl (0 : Int32), .inr (.inr (some 169))], H)) (C := []) rfl trivial ?_
        refine mw_if (P := (0 : Int32) = 0) (a := 207) (b := 174) (fun _ => rfl) trivial (fun h4 => ?_) (fun h4 => absurd rfl h4)
        refine mw_go mu_g482 (k := 2) (f1 := (212, [(7, .inl (0 : Int32)), (6, .inr (.inr (some q))), (5, .inl (nI j)), (3, .inr (.inr (some p))), (2, .inl (nI k)), (1, .inr (.inr (some m))), (0, .inr (.inr (some 169)))], [.inl (1 : Int32), .inr (.inr (some 169))], H)) (C := []) rfl trivial ?_
        refine mw_cE (as := [.inl (1 : Int32)]) (o := some 169) (S1 := []) rfl rfl rfl rfl (Nat.le_of_ble_eq_true rfl) (by decide) tx9 rfl (by decide) (rp_sound (x := 1)) (fun H9 e9 => absurd e9.1 (by decide)) (fun v9 H9 e9 => ?_)
        obtain ⟨_, rfl, e9⟩ := e9
        rw [e9]
        clear e9 H9
        show mu_W _ mu_m482 (215, [(7, .inl (0 : Int32)), (6, .inr (.inr (some q))), (5, .inl (nI j)), (3, .inr (.inr (some p))), (2, .inl (nI k)), (1, .inr (.inr (some m))), (0, .inr (.inr (some 169)))], [], H) _
        refine mw_go mu_g482 (k := 2) (f1 := (115, [(5, .inl ((nI j) + 1)), (7, .inl (0 : Int32)), (6, .inr (.inr (some q))), (3, .inr (.inr (some p))), (2, .inl (nI k)), (1, .inr (.inr (some m))), (0, .inr (.inr (some 169)))], [], H)) (C := []) rfl trivial ?_
        refine mw_sub (L' := [(5, .inl (nI (j + 1))), (3, .inr (.inr (some p))), (2, .inl (nI k)), (1, .inr (.inr (some m))), (0, .inr (.inr (some 169)))]) (by intro x hx; simp only [List.mem_cons, List.not_mem_nil, or_false] at hx ⊢; rcases hx with rfl | rfl | rfl | rfl | rfl <;> simp [nI_add, show (1 : Int32) = nI 1 from rfl]) ?_
        exact rp_sx1 ht0 hm0 hw hk hp hbad hfin m_ (j + 1) (by omega) (fun i hi => by
          by_cases e : i = j
          · rw [e]; exact Or.inl (fun z => ek8 z.2)
          · exact hacc i (by omega))
      · -- 161
        have ek8 : (nam (nth y.2.2 j)) = (nam (nth y.2.2 k)) := Decidable.byContradiction (fun e => hi8 (if_neg e))
        refine mw_go mu_g482 (k := 5) (f1 := (171, [(7, .inl (1 : Int32)), (6, .inr (.inr (some q))), (5, .inl (nI j)), (3, .inr (.inr (some p))), (2, .inl (nI k)), (1, .inr (.inr (some m))), (0, .inr (.inr (some 169)))], [.inl (1 : Int32), .inr (.inr (some 169))], H)) (C := []) rfl trivial ?_
        refine mw_if (P := (1 : Int32) = 0) (a := 207) (b := 174) (fun _ => rfl) trivial (fun h4 => absurd h4 (by decide)) (fun h4 => ?_)
        refine mw_go mu_g482 (k := 3) (f1 := (180, [(7, .inl (1 : Int32)), (6, .inr (.inr (some q))), (5, .inl (nI j)), (3, .inr (.inr (some p))), (2, .inl (nI k)), (1, .inr (.inr (some m))), (0, .inr (.inr (some 169)))], [.inr (.inr (mu_r H p 0)), .inr (.inr (some q)), .inr (.inr (some 169))], H)) (C := [mu_is H (some p) 18]) rfl (show mu_is H (some p) 18 from is3) ?_
        refine mw_fr (f' := (180, [(7, .inl (1 : Int32)), (6, .inr (.inr (some q))), (5, .inl (nI j)), (3, .inr (.inr (some p))), (2, .inl (nI k)), (1, .inr (.inr (some m))), (0, .inr (.inr (some 169)))], [.inr (.inr (some st3)), .inr (.inr (some q)), .inr (.inr (some 169))], H)) (by first | (rw [sr3]; done) | (rw [sr3]; rfl)) ?_
        refine mw_cIe (fun _ => rfl) (show mu_is H (some q) 18 from is5) (nd.isS (e := d + 2) yn4 sf3 kd3) ?_
        refine mw_if (P := (if tkd (nth y.2.2 j) = tkd (nth y.2.2 k) then 1 else 0) = 0) (a := 186) (b := 211) (fun _ => rfl) trivial (fun h5 => ?_) (fun h5 => ?_)
        · -- 186
          have e5 : ¬ tkd (nth y.2.2 j) = tkd (nth y.2.2 k) := fun e => by rw [if_pos e] at h5; exact absurd h5 (by decide)
          refine mw_go mu_g482 (k := 2) (f1 := (191, [(7, .inl (1 : Int32)), (6, .inr (.inr (some q))), (5, .inl (nI j)), (3, .inr (.inr (some p))), (2, .inl (nI k)), (1, .inr (.inr (some m))), (0, .inr (.inr (some 169)))], [.inr (.inr (some 1000075)), .inr (.inr (some q)), .inr (.inr (some 169))], H)) (C := []) rfl trivial ?_
          refine mw_cIe (fun _ => rfl) (show mu_is H (some q) 18 from is5) (nd.isL (e := d + 2) (j := 75) yn4 (by decide)) ?_
          refine mw_if (P := (if tkd (nth y.2.2 j) = 75 then 1 else 0) = 0) (a := 197) (b := 211) (fun _ => rfl) trivial (fun hi9 => ?_) (fun hi9 => ?_)
          · -- 197
            have ek9 : ¬ tkd (nth y.2.2 j) = 75 := fun e => by rw [if_pos e] at hi9; exact absurd hi9 (by decide)
            refine mw_go mu_g482 (k := 2) (f1 := (201, [(7, .inl (1 : Int32)), (6, .inr (.inr (some q))), (5, .inl (nI j)), (3, .inr (.inr (some p))), (2, .inl (nI k)), (1, .inr (.inr (some m))), (0, .inr (.inr (some 169)))], [.inr (.inr (some 1000075)), .inr (.inr (some p)), .inr (.inr (some 169))], H)) (C := []) rfl trivial ?_
            refine mw_cIe (fun _ => rfl) (show mu_is H (some p) 18 from is3) (nd.isL (e := d + 2) (j := 75) hp (by decide)) ?_
            refine mw_if (P := (if tkd (nth y.2.2 k) = 75 then 1 else 0) = 0) (a := 207) (b := 211) (fun _ => rfl) trivial (fun hi10 => ?_) (fun hi10 => ?_)
            · -- 207
              have ek10 : ¬ tkd (nth y.2.2 k) = 75 := fun e => by rw [if_pos e] at hi10; exact absurd hi10 (by decide)
              refine mw_go mu_g482 (k := 2) (f1 := (212, [(7, .inl (1 : Int32)), (6, .inr (.inr (some q))), (5, .inl (nI j)), (3, .inr (.inr (some p))), (2, .inl (nI k)), (1, .inr (.inr (some m))), (0, .inr (.inr (some 169)))], [.inl (1 : Int32), .inr (.inr (some 169))], H)) (C := []) rfl trivial ?_
              refine mw_cE (as := [.inl (1 : Int32)]) (o := some 169) (S1 := []) rfl rfl rfl rfl (Nat.le_of_ble_eq_true rfl) (by decide) tx9 rfl (by decide) (rp_sound (x := 1)) (fun H9 e9 => absurd e9.1 (by decide)) (fun v9 H9 e9 => ?_)
              obtain ⟨_, rfl, e9⟩ := e9
              rw [e9]
              clear e9 H9
              show mu_W _ mu_m482 (215, [(7, .inl (1 : Int32)), (6, .inr (.inr (some q))), (5, .inl (nI j)), (3, .inr (.inr (some p))), (2, .inl (nI k)), (1, .inr (.inr (some m))), (0, .inr (.inr (some 169)))], [], H) _
              refine mw_go mu_g482 (k := 2) (f1 := (115, [(5, .inl ((nI j) + 1)), (7, .inl (1 : Int32)), (6, .inr (.inr (some q))), (3, .inr (.inr (some p))), (2, .inl (nI k)), (1, .inr (.inr (some m))), (0, .inr (.inr (some 169)))], [], H)) (C := []) rfl trivial ?_
              refine mw_sub (L' := [(5, .inl (nI (j + 1))), (3, .inr (.inr (some p))), (2, .inl (nI k)), (1, .inr (.inr (some m))), (0, .inr (.inr (some 169)))]) (by intro x hx; simp only [List.mem_cons, List.not_mem_nil, or_false] at hx ⊢; rcases hx with rfl | rfl | rfl | rfl | rfl <;> simp [nI_add, show (1 : Int32) = nI 1 from rfl]) ?_
              exact rp_sx1 ht0 hm0 hw hk hp hbad hfin m_ (j + 1) (by omega) (fun i hi => by
                by_cases e : i = j
                · rw [e]; exact Or.inr ⟨e5, ek9, ek10⟩
                · exact hacc i (by omega))
            · -- 211
              have ek10 : tkd (nth y.2.2 k) = 75 := Decidable.byContradiction (fun e => hi10 (if_neg e))
              refine mw_go mu_g482 (k := 1) (f1 := (212, [(7, .inl (1 : Int32)), (6, .inr (.inr (some q))), (5, .inl (nI j)), (3, .inr (.inr (some p))), (2, .inl (nI k)), (1, .inr (.inr (some m))), (0, .inr (.inr (some 169)))], [.inl (0 : Int32), .inr (.inr (some 169))], H)) (C := []) rfl trivial ?_
              exact mw_cE (as := [.inl (0 : Int32)]) (o := some 169) (S1 := []) rfl rfl rfl rfl (Nat.le_of_ble_eq_true rfl) (by decide) tx9 rfl (by decide) (rp_sound (x := 0)) (fun H9 e9 => by rw [e9.2]; exact Or.inl ⟨_, rfl, (hbad j hj (fun z => z.elim (fun z => z ⟨ea, ek8⟩) (fun z => z.2.2 ek10))), rfl⟩) (fun v9 H9 e9 => absurd rfl e9.1)
          · -- 211
            have ek9 : tkd (nth y.2.2 j) = 75 := Decidable.byContradiction (fun e => hi9 (if_neg e))
            refine mw_go mu_g482 (k := 1) (f1 := (212, [(7, .inl (1 : Int32)), (6, .inr (.inr (some q))), (5, .inl (nI j)), (3, .inr (.inr (some p))), (2, .inl (nI k)), (1, .inr (.inr (some m))), (0, .inr (.inr (some 169)))], [.inl (0 : Int32), .inr (.inr (some 169))], H)) (C := []) rfl trivial ?_
            exact mw_cE (as := [.inl (0 : Int32)]) (o := some 169) (S1 := []) rfl rfl rfl rfl (Nat.le_of_ble_eq_true rfl) (by decide) tx9 rfl (by decide) (rp_sound (x := 0)) (fun H9 e9 => by rw [e9.2]; exact Or.inl ⟨_, rfl, (hbad j hj (fun z => z.elim (fun z => z ⟨ea, ek8⟩) (fun z => z.2.1 ek9))), rfl⟩) (fun v9 H9 e9 => absurd rfl e9.1)
        · -- 211
          have e5 : tkd (nth y.2.2 j) = tkd (nth y.2.2 k) := Decidable.byContradiction (fun e => h5 (if_neg e))
          refine mw_go mu_g482 (k := 1) (f1 := (212, [(7, .inl (1 : Int32)), (6, .inr (.inr (some q))), (5, .inl (nI j)), (3, .inr (.inr (some p))), (2, .inl (nI k)), (1, .inr (.inr (some m))), (0, .inr (.inr (some 169)))], [.inl (0 : Int32), .inr (.inr (some 169))], H)) (C := []) rfl trivial ?_
          exact mw_cE (as := [.inl (0 : Int32)]) (o := some 169) (S1 := []) rfl rfl rfl rfl (Nat.le_of_ble_eq_true rfl) (by decide) tx9 rfl (by decide) (rp_sound (x := 0)) (fun H9 e9 => by rw [e9.2]; exact Or.inl ⟨_, rfl, (hbad j hj (fun z => z.elim (fun z => z ⟨ea, ek8⟩) (fun z => z.1 e5))), rfl⟩) (fun v9 H9 e9 => absurd rfl e9.1)
theorem rp_sx2 {d lv r m : Nat} {H : mu_H} {F : Nat → Prop} {ms : List Mdl} {y : Mdl} (ht : rtx H F lv r ms) (hm : mdf H F lv m y) (hw : mdw y) {k p : Nat} (hk : k < y.2.2.length) (hp : nd H F (lv - 1) p (nth y.2.2 k)) (hfin : (tkd (nth y.2.2 k) ∈ [32, 33, 75] → asy y.2.2 k) → mu_W (mu_D (d + 5)) mu_m482 (7, [(2, .inl (nI (k + 1))), (1, .inr (.inr (some m))), (0, .inr (.inr (some 169)))], [], H) (fun r => (∃ H1, r = (.inr 2, H1) ∧ ¬ (∀ k, k < y.2.2.length → ptz ms y.2.2 k) ∧ H1 = mu_ex H) ∨ ∃ v H1, r = (.inl v, H1) ∧ (∀ k, k < y.2.2.length → ptz ms y.2.2 k) ∧ v = none ∧ H1 = H)) : mu_W (mu_D (d + 5)) mu_m482 (48, [(3, .inr (.inr (some p))), (2, .inl (nI k)), (1, .inr (.inr (some m))), (0, .inr (.inr (some 169)))], [], H) (fun r => (∃ H1, r = (.inr 2, H1) ∧ ¬ (∀ k, k < y.2.2.length → ptz ms y.2.2 k) ∧ H1 = mu_ex H) ∨ ∃ v H1, r = (.inl v, H1) ∧ (∀ k, k < y.2.2.length → ptz ms y.2.2 k) ∧ v = none ∧ H1 = H) := by
  have ht0 := ht
  have hm0 := hm
  obtain ⟨tx14, tx_is, tx_n, tx15, tx_m, tx9⟩ := ht
  obtain ⟨mi1, ⟨mw1, mr0_1, ms1⟩, ⟨mp1, mr1_1, mpn1⟩, mq1, mr2_1, mqn1⟩ := mdf.rd (y := y) hm
  obtain ⟨kd2, ⟨is2, nF2, lt2⟩, ⟨st2, sr2, sf2⟩, ⟨n2_2, n3_2, n7_2⟩, nm2, ar2, aq2, aF2, ai2, ⟨al2, am2, ax2⟩, ch2, dp2⟩ := nd.rd (c := (tmk 67 0 [] y.2.2)) mqn1
  have hl26 : y.2.2.length ≤ 2 ^ 21 := Nat.le_trans al2 ax2
  obtain ⟨kd3, ⟨is3, nF3, lt3⟩, ⟨st3, sr3, sf3⟩, ⟨n2_3, n3_3, n7_3⟩, nm3, ar3, aq3, aF3, ai3, ⟨al3, am3, ax3⟩, ch3, dp3⟩ := nd.rd (c := (nth y.2.2 k)) hp
  have hn1 : 0 < (tns (nth y.2.2 k)).length := by rw [(hw.2 k hk).1.1]; exact Nat.one_pos
  refine mw_go mu_g482 (k := 2) (f1 := (50, [(3, .inr (.inr (some p))), (2, .inl (nI k)), (1, .inr (.inr (some m))), (0, .inr (.inr (some 169)))], [.inr (.inr (some p)), .inr (.inr (some 169))], H)) (C := []) rfl trivial ?_
  refine mw_cIe (fun _ => rfl) (show mu_is H (some 169) 1 from tx9) (rp_assigns (d := d + 1) hp) ?_
  refine mw_if (P := (if tkd (nth y.2.2 k) ∈ [32, 33, 75] then 1 else 0) = 0) (a := 56) (b := 59) (fun _ => rfl) trivial (fun h3 => ?_) (fun h3 => ?_)
  · -- 56
    have ea : ¬ tkd (nth y.2.2 k) ∈ [32, 33, 75] := fun e => by rw [if_pos e] at h3; exact absurd h3 (by decide)
    refine mw_go mu_g482 (k := 3) (f1 := (7, [(2, .inl ((nI k) + 1)), (3, .inr (.inr (some p))), (1, .inr (.inr (some m))), (0, .inr (.inr (some 169)))], [], H)) (C := []) rfl trivial ?_
    refine mw_sub (L' := [(2, .inl (nI (k + 1))), (1, .inr (.inr (some m))), (0, .inr (.inr (some 169)))]) (by intro x hx; simp only [List.mem_cons, List.not_mem_nil, or_false] at hx ⊢; rcases hx with rfl | rfl | rfl <;> simp [nI_add, show (1 : Int32) = nI 1 from rfl]) ?_
    exact hfin (fun z => absurd z ea)
  · -- 59
    have ea : tkd (nth y.2.2 k) ∈ [32, 33, 75] := Decidable.byContradiction (fun e => h3 (if_neg e))
    obtain ⟨nb4, nr4, nbF4, ni4, nn4, nl4, nk4⟩ := nm3.rd hn1
    obtain ⟨ns4, nz4, nf4⟩ := nk4 0 hn1
    obtain ⟨c1_4, c2_4, c3_4, c4_4⟩ := ar_at (i := 0) ni4 (by decide) (by rw [nn4]; exact hn1) (by rw [nn4]; omega)
    have nx4 : mu_r H nb4 (0 : Int32).toNatClampNeg = some ns4 := nz4
    refine mw_go mu_g482 (k := 4) (f1 := (67, [(3, .inr (.inr (some p))), (2, .inl (nI k)), (1, .inr (.inr (some m))), (0, .inr (.inr (some 169)))], [.inr (.inr (mu_r H p 4)), .inr (.inr (some 1000073)), .inr (.inr (some m))], H)) (C := [mu_is H (some p) 18]) rfl (show mu_is H (some p) 18 from is3) ?_
    refine mw_fr (f' := (67, [(3, .inr (.inr (some p))), (2, .inl (nI k)), (1, .inr (.inr (some m))), (0, .inr (.inr (some 169)))], [.inr (.inr (some nb4)), .inr (.inr (some 1000073)), .inr (.inr (some m))], H)) (by first | (rw [nr4]; done) | (rw [nr4]; rfl)) ?_
    refine mw_go mu_g482 (k := 2) (f1 := (69, [(3, .inr (.inr (some p))), (2, .inl (nI k)), (1, .inr (.inr (some m))), (0, .inr (.inr (some 169)))], [.inr (.inr (mu_r H nb4 (0 : Int32).toNatClampNeg)), .inr (.inr (some 1000073)), .inr (.inr (some m))], H)) (C := [mu_is H (some nb4) (mu_k H nb4), 103 ≤ mu_k H nb4 ∧ mu_k H nb4 ≤ 110 ∧ mu_k H nb4 ≠ 108, vp_in (0 : Int32) (mu_n H nb4)]) rfl (show (mu_is H (some nb4) (mu_k H nb4)) ∧ (103 ≤ mu_k H nb4 ∧ mu_k H nb4 ≤ 110 ∧ mu_k H nb4 ≠ 108) ∧ (vp_in (0 : Int32) (mu_n H nb4)) from ⟨c1_4, c2_4, c3_4⟩) ?_
    refine mw_fr (f' := (69, [(3, .inr (.inr (some p))), (2, .inl (nI k)), (1, .inr (.inr (some m))), (0, .inr (.inr (some 169)))], [.inr (.inr (some ns4)), .inr (.inr (some 1000073)), .inr (.inr (some m))], H)) (by first | (rw [nx4]; done) | (rw [nx4]; rfl)) ?_
    refine mw_cIe (fun _ => rfl) trivial (rp_find (d := d + 1) (j := 73) hm0 hw.2 nf4 (by decide)) ?_
    cases hfd : fnd y.2.2 73 (nam (nth y.2.2 k)) with
    | none =>
      show mu_W _ mu_m482 (72, [(3, .inr (.inr (some p))), (2, .inl (nI k)), (1, .inr (.inr (some m))), (0, .inr (.inr (some 169)))], [.inl (-1 : Int32)], H) _
      refine mw_go mu_g482 (k := 3) (f1 := (77, [(4, .inl (-1 : Int32)), (3, .inr (.inr (some p))), (2, .inl (nI k)), (1, .inr (.inr (some m))), (0, .inr (.inr (some 169)))], [.inl (-1 : Int32), .inr (.inr (some 169))], H)) (C := []) rfl trivial ?_
      refine mw_if (P := (-1 : Int32) < 0) (a := 108) (b := 80) (fun _ => rfl) trivial (fun h4 => ?_) (fun h4 => absurd (by decide) h4)
      refine mw_go mu_g482 (k := 1) (f1 := (109, [(4, .inl (-1 : Int32)), (3, .inr (.inr (some p))), (2, .inl (nI k)), (1, .inr (.inr (some m))), (0, .inr (.inr (some 169)))], [.inl (0 : Int32), .inr (.inr (some 169))], H)) (C := []) rfl trivial ?_
      exact mw_cE (as := [.inl (0 : Int32)]) (o := some 169) (S1 := []) rfl rfl rfl rfl (Nat.le_of_ble_eq_true rfl) (by decide) tx9 rfl (by decide) (rp_sound (x := 0)) (fun H9 e9 => by rw [e9.2]; exact Or.inl ⟨_, rfl, (fun z => by obtain ⟨⟨v, hv, _⟩, _⟩ := (z k hk).2 ea; rw [hfd] at hv; cases hv), rfl⟩) (fun v9 H9 e9 => absurd rfl e9.1)
    | some v =>
      show mu_W _ mu_m482 (72, [(3, .inr (.inr (some p))), (2, .inl (nI k)), (1, .inr (.inr (some m))), (0, .inr (.inr (some 169)))], [.inl (nI v)], H) _
      have hfs := fio_some _ _ _ hfd
      have hv : v < y.2.2.length := by have := hfs.2.2.1; omega
      have hvn : 0 < tsn (nth y.2.2 v) := by rw [(hw.2 v hv).1.2]; exact Nat.one_pos
      obtain ⟨pv, yr5, yn5⟩ := ch2 v hv
      have yn5 : nd H F (lv - 1) pv (nth y.2.2 v) := yn5
      obtain ⟨b1_5, b2_5, b3_5, b4_5⟩ := ar_at ai2 (by decide) (Nat.lt_of_lt_of_le hv al2) (Nat.lt_of_le_of_lt ax2 (by decide))
      have y2_5 : mu_r H ar2 (nI v).toNatClampNeg = some pv := by rw [b4_5]; exact yr5
      obtain ⟨kd6, ⟨is6, nF6, lt6⟩, ⟨st6, sr6, sf6⟩, ⟨n2_6, n3_6, n7_6⟩, nm6, ar6, aq6, aF6, ai6, ⟨al6, am6, ax6⟩, ch6, dp6⟩ := nd.rd (c := (nth y.2.2 v)) yn5
      obtain ⟨ty, yr7, yn7⟩ := ch6 0 hvn
      have yn7 : nd H F ((lv - 1) - 1) ty (tkk (nth y.2.2 v) 0) := yn7
      obtain ⟨b1_7, b2_7, b3_7, b4_7⟩ := ar_at ai6 (by decide) (Nat.lt_of_lt_of_le hvn al6) (Nat.lt_of_le_of_lt ax6 (by decide))
      have y2_7 : mu_r H ar6 (0 : Int32).toNatClampNeg = some ty := yr7
      obtain ⟨kd8, ⟨is8, nF8, lt8⟩, ⟨st8, sr8, sf8⟩, ⟨n2_8, n3_8, n7_8⟩, nm8, ar8, aq8, aF8, ai8, ⟨al8, am8, ax8⟩, ch8, dp8⟩ := nd.rd (c := (tkk (nth y.2.2 v) 0)) yn7
      refine mw_go mu_g482 (k := 3) (f1 := (77, [(4, .inl (nI v)), (3, .inr (.inr (some p))), (2, .inl (nI k)), (1, .inr (.inr (some m))), (0, .inr (.inr (some 169)))], [.inl (nI v), .inr (.inr (some 169))], H)) (C := []) rfl trivial ?_
      refine mw_if (P := (nI v) < 0) (a := 108) (b := 80) (fun _ => rfl) trivial (fun h4 => absurd h4 (nI_nn (by omega))) (fun h4 => ?_)
      refine mw_go mu_g482 (k := 2) (f1 := (84, [(4, .inl (nI v)), (3, .inr (.inr (some p))), (2, .inl (nI k)), (1, .inr (.inr (some m))), (0, .inr (.inr (some 169)))], [.inr (.inr (mu_r H m 2)), .inr (.inr (some 169))], H)) (C := [mu_is H (some m) 17]) rfl (show mu_is H (some m) 17 from mi1) ?_
      refine mw_fr (f' := (84, [(4, .inl (nI v)), (3, .inr (.inr (some p))), (2, .inl (nI k)), (1, .inr (.inr (some m))), (0, .inr (.inr (some 169)))], [.inr (.inr (some mq1)), .inr (.inr (some 169))], H)) (by first | (rw [mr2_1]; done) | (rw [mr2_1]; rfl)) ?_
      refine mw_go mu_g482 (k := 1) (f1 := (87, [(4, .inl (nI v)), (3, .inr (.inr (some p))), (2, .inl (nI k)), (1, .inr (.inr (some m))), (0, .inr (.inr (some 169)))], [.inr (.inr (mu_r H mq1 1)), .inr (.inr (some 169))], H)) (C := [mu_is H (some mq1) 18]) rfl (show mu_is H (some mq1) 18 from is2) ?_
      refine mw_fr (f' := (87, [(4, .inl (nI v)), (3, .inr (.inr (some p))), (2, .inl (nI k)), (1, .inr (.inr (some m))), (0, .inr (.inr (some 169)))], [.inr (.inr (some ar2)), .inr (.inr (some 169))], H)) (by first | (rw [aq2]; done) | (rw [aq2]; rfl)) ?_
      refine mw_go mu_g482 (k := 2) (f1 := (90, [(4, .inl (nI v)), (3, .inr (.inr (some p))), (2, .inl (nI k)), (1, .inr (.inr (some m))), (0, .inr (.inr (some 169)))], [.inr (.inr (mu_r H ar2 (nI v).toNatClampNeg)), .inr (.inr (some 169))], H)) (C := [mu_is H (some ar2) (mu_k H ar2), 103 ≤ mu_k H ar2 ∧ mu_k H ar2 ≤ 110 ∧ mu_k H ar2 ≠ 108, vp_in (nI v) (mu_n H ar2)]) rfl (show (mu_is H (some ar2) (mu_k H ar2)) ∧ (103 ≤ mu_k H ar2 ∧ mu_k H ar2 ≤ 110 ∧ mu_k H ar2 ≠ 108) ∧ (vp_in (nI v) (mu_n H ar2)) from ⟨b1_5, b2_5, b3_5⟩) ?_
      refine mw_fr (f' := (90, [(4, .inl (nI v)), (3, .inr (.inr (some p))), (2, .inl (nI k)), (1, .inr (.inr (some m))), (0, .inr (.inr (some 169)))], [.inr (.inr (some pv)), .inr (.inr (some 169))], H)) (by first | (rw [y2_5]; done) | (rw [y2_5]; rfl)) ?_
      refine mw_go mu_g482 (k := 1) (f1 := (93, [(4, .inl (nI v)), (3, .inr (.inr (some p))), (2, .inl (nI k)), (1, .inr (.inr (some m))), (0, .inr (.inr (some 169)))], [.inr (.inr (mu_r H pv 1)), .inr (.inr (some 169))], H)) (C := [mu_is H (some pv) 18]) rfl (show mu_is H (some pv) 18 from is6) ?_
      refine mw_fr (f' := (93, [(4, .inl (nI v)), (3, .inr (.inr (some p))), (2, .inl (nI k)), (1, .inr (.inr (some m))), (0, .inr (.inr (some 169)))], [.inr (.inr (some ar6)), .inr (.inr (some 169))], H)) (by first | (rw [aq6]; done) | (rw [aq6]; rfl)) ?_
      refine mw_go mu_g482 (k := 2) (f1 := (95, [(4, .inl (nI v)), (3, .inr (.inr (some p))), (2, .inl (nI k)), (1, .inr (.inr (some m))), (0, .inr (.inr (some 169)))], [.inr (.inr (mu_r H ar6 (0 : Int32).toNatClampNeg)), .inr (.inr (some 169))], H)) (C := [mu_is H (some ar6) (mu_k H ar6), 103 ≤ mu_k H ar6 ∧ mu_k H ar6 ≤ 110 ∧ mu_k H ar6 ≠ 108, vp_in (0 : Int32) (mu_n H ar6)]) rfl (show (mu_is H (some ar6) (mu_k H ar6)) ∧ (103 ≤ mu_k H ar6 ∧ mu_k H ar6 ≤ 110 ∧ mu_k H ar6 ≠ 108) ∧ (vp_in (0 : Int32) (mu_n H ar6)) from ⟨b1_7, b2_7, b3_7⟩) ?_
      refine mw_fr (f' := (95, [(4, .inl (nI v)), (3, .inr (.inr (some p))), (2, .inl (nI k)), (1, .inr (.inr (some m))), (0, .inr (.inr (some 169)))], [.inr (.inr (some ty)), .inr (.inr (some 169))], H)) (by first | (rw [y2_7]; done) | (rw [y2_7]; rfl)) ?_
      refine mw_go mu_g482 (k := 1) (f1 := (98, [(4, .inl (nI v)), (3, .inr (.inr (some p))), (2, .inl (nI k)), (1, .inr (.inr (some m))), (0, .inr (.inr (some 169)))], [.inr (.inr (some 1000072)), .inr (.inr (some ty)), .inr (.inr (some 169))], H)) (C := []) rfl trivial ?_
      refine mw_cIe (fun _ => rfl) (show mu_is H (some ty) 18 from is8) (nd.isL (e := d + 2) (j := 72) yn7 (by decide)) ?_
      refine mw_if (P := (if tkd (tkk (nth y.2.2 v) 0) = 72 then 1 else 0) = 0) (a := 104) (b := 108) (fun _ => rfl) trivial (fun hi9 => ?_) (fun hi9 => ?_)
      · -- 104
        have ek9 : ¬ tkd (tkk (nth y.2.2 v) 0) = 72 := fun e => by rw [if_pos e] at hi9; exact absurd hi9 (by decide)
        refine mw_go mu_g482 (k := 2) (f1 := (109, [(4, .inl (nI v)), (3, .inr (.inr (some p))), (2, .inl (nI k)), (1, .inr (.inr (some m))), (0, .inr (.inr (some 169)))], [.inl (1 : Int32), .inr (.inr (some 169))], H)) (C := []) rfl trivial ?_
        refine mw_cE (as := [.inl (1 : Int32)]) (o := some 169) (S1 := []) rfl rfl rfl rfl (Nat.le_of_ble_eq_true rfl) (by decide) tx9 rfl (by decide) (rp_sound (x := 1)) (fun H9 e9 => absurd e9.1 (by decide)) (fun v9 H9 e9 => ?_)
        obtain ⟨_, rfl, e9⟩ := e9
        rw [e9]
        clear e9 H9
        show mu_W _ mu_m482 (112, [(4, .inl (nI v)), (3, .inr (.inr (some p))), (2, .inl (nI k)), (1, .inr (.inr (some m))), (0, .inr (.inr (some 169)))], [], H) _
        refine mw_go mu_g482 (k := 2) (f1 := (115, [(5, .inl (0 : Int32)), (4, .inl (nI v)), (3, .inr (.inr (some p))), (2, .inl (nI k)), (1, .inr (.inr (some m))), (0, .inr (.inr (some 169)))], [], H)) (C := []) rfl trivial ?_
        refine mw_sub (L' := [(5, .inl (nI 0)), (3, .inr (.inr (some p))), (2, .inl (nI k)), (1, .inr (.inr (some m))), (0, .inr (.inr (some 169)))]) (by intro x hx; simp only [List.mem_cons, List.not_mem_nil, or_false] at hx ⊢; rcases hx with rfl | rfl | rfl | rfl | rfl <;> simp [nI]) ?_
        refine rp_sx1 ht0 hm0 hw hk hp (fun j hj hn z => hn (((z k hk).2 ea).2 j hj)) (fun hall => ?_) k 0 (by omega) (fun i hi => absurd hi (Nat.not_lt_zero _))
        refine mw_go mu_g482 (k := 2) (f1 := (7, [(2, .inl ((nI k) + 1)), (3, .inr (.inr (some p))), (1, .inr (.inr (some m))), (0, .inr (.inr (some 169)))], [], H)) (C := []) rfl trivial ?_
        refine mw_sub (L' := [(2, .inl (nI (k + 1))), (1, .inr (.inr (some m))), (0, .inr (.inr (some 169)))]) (by intro x hx; simp only [List.mem_cons, List.not_mem_nil, or_false] at hx ⊢; rcases hx with rfl | rfl | rfl <;> simp [nI_add, show (1 : Int32) = nI 1 from rfl]) ?_
        exact hfin (fun _ => ⟨⟨v, hfd, ek9⟩, hall⟩)
      · -- 108
        have ek9 : tkd (tkk (nth y.2.2 v) 0) = 72 := Decidable.byContradiction (fun e => hi9 (if_neg e))
        refine mw_go mu_g482 (k := 1) (f1 := (109, [(4, .inl (nI v)), (3, .inr (.inr (some p))), (2, .inl (nI k)), (1, .inr (.inr (some m))), (0, .inr (.inr (some 169)))], [.inl (0 : Int32), .inr (.inr (some 169))], H)) (C := []) rfl trivial ?_
        exact mw_cE (as := [.inl (0 : Int32)]) (o := some 169) (S1 := []) rfl rfl rfl rfl (Nat.le_of_ble_eq_true rfl) (by decide) tx9 rfl (by decide) (rp_sound (x := 0)) (fun H9 e9 => by rw [e9.2]; exact Or.inl ⟨_, rfl, (fun z => by obtain ⟨⟨v2, hv2, hv3⟩, _⟩ := (z k hk).2 ea; rw [hfd] at hv2; cases hv2; exact hv3 ek9), rfl⟩) (fun v9 H9 e9 => absurd rfl e9.1)
theorem rp_sx3 {d lv r m : Nat} {H : mu_H} {F : Nat → Prop} {ms : List Mdl} {y : Mdl} (ht : rtx H F lv r ms) (hm : mdf H F lv m y) (hw : mdw y) : ∀ m_ k, k + m_ = y.2.2.length → (∀ i, i < k → ptz ms y.2.2 i) → mu_W (mu_D (d + 5)) mu_m482 (7, [(2, .inl (nI k)), (1, .inr (.inr (some m))), (0, .inr (.inr (some 169)))], [], H) (fun r => (∃ H1, r = (.inr 2, H1) ∧ ¬ (∀ k, k < y.2.2.length → ptz ms y.2.2 k) ∧ H1 = mu_ex H) ∨ ∃ v H1, r = (.inl v, H1) ∧ (∀ k, k < y.2.2.length → ptz ms y.2.2 k) ∧ v = none ∧ H1 = H)
  | 0, k, hm_, hacc => by
    have ht0 := ht
    have hm0 := hm
    obtain ⟨tx14, tx_is, tx_n, tx15, tx_m, tx9⟩ := ht
    obtain ⟨mi1, ⟨mw1, mr0_1, ms1⟩, ⟨mp1, mr1_1, mpn1⟩, mq1, mr2_1, mqn1⟩ := mdf.rd (y := y) hm
    obtain ⟨kd2, ⟨is2, nF2, lt2⟩, ⟨st2, sr2, sf2⟩, ⟨n2_2, n3_2, n7_2⟩, nm2, ar2, aq2, aF2, ai2, ⟨al2, am2, ax2⟩, ch2, dp2⟩ := nd.rd (c := (tmk 67 0 [] y.2.2)) mqn1
    have hl26 : y.2.2.length ≤ 2 ^ 21 := Nat.le_trans al2 ax2
    refine mw_go mu_g482 (k := 3) (f1 := (12, [(2, .inl (nI k)), (1, .inr (.inr (some m))), (0, .inr (.inr (some 169)))], [.inr (.inr (mu_r H m 2)), .inl (nI k)], H)) (C := [mu_is H (some m) 17]) rfl (show mu_is H (some m) 17 from mi1) ?_
    refine mw_fr (f' := (12, [(2, .inl (nI k)), (1, .inr (.inr (some m))), (0, .inr (.inr (some 169)))], [.inr (.inr (some mq1)), .inl (nI k)], H)) (by first | (rw [mr2_1]; done) | (rw [mr2_1]; rfl)) ?_
    refine mw_go mu_g482 (k := 1) (f1 := (15, [(2, .inl (nI k)), (1, .inr (.inr (some m))), (0, .inr (.inr (some 169)))], [.inl (mu_i H mq1 2), .inl (nI k)], H)) (C := [mu_is H (some mq1) 18]) rfl (show mu_is H (some mq1) 18 from is2) ?_
    refine mw_fr (f' := (15, [(2, .inl (nI k)), (1, .inr (.inr (some m))), (0, .inr (.inr (some 169)))], [.inl (nI y.2.2.length), .inl (nI k)], H)) (by first | (rw [n2_2]; done) | (rw [n2_2]; rfl)) ?_
    refine mw_if (P := (nI k) < (nI y.2.2.length)) (a := 18) (b := 227) (fun _ => rfl) trivial (fun h1 => absurd h1 (by rw [show k = y.2.2.length by omega]; exact Int32.lt_irrefl)) (fun h1 => ?_)
    exact mw_of (fun _ => mu_ret rfl trivial (Or.inr ⟨_, _, rfl, fun i hi => hacc i (by omega), rfl, rfl⟩))
  | m_ + 1, k, hm_, hacc => by
    have ht0 := ht
    have hm0 := hm
    obtain ⟨tx14, tx_is, tx_n, tx15, tx_m, tx9⟩ := ht
    obtain ⟨mi1, ⟨mw1, mr0_1, ms1⟩, ⟨mp1, mr1_1, mpn1⟩, mq1, mr2_1, mqn1⟩ := mdf.rd (y := y) hm
    obtain ⟨kd2, ⟨is2, nF2, lt2⟩, ⟨st2, sr2, sf2⟩, ⟨n2_2, n3_2, n7_2⟩, nm2, ar2, aq2, aF2, ai2, ⟨al2, am2, ax2⟩, ch2, dp2⟩ := nd.rd (c := (tmk 67 0 [] y.2.2)) mqn1
    have hl26 : y.2.2.length ≤ 2 ^ 21 := Nat.le_trans al2 ax2
    have hk : k < y.2.2.length := by omega
    have hp1 := hw.2 k hk
    have hp2 : 0 < tsn (nth y.2.2 k) := by rw [hp1.1.2]; exact Nat.one_pos
    refine mw_go mu_g482 (k := 3) (f1 := (12, [(2, .inl (nI k)), (1, .inr (.inr (some m))), (0, .inr (.inr (some 169)))], [.inr (.inr (mu_r H m 2)), .inl (nI k)], H)) (C := [mu_is H (some m) 17]) rfl (show mu_is H (some m) 17 from mi1) ?_
    refine mw_fr (f' := (12, [(2, .inl (nI k)), (1, .inr (.inr (some m))), (0, .inr (.inr (some 169)))], [.inr (.inr (some mq1)), .inl (nI k)], H)) (by first | (rw [mr2_1]; done) | (rw [mr2_1]; rfl)) ?_
    refine mw_go mu_g482 (k := 1) (f1 := (15, [(2, .inl (nI k)), (1, .inr (.inr (some m))), (0, .inr (.inr (some 169)))], [.inl (mu_i H mq1 2), .inl (nI k)], H)) (C := [mu_is H (some mq1) 18]) rfl (show mu_is H (some mq1) 18 from is2) ?_
    refine mw_fr (f' := (15, [(2, .inl (nI k)), (1, .inr (.inr (some m))), (0, .inr (.inr (some 169)))], [.inl (nI y.2.2.length), .inl (nI k)], H)) (by first | (rw [n2_2]; done) | (rw [n2_2]; rfl)) ?_
    refine mw_if (P := (nI k) < (nI y.2.2.length)) (a := 18) (b := 227) (fun _ => rfl) trivial (fun h1 => ?_) (fun h1 => absurd (nI_lt hk (by omega)) h1)
    obtain ⟨p, yr3, yn3⟩ := ch2 k hk
    have yn3 : nd H F (lv - 1) p (nth y.2.2 k) := yn3
    obtain ⟨b1_3, b2_3, b3_3, b4_3⟩ := ar_at ai2 (by decide) (Nat.lt_of_lt_of_le hk al2) (Nat.lt_of_le_of_lt ax2 (by decide))
    have y2_3 : mu_r H ar2 (nI k).toNatClampNeg = some p := by rw [b4_3]; exact yr3
    obtain ⟨kd4, ⟨is4, nF4, lt4⟩, ⟨st4, sr4, sf4⟩, ⟨n2_4, n3_4, n7_4⟩, nm4, ar4, aq4, aF4, ai4, ⟨al4, am4, ax4⟩, ch4, dp4⟩ := nd.rd (c := (nth y.2.2 k)) yn3
    refine mw_go mu_g482 (k := 2) (f1 := (22, [(2, .inl (nI k)), (1, .inr (.inr (some m))), (0, .inr (.inr (some 169)))], [.inr (.inr (mu_r H m 2))], H)) (C := [mu_is H (some m) 17]) rfl (show mu_is H (some m) 17 from mi1) ?_
    refine mw_fr (f' := (22, [(2, .inl (nI k)), (1, .inr (.inr (some m))), (0, .inr (.inr (some 169)))], [.inr (.inr (some mq1))], H)) (by first | (rw [mr2_1]; done) | (rw [mr2_1]; rfl)) ?_
    refine mw_go mu_g482 (k := 1) (f1 := (25, [(2, .inl (nI k)), (1, .inr (.inr (some m))), (0, .inr (.inr (some 169)))], [.inr (.inr (mu_r H mq1 1))], H)) (C := [mu_is H (some mq1) 18]) rfl (show mu_is H (some mq1) 18 from is2) ?_
    refine mw_fr (f' := (25, [(2, .inl (nI k)), (1, .inr (.inr (some m))), (0, .inr (.inr (some 169)))], [.inr (.inr (some ar2))], H)) (by first | (rw [aq2]; done) | (rw [aq2]; rfl)) ?_
    refine mw_go mu_g482 (k := 2) (f1 := (27, [(2, .inl (nI k)), (1, .inr (.inr (some m))), (0, .inr (.inr (some 169)))], [.inr (.inr (mu_r H ar2 (nI k).toNatClampNeg))], H)) (C := [mu_is H (some ar2) (mu_k H ar2), 103 ≤ mu_k H ar2 ∧ mu_k H ar2 ≤ 110 ∧ mu_k H ar2 ≠ 108, vp_in (nI k) (mu_n H ar2)]) rfl (show (mu_is H (some ar2) (mu_k H ar2)) ∧ (103 ≤ mu_k H ar2 ∧ mu_k H ar2 ≤ 110 ∧ mu_k H ar2 ≠ 108) ∧ (vp_in (nI k) (mu_n H ar2)) from ⟨b1_3, b2_3, b3_3⟩) ?_
    refine mw_fr (f' := (27, [(2, .inl (nI k)), (1, .inr (.inr (some m))), (0, .inr (.inr (some 169)))], [.inr (.inr (some p))], H)) (by first | (rw [y2_3]; done) | (rw [y2_3]; rfl)) ?_
    refine mw_go mu_g482 (k := 3) (f1 := (32, [(3, .inr (.inr (some p))), (2, .inl (nI k)), (1, .inr (.inr (some m))), (0, .inr (.inr (some 169)))], [.inr (.inr (some 1000073)), .inr (.inr (some p))], H)) (C := []) rfl trivial ?_
    refine mw_cIe (fun _ => rfl) (show mu_is H (some p) 18 from is4) (nd.isL (e := d + 2) (j := 73) yn3 (by decide)) ?_
    refine mw_if (P := (if tkd (nth y.2.2 k) = 73 then 1 else 0) = 0) (a := 48) (b := 38) (fun _ => rfl) trivial (fun hi5 => ?_) (fun hi5 => ?_)
    · -- 48
      have ek5 : ¬ tkd (nth y.2.2 k) = 73 := fun e => by rw [if_pos e] at hi5; exact absurd hi5 (by decide)
      refine mw_sub (L' := [(3, .inr (.inr (some p))), (2, .inl (nI k)), (1, .inr (.inr (some m))), (0, .inr (.inr (some 169)))]) (by simp) ?_
      exact rp_sx2 ht0 hm0 hw hk yn3 (fun hz => rp_sx3 ht0 hm0 hw m_ (k + 1) (by omega) (fun i hi => by
        by_cases e : i = k
        · rw [e]; exact ⟨fun z => absurd z ek5, hz⟩
        · exact hacc i (by omega)))
    · -- 38
      have ek5 : tkd (nth y.2.2 k) = 73 := Decidable.byContradiction (fun e => hi5 (if_neg e))
      obtain ⟨ty, yr6, yn6⟩ := ch4 0 hp2
      have yn6 : nd H F ((lv - 1) - 1) ty (tkk (nth y.2.2 k) 0) := yn6
      obtain ⟨b1_6, b2_6, b3_6, b4_6⟩ := ar_at ai4 (by decide) (Nat.lt_of_lt_of_le hp2 al4) (Nat.lt_of_le_of_lt ax4 (by decide))
      have y2_6 : mu_r H ar4 (0 : Int32).toNatClampNeg = some ty := yr6
      refine mw_go mu_g482 (k := 3) (f1 := (43, [(3, .inr (.inr (some p))), (2, .inl (nI k)), (1, .inr (.inr (some m))), (0, .inr (.inr (some 169)))], [.inr (.inr (mu_r H p 1)), .inr (.inr (some 169))], H)) (C := [mu_is H (some p) 18]) rfl (show mu_is H (some p) 18 from is4) ?_
      refine mw_fr (f' := (43, [(3, .inr (.inr (some p))), (2, .inl (nI k)), (1, .inr (.inr (some m))), (0, .inr (.inr (some 169)))], [.inr (.inr (some ar4)), .inr (.inr (some 169))], H)) (by first | (rw [aq4]; done) | (rw [aq4]; rfl)) ?_
      refine mw_go mu_g482 (k := 2) (f1 := (45, [(3, .inr (.inr (some p))), (2, .inl (nI k)), (1, .inr (.inr (some m))), (0, .inr (.inr (some 169)))], [.inr (.inr (mu_r H ar4 (0 : Int32).toNatClampNeg)), .inr (.inr (some 169))], H)) (C := [mu_is H (some ar4) (mu_k H ar4), 103 ≤ mu_k H ar4 ∧ mu_k H ar4 ≤ 110 ∧ mu_k H ar4 ≠ 108, vp_in (0 : Int32) (mu_n H ar4)]) rfl (show (mu_is H (some ar4) (mu_k H ar4)) ∧ (103 ≤ mu_k H ar4 ∧ mu_k H ar4 ≤ 110 ∧ mu_k H ar4 ≠ 108) ∧ (vp_in (0 : Int32) (mu_n H ar4)) from ⟨b1_6, b2_6, b3_6⟩) ?_
      refine mw_fr (f' := (45, [(3, .inr (.inr (some p))), (2, .inl (nI k)), (1, .inr (.inr (some m))), (0, .inr (.inr (some 169)))], [.inr (.inr (some ty)), .inr (.inr (some 169))], H)) (by first | (rw [y2_6]; done) | (rw [y2_6]; rfl)) ?_
      have hty : tyw (tkk (nth y.2.2 k) 0) := by
        rcases hp1.2 with z | z | z
        · exact z.2
        · rw [ek5] at z; exact absurd z.1 (by decide)
        · rw [ek5] at z; exact absurd z.1 (by decide)
      refine mw_cE (as := [.inr (.inr (some ty))]) (o := some 169) (S1 := []) rfl rfl rfl rfl (Nat.le_of_ble_eq_true rfl) (by decide) tx9 rfl (by decide) (rp_soundType (d := d) ht0 yn6 hty) (fun H9 e9 => Or.inl ⟨_, rfl, fun z => e9.1 ((z k hk).1 ek5), e9.2⟩) (fun v9 H9 e9 => ?_)
      obtain ⟨hsy, rfl, e9⟩ := e9
      rw [e9]
      clear e9 H9
      show mu_W _ mu_m482 (48, [(3, .inr (.inr (some p))), (2, .inl (nI k)), (1, .inr (.inr (some m))), (0, .inr (.inr (some 169)))], [], H) _
      refine mw_sub (L' := [(3, .inr (.inr (some p))), (2, .inl (nI k)), (1, .inr (.inr (some m))), (0, .inr (.inr (some 169)))]) (by simp) ?_
      exact rp_sx2 ht0 hm0 hw hk yn3 (fun hz => rp_sx3 ht0 hm0 hw m_ (k + 1) (by omega) (fun i hi => by
        by_cases e : i = k
        · rw [e]; exact ⟨fun _ => hsy, hz⟩
        · exact hacc i (by omega)))
theorem rp_soundText {T : Nat → Int32} {n dep : Nat} {t : Tok} {d lv r m : Nat} {H : mu_H} {F : Nat → Prop} {ms : List Mdl} {y : Mdl} (ht : rtx H F lv r ms) (hm : mdf H F lv m y) (hw : mdw y) (hs : pst T n t dep F H) (hz : mu_z H + 4 * (y.2.1.length + y.2.2.length) + 30 ≤ 1000000) : mu_TE 2 (mu_D (d + 6)) 482 [.inr (.inr (some 169)), .inr (.inr (some m))] H (fun H1 => ¬ mdz ms y ∧ knw (2 * (y.2.1.length + y.2.2.length) + 12) H H1) (fun v H1 => mdz ms y ∧ v = none ∧ knw (2 * (y.2.1.length + y.2.2.length) + 12) H H1) := by
  refine mu_meth (M := mu_m482) rfl rfl ?_
  refine mw_ht (mu_fn_of (show [0, 1].Nodup by decide)) ?_
  refine mw_go mu_g482 (k := 2) (f1 := (2, [(0, .inr (.inr (some 169))), (1, .inr (.inr (some m)))], [.inr (.inr (some m)), .inr (.inr (some 169))], H)) (C := []) rfl trivial ?_
  refine mw_cE (as := [.inr (.inr (some m))]) (o := some 169) (S1 := []) rfl rfl rfl rfl (Nat.le_of_ble_eq_true rfl) (by decide) hs.is rfl (by decide) (rp_different (d := d) hs hm hw hz) (fun H9 e9 => Or.inl ⟨_, rfl, fun z => e9.1 z.1, e9.2.wk (by omega)⟩) (fun v9 H2 e9 => ?_)
  obtain ⟨hdf, rfl, k2⟩ := e9
  show mu_W _ mu_m482 (5, [(0, .inr (.inr (some 169))), (1, .inr (.inr (some m)))], [], H2) _
  refine mw_go mu_g482 (k := 2) (f1 := (7, [(2, .inl (0 : Int32)), (0, .inr (.inr (some 169))), (1, .inr (.inr (some m)))], [], H2)) (C := []) rfl trivial ?_
  refine mw_sub (L' := [(2, .inl (nI 0)), (1, .inr (.inr (some m))), (0, .inr (.inr (some 169)))]) (by simp [nI]) ?_
  refine mw_imp (fun q hq => ?_) (rp_sx3 (d := d) (ht.knw k2) (hm.knw k2) hw y.2.2.length 0 (Nat.zero_add _) (fun i hi => absurd hi (Nat.not_lt_zero _)))
  rcases hq with ⟨H4, e1, e2, e3⟩ | ⟨v, H4, e1, e2, e3, e4⟩
  · exact Or.inl ⟨H4, e1, fun z => e2 z.2, by rw [e3]; exact (k2.tr knw.ex).wk (by omega)⟩
  · exact Or.inr ⟨v, H4, e1, ⟨hdf, e2⟩, e3, by rw [e4]; exact k2.wk (by omega)⟩
