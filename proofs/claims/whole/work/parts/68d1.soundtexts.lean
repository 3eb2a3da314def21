/-! The reference: soundTexts -/
/-- PathProverModel.soundTexts()V -/
abbrev mu_m456 : ev_M := (3, none, [], ev_b456)
theorem mu_g456 : mu_good mu_m456 := mu_goodk ev_k456
/-- what the first k MODULEs cost -/
def mks (ms : List Mdl) : Nat → Nat
  | 0 => 0
  | k + 1 => mks ms k + (2 * ((mth ms k).2.1.length + (mth ms k).2.2.length) + 12)
theorem mks_le {ms : List Mdl} : ∀ k, k ≤ ms.length → mks ms k ≤ 12 * msz (ms.take k)
  | 0, _ => Nat.zero_le _
  | k + 1, h => by
    have h1 : mks ms k ≤ 12 * msz (ms.take k) := mks_le k (by omega)
    have hk : k < ms.length := by omega
    rw [mks, List.take_succ, List.getElem?_eq_getElem hk]
    show _ ≤ 12 * msz (ms.take k ++ [ms[k]])
    rw [msz_ap, show mth ms k = ms[k] by simp [mth, List.getD_eq_getElem?_getD, List.getElem?_eq_getElem hk]]
    omega
theorem mks_all {ms : List Mdl} : mks ms ms.length ≤ 12 * msz ms := by
  have := mks_le (ms := ms) ms.length (Nat.le_refl _)
  rw [List.take_length] at this
  exact this
theorem mks_mono {ms : List Mdl} {k : Nat} : ∀ m, mks ms k ≤ mks ms (k + m)
  | 0 => Nat.le_refl _
  | m + 1 => by
    have := mks_mono (ms := ms) (k := k) m
    show _ ≤ mks ms (k + m + 1)
    rw [mks]
    omega
/-- a text that is sound -/
def sdt (ms : List Mdl) : Prop := (∀ k, k < ms.length → ∀ j, j < k → ¬ (mth ms j).1 = (mth ms k).1) ∧ (∀ k, k < ms.length → mdz ms (mth ms k)) ∧ (∃ i, mtx ms (txt 78) = some i ∧ (mth ms i).2.1.length = 0) ∧ ncz ms
theorem rp_sd1 {d lv r : Nat} {H : mu_H} {F : Nat → Prop} {ms : List Mdl} (ht : rtx H F lv r ms) {Φ : mu_R → Prop} (hthr : (∃ k, k < ms.length ∧ ∃ j, j < k ∧ (mth ms j).1 = (mth ms k).1) → Φ (.inr 2, mu_ex H)) {k : Nat} (hk : k < ms.length) (hfin : (∀ i, i < k → ¬ (mth ms i).1 = (mth ms k).1) → mu_W (mu_D (d + 6)) mu_m456 (2, [(1, .inl (nI (k + 1))), (0, .inr (.inr (some 169)))], [], H) Φ) : ∀ m_ j, j + m_ = k → (∀ i, i < j → ¬ (mth ms i).1 = (mth ms k).1) → mu_W (mu_D (d + 6)) mu_m456 (12, [(2, .inl (nI j)), (1, .inl (nI k)), (0, .inr (.inr (some 169)))], [], H) Φ
  | 0, j, hm_, hacc => by
    have ht0 := ht
    obtain ⟨tx14, tx_is, tx_n, tx15, tx_m, tx9⟩ := ht
    refine mw_go mu_g456 (k := 2) (f1 := (14, [(2, .inl (nI j)), (1, .inl (nI k)), (0, .inr (.inr (some 169)))], [.inl (nI k), .inl (nI j)], H)) (C := []) rfl trivial ?_
    refine mw_if (P := (nI j) < (nI k)) (a := 17) (b := 56) (fun _ => rfl) trivial (fun h1 => absurd h1 (by rw [show j = k by omega]; exact Int32.lt_irrefl)) (fun h1 => ?_)
    refine mw_go mu_g456 (k := 2) (f1 := (2, [(1, .inl ((nI k) + 1)), (2, .inl (nI j)), (0, .inr (.inr (some 169)))], [], H)) (C := []) rfl trivial ?_
    refine mw_sub (L' := [(1, .inl (nI (k + 1))), (0, .inr (.inr (some 169)))]) (by intro x hx; simp only [List.mem_cons, List.not_mem_nil, or_false] at hx ⊢; rcases hx with rfl | rfl <;> simp [nI_add, show (1 : Int32) = nI 1 from rfl]) ?_
    exact hfin (fun i hi => hacc i (by omega))
  | m_ + 1, j, hm_, hacc => by
    have ht0 := ht
    obtain ⟨tx14, tx_is, tx_n, tx15, tx_m, tx9⟩ := ht
    have hj : j < k := by omega
    have hjn : j < ms.length := by omega
    refine mw_go mu_g456 (k := 2) (f1 := (14, [(2, .inl (nI j)), (1, .inl (nI k)), (0, .inr (.inr (some 169)))], [.inl (nI k), .inl (nI j)], H)) (C := []) rfl trivial ?_
    refine mw_if (P := (nI j) < (nI k)) (a := 17) (b := 56) (fun _ => rfl) trivial (fun h1 => ?_) (fun h1 => absurd (nI_lt hj (by omega)) h1)
    obtain ⟨mj, mr1, md1⟩ := tx_m j hjn
    obtain ⟨d1_1, d2_1, d3_1, d4_1⟩ := ar_at (i := j) tx_is (by decide) (Nat.lt_of_lt_of_le hjn tx_n.1) tx_n.2
    have mx1 : mu_r H r (nI j).toNatClampNeg = some mj := by rw [d4_1]; exact mr1
    obtain ⟨mi2, ⟨mw2, mr0_2, ms2⟩, ⟨mp2, mr1_2, mpn2⟩, mq2, mr2_2, mqn2⟩ := mdf.rd (y := (mth ms j)) md1
    obtain ⟨mk, mr3, md3⟩ := tx_m k hk
    obtain ⟨d1_3, d2_3, d3_3, d4_3⟩ := ar_at (i := k) tx_is (by decide) (Nat.lt_of_lt_of_le hk tx_n.1) tx_n.2
    have mx3 : mu_r H r (nI k).toNatClampNeg = some mk := by rw [d4_3]; exact mr3
    obtain ⟨mi4, ⟨mw4, mr0_4, ms4⟩, ⟨mp4, mr1_4, mpn4⟩, mq4, mr2_4, mqn4⟩ := mdf.rd (y := (mth ms k)) md3
    refine mw_go mu_g456 (k := 3) (f1 := (22, [(2, .inl (nI j)), (1, .inl (nI k)), (0, .inr (.inr (some 169)))], [.inr (.inr (mu_r H 169 14)), .inr (.inr (some 169))], H)) (C := [mu_is H (some 169) 1]) rfl (show mu_is H (some 169) 1 from tx9) ?_
    refine mw_fr (f' := (22, [(2, .inl (nI j)), (1, .inl (nI k)), (0, .inr (.inr (some 169)))], [.inr (.inr (some r)), .inr (.inr (some 169))], H)) (by first | (rw [tx14]; done) | (rw [tx14]; rfl)) ?_
    refine mw_go mu_g456 (k := 2) (f1 := (24, [(2, .inl (nI j)), (1, .inl (nI k)), (0, .inr (.inr (some 169)))], [.inr (.inr (mu_r H r (nI j).toNatClampNeg)), .inr (.inr (some 169))], H)) (C := [mu_is H (some r) (mu_k H r), 103 ≤ mu_k H r ∧ mu_k H r ≤ 110 ∧ mu_k H r ≠ 108, vp_in (nI j) (mu_n H r)]) rfl (show (mu_is H (some r) (mu_k H r)) ∧ (103 ≤ mu_k H r ∧ mu_k H r ≤ 110 ∧ mu_k H r ≠ 108) ∧ (vp_in (nI j) (mu_n H r)) from ⟨d1_3, d2_3, d3_1⟩) ?_
    refine mw_fr (f' := (24, [(2, .inl (nI j)), (1, .inl (nI k)), (0, .inr (.inr (some 169)))], [.inr (.inr (some mj)), .inr (.inr (some 169))], H)) (by first | (rw [mx1]; done) | (rw [mx1]; rfl)) ?_
    refine mw_go mu_g456 (k := 1) (f1 := (27, [(2, .inl (nI j)), (1, .inl (nI k)), (0, .inr (.inr (some 169)))], [.inr (.inr (mu_r H mj 0)), .inr (.inr (some 169))], H)) (C := [mu_is H (some mj) 17]) rfl (show mu_is H (some mj) 17 from mi2) ?_
    refine mw_fr (f' := (27, [(2, .inl (nI j)), (1, .inl (nI k)), (0, .inr (.inr (some 169)))], [.inr (.inr (some mw2)), .inr (.inr (some 169))], H)) (by first | (rw [mr0_2]; done) | (rw [mr0_2]; rfl)) ?_
    refine mw_go mu_g456 (k := 2) (f1 := (31, [(2, .inl (nI j)), (1, .inl (nI k)), (0, .inr (.inr (some 169)))], [.inr (.inr (mu_r H 169 14)), .inr (.inr (some mw2)), .inr (.inr (some 169))], H)) (C := [mu_is H (some 169) 1]) rfl (show mu_is H (some 169) 1 from tx9) ?_
    refine mw_fr (f' := (31, [(2, .inl (nI j)), (1, .inl (nI k)), (0, .inr (.inr (some 169)))], [.inr (.inr (some r)), .inr (.inr (some mw2)), .inr (.inr (some 169))], H)) (by first | (rw [tx14]; done) | (rw [tx14]; rfl)) ?_
    refine mw_go mu_g456 (k := 2) (f1 := (33, [(2, .inl (nI j)), (1, .inl (nI k)), (0, .inr (.inr (some 169)))], [.inr (.inr (mu_r H r (nI k).toNatClampNeg)), .inr (.inr (some mw2)), .inr (.inr (some 169))], H)) (C := [mu_is H (some r) (mu_k H r), 103 ≤ mu_k H r ∧ mu_k H r ≤ 110 ∧ mu_k H r ≠ 108, vp_in (nI k) (mu_n H r)]) rfl (show (mu_is H (some r) (mu_k H r)) ∧ (103 ≤ mu_k H r ∧ mu_k H r ≤ 110 ∧ mu_k H r ≠ 108) ∧ (vp_in (nI k) (mu_n H r)) from ⟨d1_3, d2_3, d3_3⟩) ?_
    refine mw_fr (f' := (33, [(2, .inl (nI j)), (1, .inl (nI k)), (0, .inr (.inr (some 169)))], [.inr (.inr (some mk)), .inr (.inr (some mw2)), .inr (.inr (some 169))], H)) (by first | (rw [mx3]; done) | (rw [mx3]; rfl)) ?_
    refine mw_go mu_g456 (k := 1) (f1 := (36, [(2, .inl (nI j)), (1, .inl (nI k)), (0, .inr (.inr (some 169)))], [.inr (.inr (mu_r H mk 0)), .inr (.inr (some mw2)), .inr (.inr (some 169))], H)) (C := [mu_is H (some mk) 17]) rfl (show mu_is H (some mk) 17 from mi4) ?_
    refine mw_fr (f' := (36, [(2, .inl (nI j)), (1, .inl (nI k)), (0, .inr (.inr (some 169)))], [.inr (.inr (some mw4)), .inr (.inr (some mw2)), .inr (.inr (some 169))], H)) (by first | (rw [mr0_4]; done) | (rw [mr0_4]; rfl)) ?_
    refine mw_cS rfl (by decide) ms2.1.1 (sb_equals (d := _) ms2.1 ms4.1 (Nat.lt_trans ms2.2.2 (by decide)) (Nat.lt_trans ms4.2.2 (by decide))) (fun x9 H9 q9 => ?_)
    rw [q9.1, q9.2]
    clear q9 H9 x9
    show mu_W _ mu_m456 (39, [(2, .inl (nI j)), (1, .inl (nI k)), (0, .inr (.inr (some 169)))], [.inl (if (mth ms j).1 = (mth ms k).1 then 1 else 0), .inr (.inr (some 169))], H) _
    refine mw_if (P := (if (mth ms j).1 = (mth ms k).1 then 1 else 0) = 0) (a := 42) (b := 46) (fun _ => rfl) trivial (fun hi5 => ?_) (fun hi5 => ?_)
    · -- 42
      have ek5 : ¬ (mth ms j).1 = (mth ms k).1 := fun e => by rw [if_pos e] at hi5; exact absurd hi5 (by decide)
      refine mw_go mu_g456 (k := 2) (f1 := (47, [(2, .inl (nI j)), (1, .inl (nI k)), (0, .inr (.inr (some 169)))], [.inl (1 : Int32), .inr (.inr (some 169))], H)) (C := []) rfl trivial ?_
      refine mw_cE (as := [.inl (1 : Int32)]) (o := some 169) (S1 := []) rfl rfl rfl rfl (Nat.le_of_ble_eq_true rfl) (by decide) tx9 rfl (by decide) (rp_sound (x := 1)) (fun H9 e9 => absurd e9.1 (by decide)) (fun v9 H9 e9 => ?_)
      obtain ⟨_, rfl, e9⟩ := e9
      rw [e9]
      clear e9 H9
      show mu_W _ mu_m456 (50, [(2, .inl (nI j)), (1, .inl (nI k)), (0, .inr (.inr (some 169)))], [], H) _
      refine mw_go mu_g456 (k := 2) (f1 := (12, [(2, .inl ((nI j) + 1)), (1, .inl (nI k)), (0, .inr (.inr (some 169)))], [], H)) (C := []) rfl trivial ?_
      refine mw_sub (L' := [(2, .inl (nI (j + 1))), (1, .inl (nI k)), (0, .inr (.inr (some 169)))]) (by intro x hx; simp only [List.mem_cons, List.not_mem_nil, or_false] at hx ⊢; rcases hx with rfl | rfl | rfl <;> simp [nI_add, show (1 : Int32) = nI 1 from rfl]) ?_
      exact rp_sd1 ht0 hthr hk hfin m_ (j + 1) (by omega) (fun i hi => by
        by_cases e : i = j
        · rw [e]; exact ek5
        · exact hacc i (by omega))
    · -- 46
      have ek5 : (mth ms j).1 = (mth ms k).1 := Decidable.byContradiction (fun e => hi5 (if_neg e))
      refine mw_go mu_g456 (k := 1) (f1 := (47, [(2, .inl (nI j)), (1, .inl (nI k)), (0, .inr (.inr (some 169)))], [.inl (0 : Int32), .inr (.inr (some 169))], H)) (C := []) rfl trivial ?_
      exact mw_cE (as := [.inl (0 : Int32)]) (o := some 169) (S1 := []) rfl rfl rfl rfl (Nat.le_of_ble_eq_true rfl) (by decide) tx9 rfl (by decide) (rp_sound (x := 0)) (fun H9 e9 => by rw [e9.2]; exact hthr (⟨k, hk, j, hj, ek5⟩)) (fun v9 H9 e9 => absurd rfl e9.1)
theorem rp_sd2 {d lv r : Nat} {H : mu_H} {F : Nat → Prop} {ms : List Mdl} (ht : rtx H F lv r ms) {Φ : mu_R → Prop} (hthr : (∃ k, k < ms.length ∧ ∃ j, j < k ∧ (mth ms j).1 = (mth ms k).1) → Φ (.inr 2, mu_ex H)) (hfin : (∀ k, k < ms.length → ∀ j, j < k → ¬ (mth ms j).1 = (mth ms k).1) → mu_W (mu_D (d + 6)) mu_m456 (62, [(0, .inr (.inr (some 169)))], [], H) Φ) : ∀ m_ k, k + m_ = ms.length → (∀ i, i < k → ∀ j, j < i → ¬ (mth ms j).1 = (mth ms i).1) → mu_W (mu_D (d + 6)) mu_m456 (2, [(1, .inl (nI k)), (0, .inr (.inr (some 169)))], [], H) Φ
  | 0, k, hm_, hacc => by
    have ht0 := ht
    obtain ⟨tx14, tx_is, tx_n, tx15, tx_m, tx9⟩ := ht
    refine mw_go mu_g456 (k := 3) (f1 := (7, [(1, .inl (nI k)), (0, .inr (.inr (some 169)))], [.inl (mu_i H 169 15), .inl (nI k)], H)) (C := [mu_is H (some 169) 1]) rfl (show mu_is H (some 169) 1 from tx9) ?_
    refine mw_fr (f' := (7, [(1, .inl (nI k)), (0, .inr (.inr (some 169)))], [.inl (nI ms.length), .inl (nI k)], H)) (by first | (rw [tx15]; done) | (rw [tx15]; rfl)) ?_
    refine mw_if (P := (nI k) < (nI ms.length)) (a := 10) (b := 62) (fun _ => rfl) trivial (fun h1 => absurd h1 (by rw [show k = ms.length by omega]; exact Int32.lt_irrefl)) (fun h1 => ?_)
    refine mw_sub (L' := [(0, .inr (.inr (some 169)))]) (by simp) ?_
    exact hfin (fun i hi => hacc i (by omega))
  | m_ + 1, k, hm_, hacc => by
    have ht0 := ht
    obtain ⟨tx14, tx_is, tx_n, tx15, tx_m, tx9⟩ := ht
    have hk : k < ms.length := by omega
    refine mw_go mu_g456 (k := 3) (f1 := (7, [(1, .inl (nI k)), (0, .inr (.inr (some 169)))], [.inl (mu_i H 169 15), .inl (nI k)], H)) (C := [mu_is H (some 169) 1]) rfl (show mu_is H (some 169) 1 from tx9) ?_
    refine mw_fr (f' := (7, [(1, .inl (nI k)), (0, .inr (.inr (some 169)))], [.inl (nI ms.length), .inl (nI k)], H)) (by first | (rw [tx15]; done) | (rw [tx15]; rfl)) ?_
    refine mw_if (P := (nI k) < (nI ms.length)) (a := 10) (b := 62) (fun _ => rfl) trivial (fun h1 => ?_) (fun h1 => absurd (nI_lt hk (by omega)) h1)
    refine mw_go mu_g456 (k := 2) (f1 := (12, [(2, .inl (0 : Int32)), (1, .inl (nI k)), (0, .inr (.inr (some 169)))], [], H)) (C := []) rfl trivial ?_
    refine mw_sub (L' := [(2, .inl (nI 0)), (1, .inl (nI k)), (0, .inr (.inr (some 169)))]) (by intro x hx; simp only [List.mem_cons, List.not_mem_nil, or_false] at hx ⊢; rcases hx with rfl | rfl | rfl <;> simp [nI]) ?_
    exact rp_sd1 ht0 hthr hk (fun hall => rp_sd2 ht0 hthr hfin m_ (k + 1) (by omega) (fun i hi => by
      by_cases e : i = k
      · rw [e]; exact hall
      · exact hacc i (by omega))) k 0 (by omega) (fun i hi => absurd hi (Nat.not_lt_zero _))
theorem rp_sd3 {T : Nat → Int32} {n dep d lv r : Nat} {t : Tok} {H0 : mu_H} {F : Nat → Prop} {ms : List Mdl} (hs0 : pst T n t dep F H0) (ht0 : rtx H0 F lv r ms) (hw : alm ms) (hz : mu_z H0 + 26 * msz ms + 100 ≤ 1000000) {Φ : mu_R → Prop} (hthr : ∀ H1, (∃ k, k < ms.length ∧ ¬ mdz ms (mth ms k)) → knw (12 * msz ms + 1) H0 H1 → Φ (.inr 2, H1)) (hfin : ∀ H, (∀ k, k < ms.length → mdz ms (mth ms k)) → knw (12 * msz ms) H0 H → mu_W (mu_D (d + 6)) mu_m456 (88, [(0, .inr (.inr (some 169)))], [], H) Φ) : ∀ m_ k H, k + m_ = ms.length → knw (mks ms k) H0 H → (∀ i, i < k → mdz ms (mth ms i)) → mu_W (mu_D (d + 6)) mu_m456 (64, [(1, .inl (nI k)), (0, .inr (.inr (some 169)))], [], H) Φ
  | 0, k, H, hm_, hk, hacc => by
    have ht := ht0.knw hk
    have ht1 := ht
    have hs := hs0.kp hk (fun _ z => z.elim)
    have hal := mks_all (ms := ms)
    obtain ⟨tx14, tx_is, tx_n, tx15, tx_m, tx9⟩ := ht
    refine mw_go mu_g456 (k := 3) (f1 := (69, [(1, .inl (nI k)), (0, .inr (.inr (some 169)))], [.inl (mu_i H 169 15), .inl (nI k)], H)) (C := [mu_is H (some 169) 1]) rfl (show mu_is H (some 169) 1 from tx9) ?_
    refine mw_fr (f' := (69, [(1, .inl (nI k)), (0, .inr (.inr (some 169)))], [.inl (nI ms.length), .inl (nI k)], H)) (by first | (rw [tx15]; done) | (rw [tx15]; rfl)) ?_
    refine mw_if (P := (nI k) < (nI ms.length)) (a := 72) (b := 88) (fun _ => rfl) trivial (fun h1 => absurd h1 (by rw [show k = ms.length by omega]; exact Int32.lt_irrefl)) (fun h1 => ?_)
    refine mw_sub (L' := [(0, .inr (.inr (some 169)))]) (by simp) ?_
    exact hfin H (fun i hi => hacc i (by omega)) (hk.wk (by rw [show k = ms.length by omega]; exact hal))
  | m_ + 1, k, H, hm_, hk, hacc => by
    have ht := ht0.knw hk
    have ht1 := ht
    have hs := hs0.kp hk (fun _ z => z.elim)
    have hal := mks_all (ms := ms)
    obtain ⟨tx14, tx_is, tx_n, tx15, tx_m, tx9⟩ := ht
    have hkn : k < ms.length := by omega
    have hmm : mks ms (k + 1) ≤ mks ms ms.length := by rw [show ms.length = k + 1 + m_ by omega]; exact mks_mono m_
    rw [mks] at hmm
    have hzk := hk.2.2.1.1
    refine mw_go mu_g456 (k := 3) (f1 := (69, [(1, .inl (nI k)), (0, .inr (.inr (some 169)))], [.inl (mu_i H 169 15), .inl (nI k)], H)) (C := [mu_is H (some 169) 1]) rfl (show mu_is H (some 169) 1 from tx9) ?_
    refine mw_fr (f' := (69, [(1, .inl (nI k)), (0, .inr (.inr (some 169)))], [.inl (nI ms.length), .inl (nI k)], H)) (by first | (rw [tx15]; done) | (rw [tx15]; rfl)) ?_
    refine mw_if (P := (nI k) < (nI ms.length)) (a := 72) (b := 88) (fun _ => rfl) trivial (fun h1 => ?_) (fun h1 => absurd (nI_lt hkn (by omega)) h1)
    obtain ⟨mk, mr1, md1⟩ := tx_m k hkn
    obtain ⟨d1_1, d2_1, d3_1, d4_1⟩ := ar_at (i := k) tx_is (by decide) (Nat.lt_of_lt_of_le hkn tx_n.1) tx_n.2
    have mx1 : mu_r H r (nI k).toNatClampNeg = some mk := by rw [d4_1]; exact mr1
    refine mw_go mu_g456 (k := 3) (f1 := (77, [(1, .inl (nI k)), (0, .inr (.inr (some 169)))], [.inr (.inr (mu_r H 169 14)), .inr (.inr (some 169))], H)) (C := [mu_is H (some 169) 1]) rfl (show mu_is H (some 169) 1 from tx9) ?_
    refine mw_fr (f' := (77, [(1, .inl (nI k)), (0, .inr (.inr (some 169)))], [.inr (.inr (some r)), .inr (.inr (some 169))], H)) (by first | (rw [tx14]; done) | (rw [tx14]; rfl)) ?_
    refine mw_go mu_g456 (k := 2) (f1 := (79, [(1, .inl (nI k)), (0, .inr (.inr (some 169)))], [.inr (.inr (mu_r H r (nI k).toNatClampNeg)), .inr (.inr (some 169))], H)) (C := [mu_is H (some r) (mu_k H r), 103 ≤ mu_k H r ∧ mu_k H r ≤ 110 ∧ mu_k H r ≠ 108, vp_in (nI k) (mu_n H r)]) rfl (show (mu_is H (some r) (mu_k H r)) ∧ (103 ≤ mu_k H r ∧ mu_k H r ≤ 110 ∧ mu_k H r ≠ 108) ∧ (vp_in (nI k) (mu_n H r)) from ⟨d1_1, d2_1, d3_1⟩) ?_
    refine mw_fr (f' := (79, [(1, .inl (nI k)), (0, .inr (.inr (some 169)))], [.inr (.inr (some mk)), .inr (.inr (some 169))], H)) (by first | (rw [mx1]; done) | (rw [mx1]; rfl)) ?_
    refine mw_cE (as := [.inr (.inr (some mk))]) (o := some 169) (S1 := []) rfl rfl rfl rfl (Nat.le_of_ble_eq_true rfl) (by decide) tx9 rfl (by decide) (rp_soundText (d := d) (y := mth ms k) ht1 md1 (hw k hkn) hs (by omega)) (fun H9 e9 => hthr H9 ⟨k, hkn, e9.1⟩ ((hk.tr e9.2).wk (by omega))) (fun v9 H2 e9 => ?_)
    obtain ⟨hmd, rfl, k2⟩ := e9
    show mu_W _ mu_m456 (82, [(1, .inl (nI k)), (0, .inr (.inr (some 169)))], [], H2) _
    refine mw_go mu_g456 (k := 2) (f1 := (64, [(1, .inl ((nI k) + 1)), (0, .inr (.inr (some 169)))], [], H2)) (C := []) rfl trivial ?_
    refine mw_sub (L' := [(1, .inl (nI (k + 1))), (0, .inr (.inr (some 169)))]) (by intro x hx; simp only [List.mem_cons, List.not_mem_nil, or_false] at hx ⊢; rcases hx with rfl | rfl <;> simp [nI_add, show (1 : Int32) = nI 1 from rfl]) ?_
    exact rp_sd3 hs0 ht0 hw hz hthr hfin m_ (k + 1) H2 (by omega) (hk.tr k2) (fun i hi => by
      by_cases e : i = k
      · rw [e]; exact hmd
      · exact hacc i (by omega))
theorem rp_sd4 {T : Nat → Int32} {n dep d lv r : Nat} {t : Tok} {H H0 : mu_H} {F : Nat → Prop} {ms : List Mdl} (hs0 : pst T n t dep F H0) (ht0 : rtx H0 F lv r ms) (hw : alm ms) (hl0 : stf H0 F (1000000 + 78) (txt 78)) (hz : mu_z H0 + 26 * msz ms + 100 ≤ 1000000) (hml : ms.length ≤ msz ms) (hnm : ∀ k, k < ms.length → ∀ j, j < k → ¬ (mth ms j).1 = (mth ms k).1) (hmd : ∀ k, k < ms.length → mdz ms (mth ms k)) (hk : knw (12 * msz ms) H0 H) : mu_W (mu_D (d + 6)) mu_m456 (88, [(0, .inr (.inr (some 169)))], [], H) (fun r => (∃ H1, r = (.inr 2, H1) ∧ ¬ sdt ms ∧ knw (13 * msz ms + 20) H0 H1) ∨ ∃ v H1, r = (.inl v, H1) ∧ sdt ms ∧ v = none ∧ knw (13 * msz ms + 20) H0 H1) := by
  have ht := ht0.knw hk
  have ht1 := ht
  have hs := hs0.kp hk (fun _ z => z.elim)
  have hl78 := hl0.kp hk (fun _ z => z.elim)
  have hzk := hk.2.2.1.1
  obtain ⟨tx14, tx_is, tx_n, tx15, tx_m, tx9⟩ := ht
  refine mw_go mu_g456 (k := 3) (f1 := (93, [(0, .inr (.inr (some 169)))], [.inr (.inr (some 1000078)), .inr (.inr (some 169)), .inr (.inr (some 169))], H)) (C := []) rfl trivial ?_
  refine mw_cA (fun _ => rfl) (show mu_is H (some 169) 1 from tx9) (rp_text (d := d + 3) ht1 hl78) (fun x9 H9 q9 => ?_)
  rw [q9.1, q9.2]
  clear q9 x9 H9
  show mu_W _ mu_m456 (96, [(0, .inr (.inr (some 169)))], [.inr (.inr ((mtx ms (txt 78)).bind (fun i => mu_r H r i))), .inr (.inr (some 169))], H) _
  cases hmt : mtx ms (txt 78) with
  | none =>
    show mu_W _ mu_m456 (96, [(0, .inr (.inr (some 169)))], [.inr (.inr none), .inr (.inr (some 169))], H) _
    refine mw_if (P := none = none) (a := 119) (b := 99) (fun _ => rfl) (show none ≠ some 3000000 from fun z => by cases z) (fun h3 => ?_) (fun h3 => absurd rfl h3)
    refine mw_go mu_g456 (k := 1) (f1 := (120, [(0, .inr (.inr (some 169)))], [.inl (0 : Int32), .inr (.inr (some 169))], H)) (C := []) rfl trivial ?_
    exact mw_cE (as := [.inl (0 : Int32)]) (o := some 169) (S1 := []) rfl rfl rfl rfl (Nat.le_of_ble_eq_true rfl) (by decide) tx9 rfl (by decide) (rp_sound (x := 0)) (fun H9 e9 => by rw [e9.2]; exact Or.inl ⟨_, rfl, (fun z => by obtain ⟨i, hi, _⟩ := z.2.2.1; rw [hmt] at hi; cases hi), (hk.tr knw.ex).wk (by omega)⟩) (fun v9 H9 e9 => absurd rfl e9.1)
  | some i =>
    have hi : i < ms.length := by have := (fio_some _ _ _ hmt).2.2.1; omega
    obtain ⟨mi, mr1, md1⟩ := tx_m i hi
    obtain ⟨d1_1, d2_1, d3_1, d4_1⟩ := ar_at (i := i) tx_is (by decide) (Nat.lt_of_lt_of_le hi tx_n.1) tx_n.2
    have mx1 : mu_r H r (nI i).toNatClampNeg = some mi := by rw [d4_1]; exact mr1
    obtain ⟨mi2, ⟨mw2, mr0_2, ms2⟩, ⟨mp2, mr1_2, mpn2⟩, mq2, mr2_2, mqn2⟩ := mdf.rd (y := (mth ms i)) md1
    obtain ⟨kd3, ⟨is3, nF3, lt3⟩, ⟨st3, sr3, sf3⟩, ⟨n2_3, n3_3, n7_3⟩, nm3, ar3, aq3, aF3, ai3, ⟨al3, am3, ax3⟩, ch3, dp3⟩ := nd.rd (c := (tmk 62 0 [] (mth ms i).2.1)) mpn2
    have hl26 : (mth ms i).2.1.length ≤ 2 ^ 21 := Nat.le_trans al3 ax3
    have hbi : (Option.bind (some i) (fun i => mu_r H r i)) = some mi := mr1
    rw [hbi]
    show mu_W _ mu_m456 (96, [(0, .inr (.inr (some 169)))], [.inr (.inr (some mi)), .inr (.inr (some 169))], H) _
    refine mw_if (P := (some mi) = none) (a := 119) (b := 99) (fun _ => rfl) (show some mi ≠ some 3000000 from fun z => by have := md1.lt; cases z; omega) (fun h3 => by cases h3) (fun h3 => ?_)
    refine mw_go mu_g456 (k := 2) (f1 := (103, [(0, .inr (.inr (some 169)))], [.inr (.inr (some 1000078)), .inr (.inr (some 169)), .inr (.inr (some 169))], H)) (C := []) rfl trivial ?_
    refine mw_cA (fun _ => rfl) (show mu_is H (some 169) 1 from tx9) (rp_text (d := d + 3) ht1 hl78) (fun x9 H9 q9 => ?_)
    rw [q9.1, q9.2]
    clear q9 x9 H9
    show mu_W _ mu_m456 (106, [(0, .inr (.inr (some 169)))], [.inr (.inr ((mtx ms (txt 78)).bind (fun i => mu_r H r i))), .inr (.inr (some 169))], H) _
    rw [hmt, hbi]
    show mu_W _ mu_m456 (106, [(0, .inr (.inr (some 169)))], [.inr (.inr (some mi)), .inr (.inr (some 169))], H) _
    refine mw_go mu_g456 (k := 1) (f1 := (109, [(0, .inr (.inr (some 169)))], [.inr (.inr (mu_r H mi 1)), .inr (.inr (some 169))], H)) (C := [mu_is H (some mi) 17]) rfl (show mu_is H (some mi) 17 from mi2) ?_
    refine mw_fr (f' := (109, [(0, .inr (.inr (some 169)))], [.inr (.inr (some mp2)), .inr (.inr (some 169))], H)) (by first | (rw [mr1_2]; done) | (rw [mr1_2]; rfl)) ?_
    refine mw_go mu_g456 (k := 1) (f1 := (112, [(0, .inr (.inr (some 169)))], [.inl (mu_i H mp2 2), .inr (.inr (some 169))], H)) (C := [mu_is H (some mp2) 18]) rfl (show mu_is H (some mp2) 18 from is3) ?_
    refine mw_fr (f' := (112, [(0, .inr (.inr (some 169)))], [.inl (nI (mth ms i).2.1.length), .inr (.inr (some 169))], H)) (by first | (rw [n2_3]; done) | (rw [n2_3]; rfl)) ?_
    refine mw_if (P := (nI (mth ms i).2.1.length) = 0) (a := 115) (b := 119) (fun _ => rfl) trivial (fun h4 => ?_) (fun h4 => ?_)
    · -- 115
      have h0 : (mth ms i).2.1.length = 0 := rI_inj (b := 0) (by omega) (by omega) h4
      refine mw_go mu_g456 (k := 2) (f1 := (120, [(0, .inr (.inr (some 169)))], [.inl (1 : Int32), .inr (.inr (some 169))], H)) (C := []) rfl trivial ?_
      refine mw_cE (as := [.inl (1 : Int32)]) (o := some 169) (S1 := []) rfl rfl rfl rfl (Nat.le_of_ble_eq_true rfl) (by decide) tx9 rfl (by decide) (rp_sound (x := 1)) (fun H9 e9 => absurd e9.1 (by decide)) (fun v9 H9 e9 => ?_)
      obtain ⟨_, rfl, e9⟩ := e9
      rw [e9]
      clear e9 H9
      show mu_W _ mu_m456 (123, [(0, .inr (.inr (some 169)))], [], H) _
      refine mw_go mu_g456 (k := 1) (f1 := (124, [(0, .inr (.inr (some 169)))], [.inr (.inr (some 169))], H)) (C := []) rfl trivial ?_
      refine mw_cE (as := []) (o := some 169) (S1 := []) rfl rfl rfl rfl (Nat.le_of_ble_eq_true rfl) (by decide) tx9 rfl (by decide) (rp_noCycle (d := d + 1) ht1 hw (fun p hp => (hs.fz p hp).2.1.1) ⟨by omega, hs.1.1⟩ (by omega)) (fun H9 e9 => Or.inl ⟨_, rfl, fun z => e9.1 z.2.2.2, (hk.tr e9.2).wk (by omega)⟩) (fun v9 H2 e9 => ?_)
      obtain ⟨hnc, rfl, k2⟩ := e9
      show mu_W _ mu_m456 (127, [(0, .inr (.inr (some 169)))], [], H2) _
      exact mw_of (fun _ => mu_ret rfl trivial (Or.inr ⟨_, _, rfl, ⟨hnm, hmd, ⟨i, hmt, h0⟩, hnc⟩, rfl, (hk.tr k2).wk (by omega)⟩))
    · -- 119
      refine mw_go mu_g456 (k := 1) (f1 := (120, [(0, .inr (.inr (some 169)))], [.inl (0 : Int32), .inr (.inr (some 169))], H)) (C := []) rfl trivial ?_
      exact mw_cE (as := [.inl (0 : Int32)]) (o := some 169) (S1 := []) rfl rfl rfl rfl (Nat.le_of_ble_eq_true rfl) (by decide) tx9 rfl (by decide) (rp_sound (x := 0)) (fun H9 e9 => by rw [e9.2]; exact Or.inl ⟨_, rfl, (fun z => by obtain ⟨i2, hi2, hl2⟩ := z.2.2.1; rw [hmt] at hi2; cases hi2; exact h4 (by rw [hl2]; rfl)), (hk.tr knw.ex).wk (by omega)⟩) (fun v9 H9 e9 => absurd rfl e9.1)
theorem rp_soundTexts {T : Nat → Int32} {n dep d lv r : Nat} {t : Tok} {H0 : mu_H} {F : Nat → Prop} {ms : List Mdl} (hs0 : pst T n t dep F H0) (ht0 : rtx H0 F lv r ms) (hw : alm ms) (hz : mu_z H0 + 26 * msz ms + 100 ≤ 1000000) (hml : ms.length ≤ msz ms) : mu_TE 2 (mu_D (d + 7)) 456 [.inr (.inr (some 169))] H0 (fun H1 => ¬ sdt ms ∧ knw (13 * msz ms + 20) H0 H1) (fun v H1 => sdt ms ∧ v = none ∧ knw (13 * msz ms + 20) H0 H1) := by
  refine mu_MT.ot fun hot => ?_
  have hl0 : stf H0 F (1000000 + 78) (txt 78) := stf.lit hot (by decide)
  refine mu_meth (M := mu_m456) rfl rfl ?_
  refine mw_ht (mu_fn_of (show [0].Nodup by decide)) ?_
  refine mw_go mu_g456 (k := 2) (f1 := (2, [(1, .inl (0 : Int32)), (0, .inr (.inr (some 169)))], [], H0)) (C := []) rfl trivial ?_
  refine mw_sub (L' := [(1, .inl (nI 0)), (0, .inr (.inr (some 169)))]) (by simp [nI]) ?_
  refine rp_sd2 (d := d) ht0 (fun z => ?_) (fun hnm => ?_) ms.length 0 (Nat.zero_add _) (fun i hi => absurd hi (Nat.not_lt_zero _))
  · obtain ⟨k, hk, j, hj, e⟩ := z
    exact Or.inl ⟨_, rfl, (fun z => z.1 k hk j hj e), knw.ex.wk (by omega)⟩
  show mu_W _ mu_m456 (62, [(0, .inr (.inr (some 169)))], [], H0) _
  refine mw_go mu_g456 (k := 2) (f1 := (64, [(1, .inl (0 : Int32)), (0, .inr (.inr (some 169)))], [], H0)) (C := []) rfl trivial ?_
  refine mw_sub (L' := [(1, .inl (nI 0)), (0, .inr (.inr (some 169)))]) (by simp [nI]) ?_
  refine rp_sd3 hs0 ht0 hw hz (fun H1 z hk => ?_) (fun H1 hmd hk => ?_) ms.length 0 H0 (Nat.zero_add _) knw.rf (fun i hi => absurd hi (Nat.not_lt_zero _))
  · obtain ⟨k, hk1, e⟩ := z
    exact Or.inl ⟨_, rfl, (fun z => e (z.2.1 k hk1)), hk.wk (by omega)⟩
  exact rp_sd4 hs0 ht0 hw hl0 hz hml hnm hmd hk
