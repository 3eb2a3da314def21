/-! The reference: soundType -/
/-- PathProverModel.soundType(LPathProverModel$Node;)V -/
abbrev mu_m485 : ev_M := (5, none, [], ev_b485)
theorem mu_g485 : mu_good mu_m485 := mu_goodk ev_k485
/-- two values of a set that differ -/
def vdf (u v : Tre) : Prop := if tkd u = 70 then ¬ nam u = nam v else ¬ tnu u = tnu v
/-- a set's values up to k -/
def st3 (c : Tre) (k : Nat) : Prop := (tkd (tkk c k) = 70 ↔ tkd (tkk c 0) = 70) ∧ ∀ j, j < k → vdf (tkk c k) (tkk c j)
/-- a TYPE that is sound -/
def sty (ms : List Mdl) (c : Tre) : Prop := (tkd c = 71 → tnu (tkk c 0) ≤ tnu (tkk c 1)) ∧ (tkd c = 72 → ∃ i, mtx ms (nam c) = some i ∧ (mth ms i).2.1.length = tsn c) ∧ (tkd c = 69 → ∀ k, k < tsn c → st3 c k)
theorem mdf.lt {H : mu_H} {F : Nat → Prop} {lv m : Nat} {y : Mdl} (h : mdf H F lv m y) : m < 1000000 := by
  obtain ⟨_, _, _, z, _⟩ := h
  exact z.2.1.2
theorem tyw.v {c : Tre} (h : tyw c) (hk : tkd c = 69) : 1 ≤ tsn c ∧ ∀ i, i < tsn c → vlw (tkk c i) := by
  rcases h with h | h | h | h
  · exact absurd (h.1.symm.trans hk) (by decide)
  · exact h.2
  · exact absurd (h.1.symm.trans hk) (by decide)
  · exact absurd (h.1.symm.trans hk) (by decide)
theorem tyw.r {c : Tre} (h : tyw c) (hk : tkd c = 71) : tsn c = 2 := by
  rcases h with h | h | h | h
  · exact absurd (h.1.symm.trans hk) (by decide)
  · exact absurd (h.1.symm.trans hk) (by decide)
  · exact h.2.1
  · exact absurd (h.1.symm.trans hk) (by decide)
theorem tyw.n {c : Tre} (h : tyw c) (hk : tkd c = 72) : (tns c).length = 1 := by
  rcases h with h | h | h | h
  · exact absurd (h.1.symm.trans hk) (by decide)
  · exact absurd (h.1.symm.trans hk) (by decide)
  · exact absurd (h.1.symm.trans hk) (by decide)
  · exact h.2.1
theorem vlw.n {v : Tre} (h : vlw v) (hk : tkd v = 70) : 0 < (tns v).length := by
  rcases h.1 with h | h
  · exact absurd (h.symm.trans hk) (by decide)
  · rw [h.2]; exact Nat.one_pos
theorem rp_st1 {d lv r p dd : Nat} {H : mu_H} {F : Nat → Prop} {ms : List Mdl} {c : Tre} (ht : rtx H F lv r ms) (hp : nd H F dd p c) (hty : tyw c) (hkd : tkd c = 69) {k v : Nat} (hv : nd H F (dd - 1) v (tkk c k)) (hk : k < tsn c) (h3 : tkd (tkk c k) = 70 ↔ tkd (tkk c 0) = 70) (hprev : ∀ i, i < k → (tkd (tkk c i) = 70 ↔ tkd (tkk c 0) = 70)) (hbad : ∀ j, j < k → ¬ vdf (tkk c k) (tkk c j) → ¬ sty ms c) (hfin : (∀ i, i < k → vdf (tkk c k) (tkk c i)) → mu_W (mu_D (d + 4)) mu_m485 (90, [(2, .inl (nI (k + 1))), (1, .inr (.inr (some p))), (0, .inr (.inr (some 169)))], [], H) (fun r => (∃ H1, r = (.inr 2, H1) ∧ ¬ sty ms c ∧ H1 = mu_ex H) ∨ ∃ v H1, r = (.inl v, H1) ∧ sty ms c ∧ v = none ∧ H1 = H)) : ∀ m_ j, j + m_ = k → (∀ i, i < j → vdf (tkk c k) (tkk c i)) → mu_W (mu_D (d + 4)) mu_m485 (149, [(4, .inl (nI j)), (3, .inr (.inr (some v))), (2, .inl (nI k)), (1, .inr (.inr (some p))), (0, .inr (.inr (some 169)))], [], H) (fun r => (∃ H1, r = (.inr 2, H1) ∧ ¬ sty ms c ∧ H1 = mu_ex H) ∨ ∃ v H1, r = (.inl v, H1) ∧ sty ms c ∧ v = none ∧ H1 = H)
  | 0, j, hm_, hacc => by
    have ht0 := ht
    have hp0 := hp
    have h26 := hp.s26
    obtain ⟨tx14, tx_is, tx_n, tx15, tx_m, tx9⟩ := ht
    obtain ⟨kd1, ⟨is1, nF1, lt1⟩, ⟨st1, sr1, sf1⟩, ⟨n2_1, n3_1, n7_1⟩, nm1, ar1, aq1, aF1, ai1, ⟨al1, am1, ax1⟩, ch1, dp1⟩ := nd.rd (c := c) hp
    refine mw_go mu_g485 (k := 2) (f1 := (152, [(4, .inl (nI j)), (3, .inr (.inr (some v))), (2, .inl (nI k)), (1, .inr (.inr (some p))), (0, .inr (.inr (some 169)))], [.inl (nI k), .inl (nI j)], H)) (C := []) rfl trivial ?_
    refine mw_if (P := (nI j) < (nI k)) (a := 155) (b := 229) (fun _ => rfl) trivial (fun h1 => absurd h1 (by rw [show j = k by omega]; exact Int32.lt_irrefl)) (fun h1 => ?_)
    refine mw_go mu_g485 (k := 2) (f1 := (90, [(2, .inl ((nI k) + 1)), (4, .inl (nI j)), (3, .inr (.inr (some v))), (1, .inr (.inr (some p))), (0, .inr (.inr (some 169)))], [], H)) (C := []) rfl trivial ?_
    refine mw_sub (L' := [(2, .inl (nI (k + 1))), (1, .inr (.inr (some p))), (0, .inr (.inr (some 169)))]) (by intro x hx; simp only [List.mem_cons, List.not_mem_nil, or_false] at hx ⊢; rcases hx with rfl | rfl | rfl <;> simp [nI_add, show (1 : Int32) = nI 1 from rfl]) ?_
    exact hfin (fun i hi => hacc i (by omega))
  | m_ + 1, j, hm_, hacc => by
    have ht0 := ht
    have hp0 := hp
    have h26 := hp.s26
    obtain ⟨tx14, tx_is, tx_n, tx15, tx_m, tx9⟩ := ht
    obtain ⟨kd1, ⟨is1, nF1, lt1⟩, ⟨st1, sr1, sf1⟩, ⟨n2_1, n3_1, n7_1⟩, nm1, ar1, aq1, aF1, ai1, ⟨al1, am1, ax1⟩, ch1, dp1⟩ := nd.rd (c := c) hp
    have hj : j < k := by omega
    have hjn : j < tsn c := by omega
    have hv0 := hty.v hkd
    obtain ⟨kd2, ⟨is2, nF2, lt2⟩, ⟨st2, sr2, sf2⟩, ⟨n2_2, n3_2, n7_2⟩, nm2, ar2, aq2, aF2, ai2, ⟨al2, am2, ax2⟩, ch2, dp2⟩ := nd.rd (c := (tkk c k)) hv
    obtain ⟨u, yr3, yn3⟩ := ch1 j hjn
    have yn3 : nd H F (dd - 1) u (tkk c j) := yn3
    obtain ⟨b1_3, b2_3, b3_3, b4_3⟩ := ar_at ai1 (by decide) (Nat.lt_of_lt_of_le hjn al1) (Nat.lt_of_le_of_lt ax1 (by decide))
    have y2_3 : mu_r H ar1 (nI j).toNatClampNeg = some u := by rw [b4_3]; exact yr3
    obtain ⟨kd4, ⟨is4, nF4, lt4⟩, ⟨st4, sr4, sf4⟩, ⟨n2_4, n3_4, n7_4⟩, nm4, ar4, aq4, aF4, ai4, ⟨al4, am4, ax4⟩, ch4, dp4⟩ := nd.rd (c := (tkk c j)) yn3
    refine mw_go mu_g485 (k := 2) (f1 := (152, [(4, .inl (nI j)), (3, .inr (.inr (some v))), (2, .inl (nI k)), (1, .inr (.inr (some p))), (0, .inr (.inr (some 169)))], [.inl (nI k), .inl (nI j)], H)) (C := []) rfl trivial ?_
    refine mw_if (P := (nI j) < (nI k)) (a := 155) (b := 229) (fun _ => rfl) trivial (fun h1 => ?_) (fun h1 => absurd (nI_lt hj (by omega)) h1)
    refine mw_go mu_g485 (k := 3) (f1 := (160, [(4, .inl (nI j)), (3, .inr (.inr (some v))), (2, .inl (nI k)), (1, .inr (.inr (some p))), (0, .inr (.inr (some 169)))], [.inr (.inr (some 1000070)), .inr (.inr (some v)), .inr (.inr (some 169))], H)) (C := []) rfl trivial ?_
    refine mw_cIe (fun _ => rfl) (show mu_is H (some v) 18 from is2) (nd.isL (e := d + 1) (j := 70) hv (by decide)) ?_
    refine mw_if (P := (if tkd (tkk c k) = 70 then 1 else 0) = 0) (a := 198) (b := 166) (fun _ => rfl) trivial (fun hi5 => ?_) (fun hi5 => ?_)
    · -- 198
      have ek5 : ¬ tkd (tkk c k) = 70 := fun e => by rw [if_pos e] at hi5; exact absurd hi5 (by decide)
      refine mw_go mu_g485 (k := 2) (f1 := (202, [(4, .inl (nI j)), (3, .inr (.inr (some v))), (2, .inl (nI k)), (1, .inr (.inr (some p))), (0, .inr (.inr (some 169)))], [.inl (mu_i H v 3), .inr (.inr (some 169))], H)) (C := [mu_is H (some v) 18]) rfl (show mu_is H (some v) 18 from is2) ?_
      refine mw_fr (f' := (202, [(4, .inl (nI j)), (3, .inr (.inr (some v))), (2, .inl (nI k)), (1, .inr (.inr (some p))), (0, .inr (.inr (some 169)))], [.inl (tnu (tkk c k)), .inr (.inr (some 169))], H)) (by first | (rw [n3_2]; done) | (rw [n3_2]; rfl)) ?_
      refine mw_go mu_g485 (k := 2) (f1 := (206, [(4, .inl (nI j)), (3, .inr (.inr (some v))), (2, .inl (nI k)), (1, .inr (.inr (some p))), (0, .inr (.inr (some 169)))], [.inr (.inr (mu_r H p 1)), .inl (tnu (tkk c k)), .inr (.inr (some 169))], H)) (C := [mu_is H (some p) 18]) rfl (show mu_is H (some p) 18 from is1) ?_
      refine mw_fr (f' := (206, [(4, .inl (nI j)), (3, .inr (.inr (some v))), (2, .inl (nI k)), (1, .inr (.inr (some p))), (0, .inr (.inr (some 169)))], [.inr (.inr (some ar1)), .inl (tnu (tkk c k)), .inr (.inr (some 169))], H)) (by first | (rw [aq1]; done) | (rw [aq1]; rfl)) ?_
      refine mw_go mu_g485 (k := 2) (f1 := (209, [(4, .inl (nI j)), (3, .inr (.inr (some v))), (2, .inl (nI k)), (1, .inr (.inr (some p))), (0, .inr (.inr (some 169)))], [.inr (.inr (mu_r H ar1 (nI j).toNatClampNeg)), .inl (tnu (tkk c k)), .inr (.inr (some 169))], H)) (C := [mu_is H (some ar1) (mu_k H ar1), 103 ≤ mu_k H ar1 ∧ mu_k H ar1 ≤ 110 ∧ mu_k H ar1 ≠ 108, vp_in (nI j) (mu_n H ar1)]) rfl (show (mu_is H (some ar1) (mu_k H ar1)) ∧ (103 ≤ mu_k H ar1 ∧ mu_k H ar1 ≤ 110 ∧ mu_k H ar1 ≠ 108) ∧ (vp_in (nI j) (mu_n H ar1)) from ⟨b1_3, b2_3, b3_3⟩) ?_
      refine mw_fr (f' := (209, [(4, .inl (nI j)), (3, .inr (.inr (some v))), (2, .inl (nI k)), (1, .inr (.inr (some p))), (0, .inr (.inr (some 169)))], [.inr (.inr (some u)), .inl (tnu (tkk c k)), .inr (.inr (some 169))], H)) (by first | (rw [y2_3]; done) | (rw [y2_3]; rfl)) ?_
      refine mw_go mu_g485 (k := 1) (f1 := (212, [(4, .inl (nI j)), (3, .inr (.inr (some v))), (2, .inl (nI k)), (1, .inr (.inr (some p))), (0, .inr (.inr (some 169)))], [.inl (mu_i H u 3), .inl (tnu (tkk c k)), .inr (.inr (some 169))], H)) (C := [mu_is H (some u) 18]) rfl (show mu_is H (some u) 18 from is4) ?_
      refine mw_fr (f' := (212, [(4, .inl (nI j)), (3, .inr (.inr (some v))), (2, .inl (nI k)), (1, .inr (.inr (some p))), (0, .inr (.inr (some 169)))], [.inl (tnu (tkk c j)), .inl (tnu (tkk c k)), .inr (.inr (some 169))], H)) (by first | (rw [n3_4]; done) | (rw [n3_4]; rfl)) ?_
      refine mw_if (P := (tnu (tkk c k)) = (tnu (tkk c j))) (a := 219) (b := 215) (fun _ => rfl) trivial (fun h5 => ?_) (fun h5 => ?_)
      · -- 219
        refine mw_go mu_g485 (k := 1) (f1 := (220, [(4, .inl (nI j)), (3, .inr (.inr (some v))), (2, .inl (nI k)), (1, .inr (.inr (some p))), (0, .inr (.inr (some 169)))], [.inl (0 : Int32), .inr (.inr (some 169))], H)) (C := []) rfl trivial ?_
        exact mw_cE (as := [.inl (0 : Int32)]) (o := some 169) (S1 := []) rfl rfl rfl rfl (Nat.le_of_ble_eq_true rfl) (by decide) tx9 rfl (by decide) (rp_sound (x := 0)) (fun H9 e9 => by rw [e9.2]; exact Or.inl ⟨_, rfl, (hbad j hj (by unfold vdf; rw [if_neg ek5]; exact fun z => z h5)), rfl⟩) (fun v9 H9 e9 => absurd rfl e9.1)
      · -- 215
        refine mw_go mu_g485 (k := 2) (f1 := (220, [(4, .inl (nI j)), (3, .inr (.inr (some v))), (2, .inl (nI k)), (1, .inr (.inr (some p))), (0, .inr (.inr (some 169)))], [.inl (1 : Int32), .inr (.inr (some 169))], H)) (C := []) rfl trivial ?_
        refine mw_cE (as := [.inl (1 : Int32)]) (o := some 169) (S1 := []) rfl rfl rfl rfl (Nat.le_of_ble_eq_true rfl) (by decide) tx9 rfl (by decide) (rp_sound (x := 1)) (fun H9 e9 => absurd e9.1 (by decide)) (fun v9 H9 e9 => ?_)
        obtain ⟨_, rfl, e9⟩ := e9
        rw [e9]
        clear e9 H9
        show mu_W _ mu_m485 (223, [(4, .inl (nI j)), (3, .inr (.inr (some v))), (2, .inl (nI k)), (1, .inr (.inr (some p))), (0, .inr (.inr (some 169)))], [], H) _
        refine mw_go mu_g485 (k := 2) (f1 := (149, [(4, .inl ((nI j) + 1)), (3, .inr (.inr (some v))), (2, .inl (nI k)), (1, .inr (.inr (some p))), (0, .inr (.inr (some 169)))], [], H)) (C := []) rfl trivial ?_
        refine mw_sub (L' := [(4, .inl (nI (j + 1))), (3, .inr (.inr (some v))), (2, .inl (nI k)), (1, .inr (.inr (some p))), (0, .inr (.inr (some 169)))]) (by intro x hx; simp only [List.mem_cons, List.not_mem_nil, or_false] at hx ⊢; rcases hx with rfl | rfl | rfl | rfl | rfl <;> simp [nI_add, show (1 : Int32) = nI 1 from rfl]) ?_
        exact rp_st1 ht0 hp0 hty hkd hv hk h3 hprev hbad hfin m_ (j + 1) (by omega) (fun i hi => by
          by_cases e : i = j
          · rw [e]; exact by unfold vdf; rw [if_neg ek5]; exact h5
          · exact hacc i (by omega))
    · -- 166
      have ek5 : tkd (tkk c k) = 70 := Decidable.byContradiction (fun e => hi5 (if_neg e))
      have hkk : tkd (tkk c j) = 70 := (hprev j hj).2 (h3.1 ek5)
      have hn1 := (hv0.2 k hk).n ek5
      have hn2 := (hv0.2 j hjn).n hkk
      obtain ⟨nb6, nr6, nbF6, ni6, nn6, nl6, nk6⟩ := nm2.rd hn1
      obtain ⟨ns6, nz6, nf6⟩ := nk6 0 hn1
      obtain ⟨c1_6, c2_6, c3_6, c4_6⟩ := ar_at (i := 0) ni6 (by decide) (by rw [nn6]; exact hn1) (by rw [nn6]; omega)
      have nx6 : mu_r H nb6 (0 : Int32).toNatClampNeg = some ns6 := nz6
      obtain ⟨nb7, nr7, nbF7, ni7, nn7, nl7, nk7⟩ := nm4.rd hn2
      obtain ⟨ns7, nz7, nf7⟩ := nk7 0 hn2
      obtain ⟨c1_7, c2_7, c3_7, c4_7⟩ := ar_at (i := 0) ni7 (by decide) (by rw [nn7]; exact hn2) (by rw [nn7]; omega)
      have nx7 : mu_r H nb7 (0 : Int32).toNatClampNeg = some ns7 := nz7
      refine mw_go mu_g485 (k := 2) (f1 := (170, [(4, .inl (nI j)), (3, .inr (.inr (some v))), (2, .inl (nI k)), (1, .inr (.inr (some p))), (0, .inr (.inr (some 169)))], [.inr (.inr (mu_r H v 4)), .inr (.inr (some 169))], H)) (C := [mu_is H (some v) 18]) rfl (show mu_is H (some v) 18 from is2) ?_
      refine mw_fr (f' := (170, [(4, .inl (nI j)), (3, .inr (.inr (some v))), (2, .inl (nI k)), (1, .inr (.inr (some p))), (0, .inr (.inr (some 169)))], [.inr (.inr (some nb6)), .inr (.inr (some 169))], H)) (by first | (rw [nr6]; done) | (rw [nr6]; rfl)) ?_
      refine mw_go mu_g485 (k := 2) (f1 := (172, [(4, .inl (nI j)), (3, .inr (.inr (some v))), (2, .inl (nI k)), (1, .inr (.inr (some p))), (0, .inr (.inr (some 169)))], [.inr (.inr (mu_r H nb6 (0 : Int32).toNatClampNeg)), .inr (.inr (some 169))], H)) (C := [mu_is H (some nb6) (mu_k H nb6), 103 ≤ mu_k H nb6 ∧ mu_k H nb6 ≤ 110 ∧ mu_k H nb6 ≠ 108, vp_in (0 : Int32) (mu_n H nb6)]) rfl (show (mu_is H (some nb6) (mu_k H nb6)) ∧ (103 ≤ mu_k H nb6 ∧ mu_k H nb6 ≤ 110 ∧ mu_k H nb6 ≠ 108) ∧ (vp_in (0 : Int32) (mu_n H nb6)) from ⟨c1_6, c2_6, c3_6⟩) ?_
      refine mw_fr (f' := (172, [(4, .inl (nI j)), (3, .inr (.inr (some v))), (2, .inl (nI k)), (1, .inr (.inr (some p))), (0, .inr (.inr (some 169)))], [.inr (.inr (some ns6)), .inr (.inr (some 169))], H)) (by first | (rw [nx6]; done) | (rw [nx6]; rfl)) ?_
      refine mw_go mu_g485 (k := 2) (f1 := (176, [(4, .inl (nI j)), (3, .inr (.inr (some v))), (2, .inl (nI k)), (1, .inr (.inr (some p))), (0, .inr (.inr (some 169)))], [.inr (.inr (mu_r H p 1)), .inr (.inr (some ns6)), .inr (.inr (some 169))], H)) (C := [mu_is H (some p) 18]) rfl (show mu_is H (some p) 18 from is1) ?_
      refine mw_fr (f' := (176, [(4, .inl (nI j)), (3, .inr (.inr (some v))), (2, .inl (nI k)), (1, .inr (.inr (some p))), (0, .inr (.inr (some 169)))], [.inr (.inr (some ar1)), .inr (.inr (some ns6)), .inr (.inr (some 169))], H)) (by first | (rw [aq1]; done) | (rw [aq1]; rfl)) ?_
      refine mw_go mu_g485 (k := 2) (f1 := (179, [(4, .inl (nI j)), (3, .inr (.inr (some v))), (2, .inl (nI k)), (1, .inr (.inr (some p))), (0, .inr (.inr (some 169)))], [.inr (.inr (mu_r H ar1 (nI j).toNatClampNeg)), .inr (.inr (some ns6)), .inr (.inr (some 169))], H)) (C := [mu_is H (some ar1) (mu_k H ar1), 103 ≤ mu_k H ar1 ∧ mu_k H ar1 ≤ 110 ∧ mu_k H ar1 ≠ 108, vp_in (nI j) (mu_n H ar1)]) rfl (show (mu_is H (some ar1) (mu_k H ar1)) ∧ (103 ≤ mu_k H ar1 ∧ mu_k H ar1 ≤ 110 ∧ mu_k H ar1 ≠ 108) ∧ (vp_in (nI j) (mu_n H ar1)) from ⟨b1_3, b2_3, b3_3⟩) ?_
      refine mw_fr (f' := (179, [(4, .inl (nI j)), (3, .inr (.inr (some v))), (2, .inl (nI k)), (1, .inr (.inr (some p))), (0, .inr (.inr (some 169)))], [.inr (.inr (some u)), .inr (.inr (some ns6)), .inr (.inr (some 169))], H)) (by first | (rw [y2_3]; done) | (rw [y2_3]; rfl)) ?_
      refine mw_go mu_g485 (k := 1) (f1 := (182, [(4, .inl (nI j)), (3, .inr (.inr (some v))), (2, .inl (nI k)), (1, .inr (.inr (some p))), (0, .inr (.inr (some 169)))], [.inr (.inr (mu_r H u 4)), .inr (.inr (some ns6)), .inr (.inr (some 169))], H)) (C := [mu_is H (some u) 18]) rfl (show mu_is H (some u) 18 from is4) ?_
      refine mw_fr (f' := (182, [(4, .inl (nI j)), (3, .inr (.inr (some v))), (2, .inl (nI k)), (1, .inr (.inr (some p))), (0, .inr (.inr (some 169)))], [.inr (.inr (some nb7)), .inr (.inr (some ns6)), .inr (.inr (some 169))], H)) (by first | (rw [nr7]; done) | (rw [nr7]; rfl)) ?_
      refine mw_go mu_g485 (k := 2) (f1 := (184, [(4, .inl (nI j)), (3, .inr (.inr (some v))), (2, .inl (nI k)), (1, .inr (.inr (some p))), (0, .inr (.inr (some 169)))], [.inr (.inr (mu_r H nb7 (0 : Int32).toNatClampNeg)), .inr (.inr (some ns6)), .inr (.inr (some 169))], H)) (C := [mu_is H (some nb7) (mu_k H nb7), 103 ≤ mu_k H nb7 ∧ mu_k H nb7 ≤ 110 ∧ mu_k H nb7 ≠ 108, vp_in (0 : Int32) (mu_n H nb7)]) rfl (show (mu_is H (some nb7) (mu_k H nb7)) ∧ (103 ≤ mu_k H nb7 ∧ mu_k H nb7 ≤ 110 ∧ mu_k H nb7 ≠ 108) ∧ (vp_in (0 : Int32) (mu_n H nb7)) from ⟨c1_7, c2_7, c3_7⟩) ?_
      refine mw_fr (f' := (184, [(4, .inl (nI j)), (3, .inr (.inr (some v))), (2, .inl (nI k)), (1, .inr (.inr (some p))), (0, .inr (.inr (some 169)))], [.inr (.inr (some ns7)), .inr (.inr (some ns6)), .inr (.inr (some 169))], H)) (by first | (rw [nx7]; done) | (rw [nx7]; rfl)) ?_
      refine mw_cS rfl (by decide) nf6.1.1 (sb_equals (d := _) nf6.1 nf7.1 (Nat.lt_trans nf6.2.2 (by decide)) (Nat.lt_trans nf7.2.2 (by decide))) (fun x9 H9 q9 => ?_)
      rw [q9.1, q9.2]
      clear q9 H9 x9
      show mu_W _ mu_m485 (187, [(4, .inl (nI j)), (3, .inr (.inr (some v))), (2, .inl (nI k)), (1, .inr (.inr (some p))), (0, .inr (.inr (some 169)))], [.inl (if (nam (tkk c k)) = (nam (tkk c j)) then 1 else 0), .inr (.inr (some 169))], H) _
      refine mw_if (P := (if (nam (tkk c k)) = (nam (tkk c j)) then 1 else 0) = 0) (a := 190) (b := 194) (fun _ => rfl) trivial (fun hi8 => ?_) (fun hi8 => ?_)
      · -- 190
        have ek8 : ¬ (nam (tkk c k)) = (nam (tkk c j)) := fun e => by rw [if_pos e] at hi8; exact absurd hi8 (by decide)
        refine mw_go mu_g485 (k := 2) (f1 := (220, [(4, .inl (nI j)), (3, .inr (.inr (some v))), (2, .inl (nI k)), (1, .inr (.inr (some p))), (0, .inr (.inr (some 169)))], [.inl (1 : Int32), .inr (.inr (some 169))], H)) (C := []) rfl trivial ?_
        refine mw_cE (as := [.inl (1 : Int32)]) (o := some 169) (S1 := []) rfl rfl rfl rfl (Nat.le_of_ble_eq_true rfl) (by decide) tx9 rfl (by decide) (rp_sound (x := 1)) (fun H9 e9 => absurd e9.1 (by decide)) (fun v9 H9 e9 => ?_)
        obtain ⟨_, rfl, e9⟩ := e9
        rw [e9]
        clear e9 H9
        show mu_W _ mu_m485 (223, [(4, .inl (nI j)), (3, .inr (.inr (some v))), (2, .inl (nI k)), (1, .inr (.inr (some p))), (0, .inr (.inr (some 169)))], [], H) _
        refine mw_go mu_g485 (k := 2) (f1 := (149, [(4, .inl ((nI j) + 1)), (3, .inr (.inr (some v))), (2, .inl (nI k)), (1, .inr (.inr (some p))), (0, .inr (.inr (some 169)))], [], H)) (C := []) rfl trivial ?_
        refine mw_sub (L' := [(4, .inl (nI (j + 1))), (3, .inr (.inr (some v))), (2, .inl (nI k)), (1, .inr (.inr (some p))), (0, .inr (.inr (some 169)))]) (by intro x hx; simp only [List.mem_cons, List.not_mem_nil, or_false] at hx ⊢; rcases hx with rfl | rfl | rfl | rfl | rfl <;> simp [nI_add, show (1 : Int32) = nI 1 from rfl]) ?_
        exact rp_st1 ht0 hp0 hty hkd hv hk h3 hprev hbad hfin m_ (j + 1) (by omega) (fun i hi => by
          by_cases e : i = j
          · rw [e]; exact by unfold vdf; rw [if_pos ek5]; exact ek8
          · exact hacc i (by omega))
      · -- 194
        have ek8 : (nam (tkk c k)) = (nam (tkk c j)) := Decidable.byContradiction (fun e => hi8 (if_neg e))
        refine mw_go mu_g485 (k := 2) (f1 := (220, [(4, .inl (nI j)), (3, .inr (.inr (some v))), (2, .inl (nI k)), (1, .inr (.inr (some p))), (0, .inr (.inr (some 169)))], [.inl (0 : Int32), .inr (.inr (some 169))], H)) (C := []) rfl trivial ?_
        exact mw_cE (as := [.inl (0 : Int32)]) (o := some 169) (S1 := []) rfl rfl rfl rfl (Nat.le_of_ble_eq_true rfl) (by decide) tx9 rfl (by decide) (rp_sound (x := 0)) (fun H9 e9 => by rw [e9.2]; exact Or.inl ⟨_, rfl, (hbad j hj (by unfold vdf; rw [if_pos ek5]; exact fun z => z ek8)), rfl⟩) (fun v9 H9 e9 => absurd rfl e9.1)
theorem rp_st2 {d lv r p dd : Nat} {H : mu_H} {F : Nat → Prop} {ms : List Mdl} {c : Tre} (ht : rtx H F lv r ms) (hp : nd H F dd p c) (hty : tyw c) (s1 : tkd c = 71 → tnu (tkk c 0) ≤ tnu (tkk c 1)) (s2 : tkd c = 72 → ∃ i, mtx ms (nam c) = some i ∧ (mth ms i).2.1.length = tsn c) : ∀ m_ k, k + m_ = tsn c → (∀ i, i < k → st3 c i) → mu_W (mu_D (d + 4)) mu_m485 (90, [(2, .inl (nI k)), (1, .inr (.inr (some p))), (0, .inr (.inr (some 169)))], [], H) (fun r => (∃ H1, r = (.inr 2, H1) ∧ ¬ sty ms c ∧ H1 = mu_ex H) ∨ ∃ v H1, r = (.inl v, H1) ∧ sty ms c ∧ v = none ∧ H1 = H)
  | 0, k, hm_, hacc => by
    have ht0 := ht
    have hp0 := hp
    have h26 := hp.s26
    obtain ⟨tx14, tx_is, tx_n, tx15, tx_m, tx9⟩ := ht
    obtain ⟨kd1, ⟨is1, nF1, lt1⟩, ⟨st1, sr1, sf1⟩, ⟨n2_1, n3_1, n7_1⟩, nm1, ar1, aq1, aF1, ai1, ⟨al1, am1, ax1⟩, ch1, dp1⟩ := nd.rd (c := c) hp
    refine mw_go mu_g485 (k := 3) (f1 := (95, [(2, .inl (nI k)), (1, .inr (.inr (some p))), (0, .inr (.inr (some 169)))], [.inl (mu_i H p 2), .inl (nI k)], H)) (C := [mu_is H (some p) 18]) rfl (show mu_is H (some p) 18 from is1) ?_
    refine mw_fr (f' := (95, [(2, .inl (nI k)), (1, .inr (.inr (some p))), (0, .inr (.inr (some 169)))], [.inl (nI (tsn c)), .inl (nI k)], H)) (by first | (rw [n2_1]; done) | (rw [n2_1]; rfl)) ?_
    refine mw_if (P := (nI k) < (nI (tsn c))) (a := 98) (b := 235) (fun _ => rfl) trivial (fun h1 => absurd h1 (by rw [show k = tsn c by omega]; exact Int32.lt_irrefl)) (fun h1 => ?_)
    exact mw_of (fun _ => mu_ret rfl trivial (Or.inr ⟨_, _, rfl, ⟨s1, s2, fun _ i hi => hacc i (by omega)⟩, rfl, rfl⟩))
  | m_ + 1, k, hm_, hacc => by
    have ht0 := ht
    have hp0 := hp
    have h26 := hp.s26
    obtain ⟨tx14, tx_is, tx_n, tx15, tx_m, tx9⟩ := ht
    obtain ⟨kd1, ⟨is1, nF1, lt1⟩, ⟨st1, sr1, sf1⟩, ⟨n2_1, n3_1, n7_1⟩, nm1, ar1, aq1, aF1, ai1, ⟨al1, am1, ax1⟩, ch1, dp1⟩ := nd.rd (c := c) hp
    have hk : k < tsn c := by omega
    refine mw_go mu_g485 (k := 3) (f1 := (95, [(2, .inl (nI k)), (1, .inr (.inr (some p))), (0, .inr (.inr (some 169)))], [.inl (mu_i H p 2), .inl (nI k)], H)) (C := [mu_is H (some p) 18]) rfl (show mu_is H (some p) 18 from is1) ?_
    refine mw_fr (f' := (95, [(2, .inl (nI k)), (1, .inr (.inr (some p))), (0, .inr (.inr (some 169)))], [.inl (nI (tsn c)), .inl (nI k)], H)) (by first | (rw [n2_1]; done) | (rw [n2_1]; rfl)) ?_
    refine mw_if (P := (nI k) < (nI (tsn c))) (a := 98) (b := 235) (fun _ => rfl) trivial (fun h1 => ?_) (fun h1 => absurd (nI_lt hk (by omega)) h1)
    refine mw_go mu_g485 (k := 2) (f1 := (102, [(2, .inl (nI k)), (1, .inr (.inr (some p))), (0, .inr (.inr (some 169)))], [.inr (.inr (some 1000069)), .inr (.inr (some p))], H)) (C := []) rfl trivial ?_
    refine mw_cIe (fun _ => rfl) (show mu_is H (some p) 18 from is1) (nd.isL (e := d + 1) (j := 69) hp (by decide)) ?_
    refine mw_if (P := (if tkd c = 69 then 1 else 0) = 0) (a := 235) (b := 108) (fun _ => rfl) trivial (fun hi2 => ?_) (fun hi2 => ?_)
    · -- 235
      have ek2 : ¬ tkd c = 69 := fun e => by rw [if_pos e] at hi2; exact absurd hi2 (by decide)
      exact mw_of (fun _ => mu_ret rfl trivial (Or.inr ⟨_, _, rfl, ⟨s1, s2, fun e => absurd e ek2⟩, rfl, rfl⟩))
    · -- 108
      have ek2 : tkd c = 69 := Decidable.byContradiction (fun e => hi2 (if_neg e))
      have h0n : 0 < tsn c := by omega
      obtain ⟨v, yr3, yn3⟩ := ch1 k hk
      have yn3 : nd H F (dd - 1) v (tkk c k) := yn3
      obtain ⟨b1_3, b2_3, b3_3, b4_3⟩ := ar_at ai1 (by decide) (Nat.lt_of_lt_of_le hk al1) (Nat.lt_of_le_of_lt ax1 (by decide))
      have y2_3 : mu_r H ar1 (nI k).toNatClampNeg = some v := by rw [b4_3]; exact yr3
      obtain ⟨kd4, ⟨is4, nF4, lt4⟩, ⟨st4, sr4, sf4⟩, ⟨n2_4, n3_4, n7_4⟩, nm4, ar4, aq4, aF4, ai4, ⟨al4, am4, ax4⟩, ch4, dp4⟩ := nd.rd (c := (tkk c k)) yn3
      obtain ⟨z, yr5, yn5⟩ := ch1 0 h0n
      have yn5 : nd H F (dd - 1) z (tkk c 0) := yn5
      obtain ⟨b1_5, b2_5, b3_5, b4_5⟩ := ar_at ai1 (by decide) (Nat.lt_of_lt_of_le h0n al1) (Nat.lt_of_le_of_lt ax1 (by decide))
      have y2_5 : mu_r H ar1 (0 : Int32).toNatClampNeg = some z := yr5
      obtain ⟨kd6, ⟨is6, nF6, lt6⟩, ⟨st6, sr6, sf6⟩, ⟨n2_6, n3_6, n7_6⟩, nm6, ar6, aq6, aF6, ai6, ⟨al6, am6, ax6⟩, ch6, dp6⟩ := nd.rd (c := (tkk c 0)) yn5
      refine mw_go mu_g485 (k := 2) (f1 := (112, [(2, .inl (nI k)), (1, .inr (.inr (some p))), (0, .inr (.inr (some 169)))], [.inr (.inr (mu_r H p 1))], H)) (C := [mu_is H (some p) 18]) rfl (show mu_is H (some p) 18 from is1) ?_
      refine mw_fr (f' := (112, [(2, .inl (nI k)), (1, .inr (.inr (some p))), (0, .inr (.inr (some 169)))], [.inr (.inr (some ar1))], H)) (by first | (rw [aq1]; done) | (rw [aq1]; rfl)) ?_
      refine mw_go mu_g485 (k := 2) (f1 := (114, [(2, .inl (nI k)), (1, .inr (.inr (some p))), (0, .inr (.inr (some 169)))], [.inr (.inr (mu_r H ar1 (nI k).toNatClampNeg))], H)) (C := [mu_is H (some ar1) (mu_k H ar1), 103 ≤ mu_k H ar1 ∧ mu_k H ar1 ≤ 110 ∧ mu_k H ar1 ≠ 108, vp_in (nI k) (mu_n H ar1)]) rfl (show (mu_is H (some ar1) (mu_k H ar1)) ∧ (103 ≤ mu_k H ar1 ∧ mu_k H ar1 ≤ 110 ∧ mu_k H ar1 ≠ 108) ∧ (vp_in (nI k) (mu_n H ar1)) from ⟨b1_5, b2_5, b3_3⟩) ?_
      refine mw_fr (f' := (114, [(2, .inl (nI k)), (1, .inr (.inr (some p))), (0, .inr (.inr (some 169)))], [.inr (.inr (some v))], H)) (by first | (rw [y2_3]; done) | (rw [y2_3]; rfl)) ?_
      refine mw_go mu_g485 (k := 4) (f1 := (120, [(3, .inr (.inr (some v))), (2, .inl (nI k)), (1, .inr (.inr (some p))), (0, .inr (.inr (some 169)))], [.inr (.inr (some 1000070)), .inr (.inr (some v)), .inr (.inr (some 169))], H)) (C := []) rfl trivial ?_
      refine mw_cIe (fun _ => rfl) (show mu_is H (some v) 18 from is4) (nd.isL (e := d + 1) (j := 70) yn3 (by decide)) ?_
      refine mw_go mu_g485 (k := 2) (f1 := (127, [(3, .inr (.inr (some v))), (2, .inl (nI k)), (1, .inr (.inr (some p))), (0, .inr (.inr (some 169)))], [.inr (.inr (mu_r H p 1)), .inl (if tkd (tkk c k) = 70 then 1 else 0), .inr (.inr (some 169))], H)) (C := [mu_is H (some p) 18]) rfl (show mu_is H (some p) 18 from is1) ?_
      refine mw_fr (f' := (127, [(3, .inr (.inr (some v))), (2, .inl (nI k)), (1, .inr (.inr (some p))), (0, .inr (.inr (some 169)))], [.inr (.inr (some ar1)), .inl (if tkd (tkk c k) = 70 then 1 else 0), .inr (.inr (some 169))], H)) (by first | (rw [aq1]; done) | (rw [aq1]; rfl)) ?_
      refine mw_go mu_g485 (k := 2) (f1 := (129, [(3, .inr (.inr (some v))), (2, .inl (nI k)), (1, .inr (.inr (some p))), (0, .inr (.inr (some 169)))], [.inr (.inr (mu_r H ar1 (0 : Int32).toNatClampNeg)), .inl (if tkd (tkk c k) = 70 then 1 else 0), .inr (.inr (some 169))], H)) (C := [mu_is H (some ar1) (mu_k H ar1), 103 ≤ mu_k H ar1 ∧ mu_k H ar1 ≤ 110 ∧ mu_k H ar1 ≠ 108, vp_in (0 : Int32) (mu_n H ar1)]) rfl (show (mu_is H (some ar1) (mu_k H ar1)) ∧ (103 ≤ mu_k H ar1 ∧ mu_k H ar1 ≤ 110 ∧ mu_k H ar1 ≠ 108) ∧ (vp_in (0 : Int32) (mu_n H ar1)) from ⟨b1_5, b2_5, b3_5⟩) ?_
      refine mw_fr (f' := (129, [(3, .inr (.inr (some v))), (2, .inl (nI k)), (1, .inr (.inr (some p))), (0, .inr (.inr (some 169)))], [.inr (.inr (some z)), .inl (if tkd (tkk c k) = 70 then 1 else 0), .inr (.inr (some 169))], H)) (by first | (rw [y2_5]; done) | (rw [y2_5]; rfl)) ?_
      refine mw_go mu_g485 (k := 1) (f1 := (132, [(3, .inr (.inr (some v))), (2, .inl (nI k)), (1, .inr (.inr (some p))), (0, .inr (.inr (some 169)))], [.inr (.inr (some 1000070)), .inr (.inr (some z)), .inl (if tkd (tkk c k) = 70 then 1 else 0), .inr (.inr (some 169))], H)) (C := []) rfl trivial ?_
      refine mw_cIe (fun _ => rfl) (show mu_is H (some z) 18 from is6) (nd.isL (e := d + 1) (j := 70) yn5 (by decide)) ?_
      refine mw_if (P := (if tkd (tkk c k) = 70 then 1 else 0) = (if tkd (tkk c 0) = 70 then 1 else 0)) (a := 138) (b := 142) (fun _ => rfl) trivial (fun h5 => ?_) (fun h5 => ?_)
      · -- 138
        have h3 : tkd (tkk c k) = 70 ↔ tkd (tkk c 0) = 70 := by
          by_cases e1 : tkd (tkk c k) = 70
          · rw [if_pos e1] at h5
            exact ⟨fun _ => Decidable.byContradiction (fun e2 => by rw [if_neg e2] at h5; exact absurd h5 (by decide)), fun _ => e1⟩
          · rw [if_neg e1] at h5
            exact ⟨fun e => absurd e e1, fun e2 => by rw [if_pos e2] at h5; exact absurd h5 (by decide)⟩
        refine mw_go mu_g485 (k := 2) (f1 := (143, [(3, .inr (.inr (some v))), (2, .inl (nI k)), (1, .inr (.inr (some p))), (0, .inr (.inr (some 169)))], [.inl (1 : Int32), .inr (.inr (some 169))], H)) (C := []) rfl trivial ?_
        refine mw_cE (as := [.inl (1 : Int32)]) (o := some 169) (S1 := []) rfl rfl rfl rfl (Nat.le_of_ble_eq_true rfl) (by decide) tx9 rfl (by decide) (rp_sound (x := 1)) (fun H9 e9 => absurd e9.1 (by decide)) (fun v9 H9 e9 => ?_)
        obtain ⟨_, rfl, e9⟩ := e9
        rw [e9]
        clear e9 H9
        show mu_W _ mu_m485 (146, [(3, .inr (.inr (some v))), (2, .inl (nI k)), (1, .inr (.inr (some p))), (0, .inr (.inr (some 169)))], [], H) _
        refine mw_go mu_g485 (k := 2) (f1 := (149, [(4, .inl (0 : Int32)), (3, .inr (.inr (some v))), (2, .inl (nI k)), (1, .inr (.inr (some p))), (0, .inr (.inr (some 169)))], [], H)) (C := []) rfl trivial ?_
        refine mw_sub (L' := [(4, .inl (nI 0)), (3, .inr (.inr (some v))), (2, .inl (nI k)), (1, .inr (.inr (some p))), (0, .inr (.inr (some 169)))]) (by intro x hx; simp only [List.mem_cons, List.not_mem_nil, or_false] at hx ⊢; rcases hx with rfl | rfl | rfl | rfl | rfl <;> simp [nI]) ?_
        exact rp_st1 ht0 hp0 hty ek2 yn3 hk h3 (fun i hi => (hacc i hi).1) (fun j hj hn z => hn ((z.2.2 ek2 k hk).2 j hj)) (fun hall => rp_st2 ht0 hp0 hty s1 s2 m_ (k + 1) (by omega) (fun i hi => by
          by_cases e : i = k
          · rw [e]; exact ⟨h3, hall⟩
          · exact hacc i (by omega))) k 0 (by omega) (fun i hi => absurd hi (Nat.not_lt_zero _))
      · -- 142
        refine mw_go mu_g485 (k := 1) (f1 := (143, [(3, .inr (.inr (some v))), (2, .inl (nI k)), (1, .inr (.inr (some p))), (0, .inr (.inr (some 169)))], [.inl (0 : Int32), .inr (.inr (some 169))], H)) (C := []) rfl trivial ?_
        exact mw_cE (as := [.inl (0 : Int32)]) (o := some 169) (S1 := []) rfl rfl rfl rfl (Nat.le_of_ble_eq_true rfl) (by decide) tx9 rfl (by decide) (rp_sound (x := 0)) (fun H9 e9 => by rw [e9.2]; exact Or.inl ⟨_, rfl, (fun z => h5 (by
            have h3 := (z.2.2 ek2 k hk).1
            by_cases e1 : tkd (tkk c k) = 70
            · rw [if_pos e1, if_pos (h3.1 e1)]
            · rw [if_neg e1, if_neg (fun e2 => e1 (h3.2 e2))])), rfl⟩) (fun v9 H9 e9 => absurd rfl e9.1)
theorem rp_st3 {d lv r p dd : Nat} {H : mu_H} {F : Nat → Prop} {ms : List Mdl} {c : Tre} (ht : rtx H F lv r ms) (hp : nd H F dd p c) (hty : tyw c) (s1 : tkd c = 71 → tnu (tkk c 0) ≤ tnu (tkk c 1)) : mu_W (mu_D (d + 4)) mu_m485 (40, [(1, .inr (.inr (some p))), (0, .inr (.inr (some 169)))], [], H) (fun r => (∃ H1, r = (.inr 2, H1) ∧ ¬ sty ms c ∧ H1 = mu_ex H) ∨ ∃ v H1, r = (.inl v, H1) ∧ sty ms c ∧ v = none ∧ H1 = H) := by
  have ht0 := ht
  have hp0 := hp
  have h26 := hp.s26
  obtain ⟨tx14, tx_is, tx_n, tx15, tx_m, tx9⟩ := ht
  obtain ⟨kd1, ⟨is1, nF1, lt1⟩, ⟨st1, sr1, sf1⟩, ⟨n2_1, n3_1, n7_1⟩, nm1, ar1, aq1, aF1, ai1, ⟨al1, am1, ax1⟩, ch1, dp1⟩ := nd.rd (c := c) hp
  refine mw_go mu_g485 (k := 2) (f1 := (44, [(1, .inr (.inr (some p))), (0, .inr (.inr (some 169)))], [.inr (.inr (some 1000072)), .inr (.inr (some p))], H)) (C := []) rfl trivial ?_
  refine mw_cIe (fun _ => rfl) (show mu_is H (some p) 18 from is1) (nd.isL (e := d + 1) (j := 72) hp (by decide)) ?_
  refine mw_if (P := (if tkd c = 72 then 1 else 0) = 0) (a := 88) (b := 50) (fun _ => rfl) trivial (fun hi2 => ?_) (fun hi2 => ?_)
  · -- 88
    have ek2 : ¬ tkd c = 72 := fun e => by rw [if_pos e] at hi2; exact absurd hi2 (by decide)
    refine mw_go mu_g485 (k := 2) (f1 := (90, [(2, .inl (0 : Int32)), (1, .inr (.inr (some p))), (0, .inr (.inr (some 169)))], [], H)) (C := []) rfl trivial ?_
    refine mw_sub (L' := [(2, .inl (nI 0)), (1, .inr (.inr (some p))), (0, .inr (.inr (some 169)))]) (by simp [nI]) ?_
    exact rp_st2 ht0 hp0 hty s1 (fun e => absurd e ek2) (tsn c) 0 (Nat.zero_add _) (fun i hi => absurd hi (Nat.not_lt_zero _))
  · -- 50
    have ek2 : tkd c = 72 := Decidable.byContradiction (fun e => hi2 (if_neg e))
    have hn0 : 0 < (tns c).length := by rw [hty.n ek2]; exact Nat.one_pos
    obtain ⟨nb3, nr3, nbF3, ni3, nn3, nl3, nk3⟩ := nm1.rd hn0
    obtain ⟨ns3, nz3, nf3⟩ := nk3 0 hn0
    obtain ⟨c1_3, c2_3, c3_3, c4_3⟩ := ar_at (i := 0) ni3 (by decide) (by rw [nn3]; exact hn0) (by rw [nn3]; omega)
    have nx3 : mu_r H nb3 (0 : Int32).toNatClampNeg = some ns3 := nz3
    refine mw_go mu_g485 (k := 3) (f1 := (55, [(1, .inr (.inr (some p))), (0, .inr (.inr (some 169)))], [.inr (.inr (mu_r H p 4)), .inr (.inr (some 169))], H)) (C := [mu_is H (some p) 18]) rfl (show mu_is H (some p) 18 from is1) ?_
    refine mw_fr (f' := (55, [(1, .inr (.inr (some p))), (0, .inr (.inr (some 169)))], [.inr (.inr (some nb3)), .inr (.inr (some 169))], H)) (by first | (rw [nr3]; done) | (rw [nr3]; rfl)) ?_
    refine mw_go mu_g485 (k := 2) (f1 := (57, [(1, .inr (.inr (some p))), (0, .inr (.inr (some 169)))], [.inr (.inr (mu_r H nb3 (0 : Int32).toNatClampNeg)), .inr (.inr (some 169))], H)) (C := [mu_is H (some nb3) (mu_k H nb3), 103 ≤ mu_k H nb3 ∧ mu_k H nb3 ≤ 110 ∧ mu_k H nb3 ≠ 108, vp_in (0 : Int32) (mu_n H nb3)]) rfl (show (mu_is H (some nb3) (mu_k H nb3)) ∧ (103 ≤ mu_k H nb3 ∧ mu_k H nb3 ≤ 110 ∧ mu_k H nb3 ≠ 108) ∧ (vp_in (0 : Int32) (mu_n H nb3)) from ⟨c1_3, c2_3, c3_3⟩) ?_
    refine mw_fr (f' := (57, [(1, .inr (.inr (some p))), (0, .inr (.inr (some 169)))], [.inr (.inr (some ns3)), .inr (.inr (some 169))], H)) (by first | (rw [nx3]; done) | (rw [nx3]; rfl)) ?_
    refine mw_cA (fun _ => rfl) (show mu_is H (some 169) 1 from tx9) (rp_text (d := d + 1) ht0 nf3) (fun x9 H9 q9 => ?_)
    rw [q9.1, q9.2]
    clear q9 x9 H9
    show mu_W _ mu_m485 (60, [(1, .inr (.inr (some p))), (0, .inr (.inr (some 169)))], [.inr (.inr ((mtx ms (nam c)).bind (fun i => mu_r H r i)))], H) _
    cases hmt : mtx ms (nam c) with
    | none =>
      show mu_W _ mu_m485 (60, [(1, .inr (.inr (some p))), (0, .inr (.inr (some 169)))], [.inr (.inr none)], H) _
      refine mw_go mu_g485 (k := 3) (f1 := (63, [(2, .inr (.inr none)), (1, .inr (.inr (some p))), (0, .inr (.inr (some 169)))], [.inr (.inr none), .inr (.inr (some 169))], H)) (C := []) rfl trivial ?_
      refine mw_if (P := none = none) (a := 84) (b := 66) (fun _ => rfl) (show none ≠ some 3000000 from fun z => by cases z) (fun h3 => ?_) (fun h3 => absurd rfl h3)
      refine mw_go mu_g485 (k := 1) (f1 := (85, [(2, .inr (.inr none)), (1, .inr (.inr (some p))), (0, .inr (.inr (some 169)))], [.inl (0 : Int32), .inr (.inr (some 169))], H)) (C := []) rfl trivial ?_
      exact mw_cE (as := [.inl (0 : Int32)]) (o := some 169) (S1 := []) rfl rfl rfl rfl (Nat.le_of_ble_eq_true rfl) (by decide) tx9 rfl (by decide) (rp_sound (x := 0)) (fun H9 e9 => by rw [e9.2]; exact Or.inl ⟨_, rfl, (fun z => by obtain ⟨i, hi, _⟩ := z.2.1 ek2; rw [hmt] at hi; cases hi), rfl⟩) (fun v9 H9 e9 => absurd rfl e9.1)
    | some i =>
      have hi := (fio_some _ _ _ hmt).2.2.1
      have hi : i < ms.length := by omega
      obtain ⟨mi, mr4, md4⟩ := tx_m i hi
      obtain ⟨d1_4, d2_4, d3_4, d4_4⟩ := ar_at (i := i) tx_is (by decide) (Nat.lt_of_lt_of_le hi tx_n.1) tx_n.2
      have mx4 : mu_r H r (nI i).toNatClampNeg = some mi := by rw [d4_4]; exact mr4
      obtain ⟨mi5, ⟨mw5, mr0_5, ms5⟩, ⟨mp5, mr1_5, mpn5⟩, mq5, mr2_5, mqn5⟩ := mdf.rd (y := (mth ms i)) md4
      obtain ⟨kd6, ⟨is6, nF6, lt6⟩, ⟨st6, sr6, sf6⟩, ⟨n2_6, n3_6, n7_6⟩, nm6, ar6, aq6, aF6, ai6, ⟨al6, am6, ax6⟩, ch6, dp6⟩ := nd.rd (c := (tmk 62 0 [] (mth ms i).2.1)) mpn5
      rw [show (Option.bind (some i) (fun i => mu_r H r i)) = some mi from mr4]
      show mu_W _ mu_m485 (60, [(1, .inr (.inr (some p))), (0, .inr (.inr (some 169)))], [.inr (.inr (some mi))], H) _
      have hl26 : (mth ms i).2.1.length ≤ 2 ^ 21 := Nat.le_trans al6 ax6
      refine mw_go mu_g485 (k := 3) (f1 := (63, [(2, .inr (.inr (some mi))), (1, .inr (.inr (some p))), (0, .inr (.inr (some 169)))], [.inr (.inr (some mi)), .inr (.inr (some 169))], H)) (C := []) rfl trivial ?_
      refine mw_if (P := (some mi) = none) (a := 84) (b := 66) (fun _ => rfl) (show some mi ≠ some 3000000 from fun z => by have := md4.lt; cases z; omega) (fun h3 => by cases h3) (fun h3 => ?_)
      refine mw_go mu_g485 (k := 2) (f1 := (70, [(2, .inr (.inr (some mi))), (1, .inr (.inr (some p))), (0, .inr (.inr (some 169)))], [.inr (.inr (mu_r H mi 1)), .inr (.inr (some 169))], H)) (C := [mu_is H (some mi) 17]) rfl (show mu_is H (some mi) 17 from mi5) ?_
      refine mw_fr (f' := (70, [(2, .inr (.inr (some mi))), (1, .inr (.inr (some p))), (0, .inr (.inr (some 169)))], [.inr (.inr (some mp5)), .inr (.inr (some 169))], H)) (by first | (rw [mr1_5]; done) | (rw [mr1_5]; rfl)) ?_
      refine mw_go mu_g485 (k := 1) (f1 := (73, [(2, .inr (.inr (some mi))), (1, .inr (.inr (some p))), (0, .inr (.inr (some 169)))], [.inl (mu_i H mp5 2), .inr (.inr (some 169))], H)) (C := [mu_is H (some mp5) 18]) rfl (show mu_is H (some mp5) 18 from is6) ?_
      refine mw_fr (f' := (73, [(2, .inr (.inr (some mi))), (1, .inr (.inr (some p))), (0, .inr (.inr (some 169)))], [.inl (nI (mth ms i).2.1.length), .inr (.inr (some 169))], H)) (by first | (rw [n2_6]; done) | (rw [n2_6]; rfl)) ?_
      refine mw_go mu_g485 (k := 2) (f1 := (77, [(2, .inr (.inr (some mi))), (1, .inr (.inr (some p))), (0, .inr (.inr (some 169)))], [.inl (mu_i H p 2), .inl (nI (mth ms i).2.1.length), .inr (.inr (some 169))], H)) (C := [mu_is H (some p) 18]) rfl (show mu_is H (some p) 18 from is1) ?_
      refine mw_fr (f' := (77, [(2, .inr (.inr (some mi))), (1, .inr (.inr (some p))), (0, .inr (.inr (some 169)))], [.inl (nI (tsn c)), .inl (nI (mth ms i).2.1.length), .inr (.inr (some 169))], H)) (by first | (rw [n2_1]; done) | (rw [n2_1]; rfl)) ?_
      refine mw_if (P := (nI (mth ms i).2.1.length) = (nI (tsn c))) (a := 80) (b := 84) (fun _ => rfl) trivial (fun h4 => ?_) (fun h4 => ?_)
      · -- 80
        refine mw_go mu_g485 (k := 2) (f1 := (85, [(2, .inr (.inr (some mi))), (1, .inr (.inr (some p))), (0, .inr (.inr (some 169)))], [.inl (1 : Int32), .inr (.inr (some 169))], H)) (C := []) rfl trivial ?_
        refine mw_cE (as := [.inl (1 : Int32)]) (o := some 169) (S1 := []) rfl rfl rfl rfl (Nat.le_of_ble_eq_true rfl) (by decide) tx9 rfl (by decide) (rp_sound (x := 1)) (fun H9 e9 => absurd e9.1 (by decide)) (fun v9 H9 e9 => ?_)
        obtain ⟨_, rfl, e9⟩ := e9
        rw [e9]
        clear e9 H9
        show mu_W _ mu_m485 (88, [(2, .inr (.inr (some mi))), (1, .inr (.inr (some p))), (0, .inr (.inr (some 169)))], [], H) _
        refine mw_go mu_g485 (k := 2) (f1 := (90, [(2, .inl (0 : Int32)), (1, .inr (.inr (some p))), (0, .inr (.inr (some 169)))], [], H)) (C := []) rfl trivial ?_
        refine mw_sub (L' := [(2, .inl (nI 0)), (1, .inr (.inr (some p))), (0, .inr (.inr (some 169)))]) (by simp [nI]) ?_
        exact rp_st2 ht0 hp0 hty s1 (fun _ => ⟨i, hmt, rI_inj (by omega) (by omega) h4⟩) (tsn c) 0 (Nat.zero_add _) (fun i hi => absurd hi (Nat.not_lt_zero _))
      · -- 84
        refine mw_go mu_g485 (k := 1) (f1 := (85, [(2, .inr (.inr (some mi))), (1, .inr (.inr (some p))), (0, .inr (.inr (some 169)))], [.inl (0 : Int32), .inr (.inr (some 169))], H)) (C := []) rfl trivial ?_
        exact mw_cE (as := [.inl (0 : Int32)]) (o := some 169) (S1 := []) rfl rfl rfl rfl (Nat.le_of_ble_eq_true rfl) (by decide) tx9 rfl (by decide) (rp_sound (x := 0)) (fun H9 e9 => by rw [e9.2]; exact Or.inl ⟨_, rfl, (fun z => by obtain ⟨i2, hi2, hl2⟩ := z.2.1 ek2; rw [hmt] at hi2; have e := Option.some.inj hi2; subst e; exact h4 (by rw [hl2])), rfl⟩) (fun v9 H9 e9 => absurd rfl e9.1)
theorem rp_soundType {d lv r p dd : Nat} {H : mu_H} {F : Nat → Prop} {ms : List Mdl} {c : Tre} (ht : rtx H F lv r ms) (hp : nd H F dd p c) (hty : tyw c) : mu_TE 2 (mu_D (d + 5)) 485 [.inr (.inr (some 169)), .inr (.inr (some p))] H (fun H1 => ¬ sty ms c ∧ H1 = mu_ex H) (fun v H1 => sty ms c ∧ v = none ∧ H1 = H) := by
  have ht0 := ht
  have hp0 := hp
  refine mu_meth (M := mu_m485) rfl rfl ?_
  refine mw_ht (mu_fn_of (show [0, 1].Nodup by decide)) ?_
  obtain ⟨tx14, tx_is, tx_n, tx15, tx_m, tx9⟩ := ht
  obtain ⟨kd1, ⟨is1, nF1, lt1⟩, ⟨st1, sr1, sf1⟩, ⟨n2_1, n3_1, n7_1⟩, nm1, ar1, aq1, aF1, ai1, ⟨al1, am1, ax1⟩, ch1, dp1⟩ := nd.rd (c := c) hp
  refine mw_go mu_g485 (k := 2) (f1 := (4, [(0, .inr (.inr (some 169))), (1, .inr (.inr (some p)))], [.inr (.inr (some 1000071)), .inr (.inr (some p))], H)) (C := []) rfl trivial ?_
  refine mw_cIe (fun _ => rfl) (show mu_is H (some p) 18 from is1) (nd.isL (e := d + 1) (j := 71) hp (by decide)) ?_
  refine mw_if (P := (if tkd c = 71 then 1 else 0) = 0) (a := 40) (b := 10) (fun _ => rfl) trivial (fun hi2 => ?_) (fun hi2 => ?_)
  · -- 40
    have ek2 : ¬ tkd c = 71 := fun e => by rw [if_pos e] at hi2; exact absurd hi2 (by decide)
    refine mw_sub (L' := [(1, .inr (.inr (some p))), (0, .inr (.inr (some 169)))]) (by simp) ?_
    exact rp_st3 ht0 hp0 hty (fun e => absurd e ek2)
  · -- 10
    have ek2 : tkd c = 71 := Decidable.byContradiction (fun e => hi2 (if_neg e))
    have h2 := hty.r ek2
    obtain ⟨y3, yr3, yn3⟩ := ch1 0 (show 0 < tsn c by omega)
    have yn3 : nd H F (dd - 1) y3 (tkk c 0) := yn3
    obtain ⟨b1_3, b2_3, b3_3, b4_3⟩ := ar_at ai1 (by decide) (Nat.lt_of_lt_of_le (show 0 < tsn c by omega) al1) (Nat.lt_of_le_of_lt ax1 (by decide))
    have y2_3 : mu_r H ar1 (0 : Int32).toNatClampNeg = some y3 := yr3
    obtain ⟨kd4, ⟨is4, nF4, lt4⟩, ⟨st4, sr4, sf4⟩, ⟨n2_4, n3_4, n7_4⟩, nm4, ar4, aq4, aF4, ai4, ⟨al4, am4, ax4⟩, ch4, dp4⟩ := nd.rd (c := (tkk c 0)) yn3
    obtain ⟨y5, yr5, yn5⟩ := ch1 1 (show 1 < tsn c by omega)
    have yn5 : nd H F (dd - 1) y5 (tkk c 1) := yn5
    obtain ⟨b1_5, b2_5, b3_5, b4_5⟩ := ar_at ai1 (by decide) (Nat.lt_of_lt_of_le (show 1 < tsn c by omega) al1) (Nat.lt_of_le_of_lt ax1 (by decide))
    have y2_5 : mu_r H ar1 (1 : Int32).toNatClampNeg = some y5 := yr5
    obtain ⟨kd6, ⟨is6, nF6, lt6⟩, ⟨st6, sr6, sf6⟩, ⟨n2_6, n3_6, n7_6⟩, nm6, ar6, aq6, aF6, ai6, ⟨al6, am6, ax6⟩, ch6, dp6⟩ := nd.rd (c := (tkk c 1)) yn5
    refine mw_go mu_g485 (k := 3) (f1 := (15, [(0, .inr (.inr (some 169))), (1, .inr (.inr (some p)))], [.inr (.inr (mu_r H p 1)), .inr (.inr (some 169))], H)) (C := [mu_is H (some p) 18]) rfl (show mu_is H (some p) 18 from is1) ?_
    refine mw_fr (f' := (15, [(0, .inr (.inr (some 169))), (1, .inr (.inr (some p)))], [.inr (.inr (some ar1)), .inr (.inr (some 169))], H)) (by first | (rw [aq1]; done) | (rw [aq1]; rfl)) ?_
    refine mw_go mu_g485 (k := 2) (f1 := (17, [(0, .inr (.inr (some 169))), (1, .inr (.inr (some p)))], [.inr (.inr (mu_r H ar1 (0 : Int32).toNatClampNeg)), .inr (.inr (some 169))], H)) (C := [mu_is H (some ar1) (mu_k H ar1), 103 ≤ mu_k H ar1 ∧ mu_k H ar1 ≤ 110 ∧ mu_k H ar1 ≠ 108, vp_in (0 : Int32) (mu_n H ar1)]) rfl (show (mu_is H (some ar1) (mu_k H ar1)) ∧ (103 ≤ mu_k H ar1 ∧ mu_k H ar1 ≤ 110 ∧ mu_k H ar1 ≠ 108) ∧ (vp_in (0 : Int32) (mu_n H ar1)) from ⟨b1_5, b2_5, b3_3⟩) ?_
    refine mw_fr (f' := (17, [(0, .inr (.inr (some 169))), (1, .inr (.inr (some p)))], [.inr (.inr (some y3)), .inr (.inr (some 169))], H)) (by first | (rw [y2_3]; done) | (rw [y2_3]; rfl)) ?_
    refine mw_go mu_g485 (k := 1) (f1 := (20, [(0, .inr (.inr (some 169))), (1, .inr (.inr (some p)))], [.inl (mu_i H y3 3), .inr (.inr (some 169))], H)) (C := [mu_is H (some y3) 18]) rfl (show mu_is H (some y3) 18 from is4) ?_
    refine mw_fr (f' := (20, [(0, .inr (.inr (some 169))), (1, .inr (.inr (some p)))], [.inl (tnu (tkk c 0)), .inr (.inr (some 169))], H)) (by first | (rw [n3_4]; done) | (rw [n3_4]; rfl)) ?_
    refine mw_go mu_g485 (k := 2) (f1 := (24, [(0, .inr (.inr (some 169))), (1, .inr (.inr (some p)))], [.inr (.inr (mu_r H p 1)), .inl (tnu (tkk c 0)), .inr (.inr (some 169))], H)) (C := [mu_is H (some p) 18]) rfl (show mu_is H (some p) 18 from is1) ?_
    refine mw_fr (f' := (24, [(0, .inr (.inr (some 169))), (1, .inr (.inr (some p)))], [.inr (.inr (some ar1)), .inl (tnu (tkk c 0)), .inr (.inr (some 169))], H)) (by first | (rw [aq1]; done) | (rw [aq1]; rfl)) ?_
    refine mw_go mu_g485 (k := 2) (f1 := (26, [(0, .inr (.inr (some 169))), (1, .inr (.inr (some p)))], [.inr (.inr (mu_r H ar1 (1 : Int32).toNatClampNeg)), .inl (tnu (tkk c 0)), .inr (.inr (some 169))], H)) (C := [mu_is H (some ar1) (mu_k H ar1), 103 ≤ mu_k H ar1 ∧ mu_k H ar1 ≤ 110 ∧ mu_k H ar1 ≠ 108, vp_in (1 : Int32) (mu_n H ar1)]) rfl (show (mu_is H (some ar1) (mu_k H ar1)) ∧ (103 ≤ mu_k H ar1 ∧ mu_k H ar1 ≤ 110 ∧ mu_k H ar1 ≠ 108) ∧ (vp_in (1 : Int32) (mu_n H ar1)) from ⟨b1_5, b2_5, b3_5⟩) ?_
    refine mw_fr (f' := (26, [(0, .inr (.inr (some 169))), (1, .inr (.inr (some p)))], [.inr (.inr (some y5)), .inl (tnu (tkk c 0)), .inr (.inr (some 169))], H)) (by first | (rw [y2_5]; done) | (rw [y2_5]; rfl)) ?_
    refine mw_go mu_g485 (k := 1) (f1 := (29, [(0, .inr (.inr (some 169))), (1, .inr (.inr (some p)))], [.inl (mu_i H y5 3), .inl (tnu (tkk c 0)), .inr (.inr (some 169))], H)) (C := [mu_is H (some y5) 18]) rfl (show mu_is H (some y5) 18 from is6) ?_
    refine mw_fr (f' := (29, [(0, .inr (.inr (some 169))), (1, .inr (.inr (some p)))], [.inl (tnu (tkk c 1)), .inl (tnu (tkk c 0)), .inr (.inr (some 169))], H)) (by first | (rw [n3_6]; done) | (rw [n3_6]; rfl)) ?_
    refine mw_if (P := (tnu (tkk c 1)) < (tnu (tkk c 0))) (a := 36) (b := 32) (fun _ => rfl) trivial (fun h3 => ?_) (fun h3 => ?_)
    · -- 36
      refine mw_go mu_g485 (k := 1) (f1 := (37, [(0, .inr (.inr (some 169))), (1, .inr (.inr (some p)))], [.inl (0 : Int32), .inr (.inr (some 169))], H)) (C := []) rfl trivial ?_
      exact mw_cE (as := [.inl (0 : Int32)]) (o := some 169) (S1 := []) rfl rfl rfl rfl (Nat.le_of_ble_eq_true rfl) (by decide) tx9 rfl (by decide) (rp_sound (x := 0)) (fun H9 e9 => by rw [e9.2]; exact Or.inl ⟨_, rfl, (fun z => absurd (z.1 ek2) (Int32.not_le.mpr h3)), rfl⟩) (fun v9 H9 e9 => absurd rfl e9.1)
    · -- 32
      refine mw_go mu_g485 (k := 2) (f1 := (37, [(0, .inr (.inr (some 169))), (1, .inr (.inr (some p)))], [.inl (1 : Int32), .inr (.inr (some 169))], H)) (C := []) rfl trivial ?_
      refine mw_cE (as := [.inl (1 : Int32)]) (o := some 169) (S1 := []) rfl rfl rfl rfl (Nat.le_of_ble_eq_true rfl) (by decide) tx9 rfl (by decide) (rp_sound (x := 1)) (fun H9 e9 => absurd e9.1 (by decide)) (fun v9 H9 e9 => ?_)
      obtain ⟨_, rfl, e9⟩ := e9
      rw [e9]
      clear e9 H9
      show mu_W _ mu_m485 (40, [(0, .inr (.inr (some 169))), (1, .inr (.inr (some p)))], [], H) _
      refine mw_sub (L' := [(1, .inr (.inr (some p))), (0, .inr (.inr (some 169)))]) (by simp) ?_
      exact rp_st3 ht0 hp0 hty (fun _ => Int32.not_lt.mp h3)
