/-! THE PARSER: a MODULE's head, the symbols, the loop of parse -/
theorem nI_up {k : Nat} {x : Int32} (hk : k < 2147483648) (h : nI k < x) : k + 1 < 2147483648 := by
  have h1 := Int32.lt_iff_toInt_lt.mp h
  rw [nI_toInt (by omega)] at h1
  have h2 := x.toInt_lt
  omega
section ParserMain
variable {H : mu_H} {m B d : Nat}
/-- PathProver$Model.openModule(I)V -/
abbrev mu_m137 : ev_M := (3, none, [], ev_b137)
theorem mu_g137 : mu_good mu_m137 := mu_goodk ev_k137
theorem pa_open (h : ps m H) (hb : ps_pot m H ≤ 2097000) (v : Int32) : mu_TV (mu_D (d + 4)) 137 [.inr (.inr (some m)), .inl v] H (fun H1 => ps m H1 ∧ pt m B H H1 ∧ (∀ i, mu_i H1 80 i = mu_i H 80 i) ∧ gi_sz H1 89 = gi_sz H 89 ∧ ps_pot m H1 = ps_pot m H + 11) := by
  have hm := h.2.1
  refine mu_meth (M := mu_m137) rfl rfl ?_
  refine mw_ht (mu_fn_of (show [0, 1].Nodup by decide)) ?_
  refine mw_go mu_g137 (k := 2) (f1 := (4, [(0, .inr (.inr (some m))), (1, .inl v)], [.inr (.inr (mu_r H m 1))], H)) (C := [mu_is H (some m) 6]) rfl (show mu_is H (some m) 6 from h.im) ?_
  rw [h.r1]
  refine mw_go mu_g137 (k := 3) (f1 := (9, [(0, .inr (.inr (some m))), (1, .inl v)], [.inr (.inr (mu_r H m 2)), .inl v, .inr (.inr (some (m + 3)))], H)) (C := [mu_is H (some m) 6]) rfl (show mu_is H (some m) 6 from h.im) ?_
  rw [h.r2]
  refine mw_go mu_g137 (k := 3) (f1 := (16, [(0, .inr (.inr (some m))), (1, .inl v)], [.inr (.inr (mu_r H m 3)), .inl (mu_i H (m + 5) 2), .inl v, .inr (.inr (some (m + 3)))], H)) (C := [mu_is H (some (m + 5)) 10, mu_is H (some m) 6]) rfl (show (mu_is H (some (m + 5)) 10) ∧ (mu_is H (some m) 6) from ⟨h.i2, h.im⟩) ?_
  rw [h.r3]
  refine mw_go mu_g137 (k := 3) (f1 := (23, [(0, .inr (.inr (some m))), (1, .inl v)], [.inr (.inr (mu_r H m 6)), .inl (mu_i H (m + 7) 2), .inl (mu_i H (m + 5) 2), .inl v, .inr (.inr (some (m + 3)))], H)) (C := [mu_is H (some (m + 7)) 10, mu_is H (some m) 6]) rfl (show (mu_is H (some (m + 7)) 10) ∧ (mu_is H (some m) 6) from ⟨h.i3, h.im⟩) ?_
  rw [h.r6]
  refine mw_go mu_g137 (k := 1) (f1 := (26, [(0, .inr (.inr (some m))), (1, .inl v)], [.inl (mu_i H (m + 13) 2), .inl (mu_i H (m + 7) 2), .inl (mu_i H (m + 5) 2), .inl v, .inr (.inr (some (m + 3)))], H)) (C := [mu_is H (some (m + 13)) 10]) rfl (show mu_is H (some (m + 13)) 10 from h.i6) ?_
  refine mw_cI (fun _ => rfl) (show mu_is H (some (m + 3)) 10 from h.i1) (ps_put1 (d := d) (B := B) h (by omega) v (mu_i H (m + 5) 2) (mu_i H (m + 7) 2) (mu_i H (m + 13) 2)) (fun x1 H1 q1 => ?_)
  obtain ⟨hp1, qt1, qx1, qi1, qs1, qb1⟩ := q1
  have ht1 := (pt.refl m B H).trans qt1
  refine mw_go mu_g137 (k := 3) (f1 := (34, [(2, .inl x1), (0, .inr (.inr (some m))), (1, .inl v)], [.inr (.inr (mu_r H1 m 1))], H1)) (C := [mu_is H1 (some m) 6]) rfl (show mu_is H1 (some m) 6 from hp1.im) ?_
  rw [hp1.r1]
  refine mw_go mu_g137 (k := 4) (f1 := (40, [(2, .inl x1), (0, .inr (.inr (some m))), (1, .inl v)], [.inr (.inr (mu_r H1 m 7)), .inl (4 : Int32), .inl x1, .inr (.inr (some (m + 3)))], H1)) (C := [mu_is H1 (some m) 6]) rfl (show mu_is H1 (some m) 6 from hp1.im) ?_
  rw [hp1.r7]
  refine mw_go mu_g137 (k := 1) (f1 := (43, [(2, .inl x1), (0, .inr (.inr (some m))), (1, .inl v)], [.inl (mu_i H1 (m + 15) 2), .inl (4 : Int32), .inl x1, .inr (.inr (some (m + 3)))], H1)) (C := [mu_is H1 (some (m + 15)) 10]) rfl (show mu_is H1 (some (m + 15)) 10 from hp1.i7) ?_
  refine mw_cV (fun _ => rfl) (show mu_is H1 (some (m + 3)) 10 from hp1.i1) (gi_set_ok (d := (d + 2)) hp1.1 hp1.w1 x1 (mu_i H1 (m + 15) 2) (j := 4) (by decide)) (fun H2 q2 => ?_)
  obtain ⟨hp2, qt2, qi2, qs2, qb2⟩ := ps_set (B := B) hp1 (j := 4) (row := x1) (v := (mu_i H1 (m + 15) 2)) hp1.w1 (by omega)
  rw [← q2] at hp2 qt2 qi2 qs2 qb2
  have ht2 := ht1.trans qt2
  refine mw_go mu_g137 (k := 2) (f1 := (50, [(2, .inl x1), (0, .inr (.inr (some m))), (1, .inl v)], [.inr (.inr (mu_r H2 m 1))], H2)) (C := [mu_is H2 (some m) 6]) rfl (show mu_is H2 (some m) 6 from hp2.im) ?_
  rw [hp2.r1]
  refine mw_go mu_g137 (k := 4) (f1 := (56, [(2, .inl x1), (0, .inr (.inr (some m))), (1, .inl v)], [.inr (.inr (mu_r H2 m 8)), .inl (5 : Int32), .inl x1, .inr (.inr (some (m + 3)))], H2)) (C := [mu_is H2 (some m) 6]) rfl (show mu_is H2 (some m) 6 from hp2.im) ?_
  rw [hp2.r8]
  refine mw_go mu_g137 (k := 1) (f1 := (59, [(2, .inl x1), (0, .inr (.inr (some m))), (1, .inl v)], [.inl (mu_i H2 (m + 17) 2), .inl (5 : Int32), .inl x1, .inr (.inr (some (m + 3)))], H2)) (C := [mu_is H2 (some (m + 17)) 10]) rfl (show mu_is H2 (some (m + 17)) 10 from hp2.i8) ?_
  refine mw_cV (fun _ => rfl) (show mu_is H2 (some (m + 3)) 10 from hp2.i1) (gi_set_ok (d := (d + 2)) hp2.1 hp2.w1 x1 (mu_i H2 (m + 17) 2) (j := 5) (by decide)) (fun H3 q3 => ?_)
  obtain ⟨hp3, qt3, qi3, qs3, qb3⟩ := ps_set (B := B) hp2 (j := 5) (row := x1) (v := (mu_i H2 (m + 17) 2)) hp2.w1 (by omega)
  rw [← q3] at hp3 qt3 qi3 qs3 qb3
  have ht3 := ht2.trans qt3
  refine mw_go mu_g137 (k := 2) (f1 := (66, [(2, .inl x1), (0, .inr (.inr (some m))), (1, .inl v)], [.inr (.inr (mu_r H3 m 1))], H3)) (C := [mu_is H3 (some m) 6]) rfl (show mu_is H3 (some m) 6 from hp3.im) ?_
  rw [hp3.r1]
  refine mw_go mu_g137 (k := 4) (f1 := (73, [(2, .inl x1), (0, .inr (.inr (some m))), (1, .inl v)], [.inr (.inr (mu_r H3 m 9)), .inl (6 : Int32), .inl x1, .inr (.inr (some (m + 3)))], H3)) (C := [mu_is H3 (some m) 6]) rfl (show mu_is H3 (some m) 6 from hp3.im) ?_
  rw [hp3.r9]
  refine mw_go mu_g137 (k := 1) (f1 := (76, [(2, .inl x1), (0, .inr (.inr (some m))), (1, .inl v)], [.inl (mu_i H3 (m + 19) 2), .inl (6 : Int32), .inl x1, .inr (.inr (some (m + 3)))], H3)) (C := [mu_is H3 (some (m + 19)) 10]) rfl (show mu_is H3 (some (m + 19)) 10 from hp3.i9) ?_
  refine mw_cV (fun _ => rfl) (show mu_is H3 (some (m + 3)) 10 from hp3.i1) (gi_set_ok (d := (d + 2)) hp3.1 hp3.w1 x1 (mu_i H3 (m + 19) 2) (j := 6) (by decide)) (fun H4 q4 => ?_)
  obtain ⟨hp4, qt4, qi4, qs4, qb4⟩ := ps_set (B := B) hp3 (j := 6) (row := x1) (v := (mu_i H3 (m + 19) 2)) hp3.w1 (by omega)
  rw [← q4] at hp4 qt4 qi4 qs4 qb4
  have ht4 := ht3.trans qt4
  exact mw_of (fun _ => mu_ret rfl trivial ⟨H4, rfl, hp4, ht4, (fun j => by rw [qi4]; rw [qi3]; rw [qi2]; rw [qi1]), by omega, by omega⟩)
/-- PathProver$Parser.module()Z -/
abbrev mu_m47 : ev_M := (1, (some .boolean), [], ev_b47)
theorem mu_g47 : mu_good mu_m47 := mu_goodk ev_k47
theorem pa_module (h : ps m H) (hBB : B ≤ 1000000) (hB : ps_pot m H ≤ B + 80) : mu_TI (mu_D (d + 5)) 47 [.inr (.inr (some 80))] H (fun x H1 => (x = 0 ∧ ps m H1 ∧ pt m B H H1 ∧ ps_pot m H1 ≤ ps_pot m H + 60) ∨ (x = 1 ∧ ps m H1 ∧ pt m B H H1 ∧ ps_pot m H1 + 0 ≤ ps_pot m H)) := by
  refine mu_meth (M := mu_m47) rfl rfl ?_
  refine mw_ht (mu_fn_of (show [0].Nodup by decide)) ?_
  refine mw_go mu_g47 (k := 2) (f1 := (2, [(0, .inr (.inr (some 80)))], [.inl (0 : Int32), .inr (.inr (some 80))], H)) (C := []) rfl trivial ?_
  refine mw_cI (fun _ => rfl) (show mu_is H (some 80) 7 from h.1.is rfl) (pa_take (d := (d + 1)) (B := B) h (0 : Int32) (by decide)) (fun x1 H1 q1 => ?_)
  rcases q1 with ⟨rfl, rfl, qe1⟩ | ⟨rfl, hp1, qt1, qk1, qb1, qe1⟩
  · -- (0 : Int32)
    refine mw_if (P := (0 : Int32) = 0) (a := 8) (b := 10) (fun _ => rfl) trivial (fun h2 => ?_) (fun h2 => absurd (by decide) h2)
    refine mw_go mu_g47 (k := 1) (f1 := (9, [(0, .inr (.inr (some 80)))], [.inl (0 : Int32)], H)) (C := []) rfl trivial ?_
    exact mw_of (fun _ => mu_ret rfl (Or.inl rfl) ⟨_, H, rfl, Or.inl ⟨rfl, h, (pt.refl m B H), by omega⟩⟩)
  · -- (1 : Int32)
    have ht1 := (pt.refl m B H).trans qt1
    have qs1 : gi_sz H1 89 = gi_sz H 89 := qk1.2
    refine mw_if (P := (1 : Int32) = 0) (a := 8) (b := 10) (fun _ => rfl) trivial (fun h3 => absurd h3 (by decide)) (fun h3 => ?_)
    refine mw_go mu_g47 (k := 2) (f1 := (14, [(0, .inr (.inr (some 80)))], [.inr (.inr (mu_r H1 80 2))], H1)) (C := [mu_is H1 (some 80) 7]) rfl (show mu_is H1 (some 80) 7 from hp1.1.is rfl) ?_
    rw [hp1.m80]
    refine mw_go mu_g47 (k := 2) (f1 := (18, [(0, .inr (.inr (some 80)))], [.inl (mu_i H1 80 5), .inr (.inr (some m))], H1)) (C := [mu_is H1 (some 80) 7]) rfl (show mu_is H1 (some 80) 7 from hp1.1.is rfl) ?_
    refine mw_cV (fun _ => rfl) (show mu_is H1 (some m) 6 from hp1.im) (pa_open (d := d) (B := B) hp1 (by omega) (mu_i H1 80 5)) (fun H4 q4 => ?_)
    obtain ⟨hp4, qt4, qi4, qs4, qb4⟩ := q4
    have ht4 := ht1.trans qt4
    refine mw_go mu_g47 (k := 5) (f1 := (29, [(0, .inr (.inr (some 80)))], [.inl (112 : Int32), .inr (.inr (some 80))], (mu_si H4 80 6 (1 : Int32)))) (C := [mu_is H4 (some 80) 7]) rfl (show mu_is H4 (some 80) 7 from hp4.1.is rfl) ?_
    have hp5 : ps m (mu_si H4 80 6 (1 : Int32)) := hp4.si (by decide) (by decide)
    have ht5 : pt m B H (mu_si H4 80 6 (1 : Int32)) := ht4.trans (pt.si hp4)
    have hb5 : ps_pot m (mu_si H4 80 6 (1 : Int32)) + ps_mp (mu_i H4 80 6) = ps_pot m H4 + 0 := ps_pot6 hp4 (1 : Int32)
    have hc5 : ps_mp (mu_i H4 80 6) = ps_mp (mu_i H 80 6) := congrArg ps_mp (show mu_i H4 80 6 = (mu_i H 80 6) from ((qi4 6).trans (qk1.1 6 (by decide))))
    have hs5 : gi_sz (mu_si H4 80 6 (1 : Int32)) 89 = gi_sz H4 89 := rfl
    have hi6_3 : mu_i (mu_si H4 80 6 (1 : Int32)) 80 3 = (mu_i H1 80 3) := (qi4 3)
    have hi6_4 : mu_i (mu_si H4 80 6 (1 : Int32)) 80 4 = (mu_i H1 80 4) := (qi4 4)
    have hi6_5 : mu_i (mu_si H4 80 6 (1 : Int32)) 80 5 = (mu_i H1 80 5) := (qi4 5)
    have hi6_7 : mu_i (mu_si H4 80 6 (1 : Int32)) 80 7 = (mu_i H 80 7) := ((qi4 7).trans (qk1.1 7 (by decide)))
    have hi6_8 : mu_i (mu_si H4 80 6 (1 : Int32)) 80 8 = (mu_i H 80 8) := ((qi4 8).trans (qk1.1 8 (by decide)))
    have hi6_9 : mu_i (mu_si H4 80 6 (1 : Int32)) 80 9 = (mu_i H 80 9) := ((qi4 9).trans (qk1.1 9 (by decide)))
    have hi6_10 : mu_i (mu_si H4 80 6 (1 : Int32)) 80 10 = (mu_i H 80 10) := ((qi4 10).trans (qk1.1 10 (by decide)))
    have hi6_11 : mu_i (mu_si H4 80 6 (1 : Int32)) 80 11 = (mu_i H 80 11) := ((qi4 11).trans (qk1.1 11 (by decide)))
    refine mw_cI (fun _ => rfl) (show mu_is (mu_si H4 80 6 (1 : Int32)) (some 80) 7 from hp5.1.is rfl) (pa_take (d := (d + 1)) (B := B) hp5 (112 : Int32) (by decide)) (fun x7 H7 q7 => ?_)
    rcases q7 with ⟨rfl, rfl, qe7⟩ | ⟨rfl, hp7, qt7, qk7, qb7, qe7⟩
    · -- (0 : Int32)
      refine mw_if (P := (0 : Int32) = 0) (a := 55) (b := 35) (fun _ => rfl) trivial (fun h8 => ?_) (fun h8 => absurd (by decide) h8)
      refine mw_go mu_g47 (k := 1) (f1 := (56, [(0, .inr (.inr (some 80)))], [.inl (0 : Int32)], (mu_si H4 80 6 (1 : Int32)))) (C := []) rfl trivial ?_
      exact mw_of (fun _ => mu_ret rfl (Or.inl rfl) ⟨_, (mu_si H4 80 6 (1 : Int32)), rfl, Or.inl ⟨rfl, hp5, ht5, by omega⟩⟩)
    · -- (1 : Int32)
      have ht7 := ht5.trans qt7
      have qs7 : gi_sz H7 89 = gi_sz (mu_si H4 80 6 (1 : Int32)) 89 := qk7.2
      refine mw_if (P := (1 : Int32) = 0) (a := 55) (b := 35) (fun _ => rfl) trivial (fun h9 => absurd h9 (by decide)) (fun h9 => ?_)
      refine mw_go mu_g47 (k := 3) (f1 := (41, [(0, .inr (.inr (some 80)))], [.inl (64 : Int32), .inl (mu_i H7 80 4)], H7)) (C := [mu_is H7 (some 80) 7]) rfl (show mu_is H7 (some 80) 7 from hp7.1.is rfl) ?_
      refine mw_if (P := (mu_i H7 80 4) = (64 : Int32)) (a := 44) (b := 51) (fun _ => rfl) trivial (fun h10 => ?_) (fun h10 => ?_)
      · -- 44: (mu_i H7 80 4) = (64 : Int32)
        refine mw_go mu_g47 (k := 1) (f1 := (45, [(0, .inr (.inr (some 80)))], [.inr (.inr (some 80))], H7)) (C := []) rfl trivial ?_
        refine mw_cI (fun _ => rfl) (show mu_is H7 (some 80) 7 from hp7.1.is rfl) (pa_params (d := d) (B := B) hp7 hBB (by omega) (show mu_i H7 80 4 < 114 from (show (mu_i H7 80 4) < 114 from (by rw [h10]; decide)))) (fun x11 H11 q11 => ?_)
        rcases q11 with ⟨rfl, hp11, qt11, qb11⟩ | ⟨rfl, hp11, qt11, qb11⟩
        · -- (0 : Int32)
          have ht11 := ht7.trans qt11
          have hc11 : ps_mp (mu_i H7 80 6) = 0 := by rw [show mu_i H7 80 6 = (1 : Int32) from (qk7.1 6 (by decide))]; rfl
          refine mw_if (P := (0 : Int32) = 0) (a := 55) (b := 51) (fun _ => rfl) trivial (fun h12 => ?_) (fun h12 => absurd (by decide) h12)
          refine mw_go mu_g47 (k := 1) (f1 := (56, [(0, .inr (.inr (some 80)))], [.inl (0 : Int32)], H11)) (C := []) rfl trivial ?_
          exact mw_of (fun _ => mu_ret rfl (Or.inl rfl) ⟨_, H11, rfl, Or.inl ⟨rfl, hp11, ht11, by omega⟩⟩)
        · -- (1 : Int32)
          have ht11 := ht7.trans qt11
          have hc11 : ps_mp (mu_i H7 80 6) = 0 := by rw [show mu_i H7 80 6 = (1 : Int32) from (qk7.1 6 (by decide))]; rfl
          refine mw_if (P := (1 : Int32) = 0) (a := 55) (b := 51) (fun _ => rfl) trivial (fun h13 => absurd h13 (by decide)) (fun h13 => ?_)
          refine mw_go mu_g47 (k := 2) (f1 := (56, [(0, .inr (.inr (some 80)))], [.inl (1 : Int32)], H11)) (C := []) rfl trivial ?_
          exact mw_of (fun _ => mu_ret rfl (Or.inr rfl) ⟨_, H11, rfl, Or.inr ⟨rfl, hp11, ht11, by omega⟩⟩)
      · -- 51: not (mu_i H7 80 4) = (64 : Int32)
        refine mw_go mu_g47 (k := 2) (f1 := (56, [(0, .inr (.inr (some 80)))], [.inl (1 : Int32)], H7)) (C := []) rfl trivial ?_
        exact mw_of (fun _ => mu_ret rfl (Or.inr rfl) ⟨_, H7, rfl, Or.inr ⟨rfl, hp7, ht7, by omega⟩⟩)
/-- PathProver$Parser.giveSymbols()V -/
abbrev mu_m146 : ev_M := (3, none, [], ev_b146)
theorem mu_g146 : mu_good mu_m146 := mu_goodk ev_k146
theorem pa_symbols (h : ps m H) : mu_TV (mu_D (d + 3)) 146 [.inr (.inr (some 80))] H (fun H1 => ps m H1 ∧ pt m B H H1 ∧ ps_pot m H1 = ps_pot m H) := by
  have hm := h.2.1
  refine mu_meth (M := mu_m146) rfl rfl ?_
  refine mw_ht (mu_fn_of (show [0].Nodup by decide)) ?_
  refine mw_go mu_g146 (k := 2) (f1 := (2, [(1, .inl (0 : Int32)), (0, .inr (.inr (some 80)))], [], H)) (C := []) rfl trivial ?_
  have hk : ∀ j, j ≠ 1000 → mu_i H 80 j = mu_i H 80 j := (fun j hj => by rfl)
  show mu_W _ _ (2, [(1, .inl (nI 0)), (0, .inr (.inr (some 80)))], [], H) _
  refine mw_sub (L' := [(1, .inl (nI 0)), (0, .inr (.inr (some 80)))]) (by simp) ?_
  refine mw_down (α := Nat × mu_H) (fun s => (2, [(1, .inl (nI s.1)), (0, .inr (.inr (some 80)))], [], s.2)) (fun s => 2147483648 - s.1) (fun s => (ps m s.2) ∧ (pt m B H s.2) ∧ (∀ j, j ≠ 1000 → mu_i s.2 80 j = mu_i H 80 j) ∧ (ps_pot m s.2 = ps_pot m H) ∧ (s.1 < 2147483648)) (fun s hs ih => ?_) (0, H) ⟨h, (pt.refl m B H), hk, (show ps_pot m H = ps_pot m H from by omega), (show 0 < 2147483648 from by omega)⟩
  obtain ⟨k, Hs⟩ := s
  obtain ⟨hps, hts, his, hbs, hks⟩ := hs
  have hps : ps m Hs := hps
  have hts : pt m B H Hs := hts
  have his : ∀ j, j ≠ 1000 → mu_i Hs 80 j = mu_i H 80 j := his
  have hbs : ps_pot m Hs = ps_pot m H := hbs
  have hks : k < 2147483648 := hks
  show mu_W _ _ (2, [(1, .inl (nI k)), (0, .inr (.inr (some 80)))], [], Hs) _
  refine mw_go mu_g146 (k := 3) (f1 := (7, [(1, .inl (nI k)), (0, .inr (.inr (some 80)))], [.inr (.inr (mu_r Hs 80 2)), .inl (nI k)], Hs)) (C := [mu_is Hs (some 80) 7]) rfl (show mu_is Hs (some 80) 7 from hps.1.is rfl) ?_
  rw [hps.m80]
  refine mw_go mu_g146 (k := 1) (f1 := (10, [(1, .inl (nI k)), (0, .inr (.inr (some 80)))], [.inr (.inr (mu_r Hs m 9)), .inl (nI k)], Hs)) (C := [mu_is Hs (some m) 6]) rfl (show mu_is Hs (some m) 6 from hps.im) ?_
  rw [hps.r9]
  refine mw_go mu_g146 (k := 1) (f1 := (13, [(1, .inl (nI k)), (0, .inr (.inr (some 80)))], [.inl (mu_i Hs (m + 19) 2), .inl (nI k)], Hs)) (C := [mu_is Hs (some (m + 19)) 10]) rfl (show mu_is Hs (some (m + 19)) 10 from hps.i9) ?_
  refine mw_if (P := (nI k) < (mu_i Hs (m + 19) 2)) (a := 16) (b := 66) (fun _ => rfl) trivial (fun h1 => ?_) (fun h1 => ?_)
  · -- 16: (nI k) < (mu_i Hs (m + 19) 2)
    have hk2 := nI_up hks h1
    refine mw_go mu_g146 (k := 2) (f1 := (20, [(1, .inl (nI k)), (0, .inr (.inr (some 80)))], [.inr (.inr (mu_r Hs 80 0))], Hs)) (C := [mu_is Hs (some 80) 7]) rfl (show mu_is Hs (some 80) 7 from hps.1.is rfl) ?_
    rw [(hps.1.r (p := 80) (j := 0) (q := 81) rfl)]
    refine mw_go mu_g146 (k := 2) (f1 := (24, [(1, .inl (nI k)), (0, .inr (.inr (some 80)))], [.inr (.inr (mu_r Hs 80 2)), .inr (.inr (some 81))], Hs)) (C := [mu_is Hs (some 80) 7]) rfl (show mu_is Hs (some 80) 7 from hps.1.is rfl) ?_
    rw [hps.m80]
    refine mw_go mu_g146 (k := 1) (f1 := (27, [(1, .inl (nI k)), (0, .inr (.inr (some 80)))], [.inr (.inr (mu_r Hs m 10)), .inr (.inr (some 81))], Hs)) (C := [mu_is Hs (some m) 6]) rfl (show mu_is Hs (some m) 6 from hps.im) ?_
    rw [hps.r10]
    refine mw_go mu_g146 (k := 2) (f1 := (31, [(1, .inl (nI k)), (0, .inr (.inr (some 80)))], [.inr (.inr (mu_r Hs 80 2)), .inr (.inr (some (m + 21))), .inr (.inr (some 81))], Hs)) (C := [mu_is Hs (some 80) 7]) rfl (show mu_is Hs (some 80) 7 from hps.1.is rfl) ?_
    rw [hps.m80]
    refine mw_go mu_g146 (k := 1) (f1 := (34, [(1, .inl (nI k)), (0, .inr (.inr (some 80)))], [.inr (.inr (mu_r Hs m 9)), .inr (.inr (some (m + 21))), .inr (.inr (some 81))], Hs)) (C := [mu_is Hs (some m) 6]) rfl (show mu_is Hs (some m) 6 from hps.im) ?_
    rw [hps.r9]
    refine mw_go mu_g146 (k := 2) (f1 := (36, [(1, .inl (nI k)), (0, .inr (.inr (some 80)))], [.inl (0 : Int32), .inl (nI k), .inr (.inr (some (m + 19))), .inr (.inr (some (m + 21))), .inr (.inr (some 81))], Hs)) (C := []) rfl trivial ?_
    refine mw_cIe (fun _ => rfl) (show mu_is Hs (some (m + 19)) 10 from hps.i9) (gi_get_ok (d := (d + 1)) (H := Hs) hps.1 hps.w9 (nI k) (j := 0) (by decide)) ?_
    refine mw_go mu_g146 (k := 1) (f1 := (40, [(1, .inl (nI k)), (0, .inr (.inr (some 80)))], [.inl (0 : Int32), .inl (rw_get Hs (m + 19) 4 (gi_sz Hs (m + 19)) (nI k) 0), .inr (.inr (some (m + 21))), .inr (.inr (some 81))], Hs)) (C := []) rfl trivial ?_
    refine mw_cIe (fun _ => rfl) (show mu_is Hs (some (m + 21)) 10 from hps.i10) (gi_get_ok (d := (d + 1)) (H := Hs) hps.1 hps.w10 (rw_get Hs (m + 19) 4 (gi_sz Hs (m + 19)) (nI k) 0) (j := 0) (by decide)) ?_
    refine mw_cIe (fun _ => rfl) (show mu_is Hs (some 81) 4 from hps.1.is rfl) (lx_symbolOf_ok (d := d) (w := (rw_get Hs (m + 21) 1 (gi_sz Hs (m + 21)) (rw_get Hs (m + 19) 4 (gi_sz Hs (m + 19)) (nI k) 0) 0)) (hps.1.is rfl) (hps.1.r (p := 81) (j := 9) (q := 86) rfl).symm (hps.1.w (r := 86) (W := 4) rfl)) ?_
    refine mw_go mu_g146 (k := 3) (f1 := (51, [(2, .inl (rw_get Hs 86 4 (gi_sz Hs 86) (rw_get Hs (m + 21) 1 (gi_sz Hs (m + 21)) (rw_get Hs (m + 19) 4 (gi_sz Hs (m + 19)) (nI k) 0) 0) 3)), (1, .inl (nI k)), (0, .inr (.inr (some 80)))], [.inr (.inr (mu_r Hs 80 2))], Hs)) (C := [mu_is Hs (some 80) 7]) rfl (show mu_is Hs (some 80) 7 from hps.1.is rfl) ?_
    rw [hps.m80]
    refine mw_go mu_g146 (k := 1) (f1 := (54, [(2, .inl (rw_get Hs 86 4 (gi_sz Hs 86) (rw_get Hs (m + 21) 1 (gi_sz Hs (m + 21)) (rw_get Hs (m + 19) 4 (gi_sz Hs (m + 19)) (nI k) 0) 0) 3)), (1, .inl (nI k)), (0, .inr (.inr (some 80)))], [.inr (.inr (mu_r Hs m 9))], Hs)) (C := [mu_is Hs (some m) 6]) rfl (show mu_is Hs (some m) 6 from hps.im) ?_
    rw [hps.r9]
    refine mw_go mu_g146 (k := 3) (f1 := (57, [(2, .inl (rw_get Hs 86 4 (gi_sz Hs 86) (rw_get Hs (m + 21) 1 (gi_sz Hs (m + 21)) (rw_get Hs (m + 19) 4 (gi_sz Hs (m + 19)) (nI k) 0) 0) 3)), (1, .inl (nI k)), (0, .inr (.inr (some 80)))], [.inl (rw_get Hs 86 4 (gi_sz Hs 86) (rw_get Hs (m + 21) 1 (gi_sz Hs (m + 21)) (rw_get Hs (m + 19) 4 (gi_sz Hs (m + 19)) (nI k) 0) 0) 3), .inl (3 : Int32), .inl (nI k), .inr (.inr (some (m + 19)))], Hs)) (C := []) rfl trivial ?_
    refine mw_cV (fun _ => rfl) (show mu_is Hs (some (m + 19)) 10 from hps.i9) (gi_set_ok (d := (d + 1)) hps.1 hps.w9 (nI k) (rw_get Hs 86 4 (gi_sz Hs 86) (rw_get Hs (m + 21) 1 (gi_sz Hs (m + 21)) (rw_get Hs (m + 19) 4 (gi_sz Hs (m + 19)) (nI k) 0) 0) 3) (j := 3) (by decide)) (fun H5 q5 => ?_)
    obtain ⟨hp5, qt5, qi5, qs5, qb5⟩ := ps_set (B := B) hps (j := 3) (row := (nI k)) (v := (rw_get Hs 86 4 (gi_sz Hs 86) (rw_get Hs (m + 21) 1 (gi_sz Hs (m + 21)) (rw_get Hs (m + 19) 4 (gi_sz Hs (m + 19)) (nI k) 0) 0) 3)) hps.w9 (by omega)
    rw [← q5] at hp5 qt5 qi5 qs5 qb5
    have ht5 := hts.trans qt5
    refine mw_go mu_g146 (k := 2) (f1 := (2, [(1, .inl ((nI k) + 1)), (2, .inl (rw_get Hs 86 4 (gi_sz Hs 86) (rw_get Hs (m + 21) 1 (gi_sz Hs (m + 21)) (rw_get Hs (m + 19) 4 (gi_sz Hs (m + 19)) (nI k) 0) 0) 3)), (0, .inr (.inr (some 80)))], [], H5)) (C := []) rfl trivial ?_
    have hk : ∀ j, j ≠ 1000 → mu_i H5 80 j = mu_i H 80 j := (fun j hj => by rw [qi5]; rw [his j (by omega)])
    rw [nI_1]
    exact mw_sub (by simp) (ih (k + 1, H5) ⟨hp5, ht5, hk, (show ps_pot m H5 = ps_pot m H from by omega), (show (k + 1) < 2147483648 from by omega)⟩ (by show 2147483648 - (k + 1) < 2147483648 - k; omega))
  · -- 66: not (nI k) < (mu_i Hs (m + 19) 2)
    exact mw_of (fun _ => mu_ret rfl trivial ⟨Hs, rfl, hps, hts, by omega⟩)
/-- PathProver$Parser.parse(LPathProver$Model;[BI)I -/
abbrev mu_m35 : ev_M := (6, (some .int), [], ev_b35)
theorem mu_g35 : mu_good mu_m35 := mu_goodk ev_k35
theorem pa_main {Φ : mu_R → Prop} (h : ps m H) (hBB : B ≤ 1000000) (hB : ps_pot m H ≤ B) (y0 : Int32) {k0 : Nat} (hk0 : k0 ≤ 524288) (hy0 : y0 = 0 ∨ y0 = 1) (hΦ : ∀ x H1, ps m H1 → pt m B H H1 → ps_pot m H1 ≤ ps_pot m H + 60 → Φ (.inl (some (.inl x)), H1)) : mu_W (mu_D (d + 9)) mu_m35 (48, [(4, .inl y0), (5, .inl (nI k0)), (0, .inr (.inr (some 80)))], [], H) Φ := by
  have hk : ∀ j, False → mu_i H 80 j = mu_i H 80 j := (fun _ hj => hj.elim)
  refine mw_sub (L' := [(4, .inl y0), (5, .inl (nI k0)), (0, .inr (.inr (some 80)))]) (by simp) ?_
  refine mw_down (α := Int32 × Nat × mu_H) (fun s => (48, [(4, .inl s.1), (5, .inl (nI s.2.1)), (0, .inr (.inr (some 80)))], [], s.2.2)) (fun s => 524288 - s.2.1) (fun s => (ps m s.2.2) ∧ (pt m B H s.2.2) ∧ (∀ j, False → mu_i s.2.2 80 j = mu_i H 80 j) ∧ (ps_pot m s.2.2 ≤ ps_pot m H + 60) ∧ (¬ s.1 = 0 → ps_pot m s.2.2 ≤ ps_pot m H) ∧ (s.2.1 ≤ 524288)) (fun s hs ih => ?_) (y0, k0, H) ⟨h, (pt.refl m B H), hk, (show ps_pot m H ≤ ps_pot m H + 60 from by omega), (show ¬ y0 = 0 → ps_pot m H ≤ ps_pot m H from (fun _ => by omega)), (show k0 ≤ 524288 from by omega)⟩
  obtain ⟨y, k, Hs⟩ := s
  obtain ⟨hps, hts, his, hbs, hbt, hks⟩ := hs
  have hps : ps m Hs := hps
  have hts : pt m B H Hs := hts
  have his : ∀ j, False → mu_i Hs 80 j = mu_i H 80 j := his
  have hbs : ps_pot m Hs ≤ ps_pot m H + 60 := hbs
  have hbt : ¬ y = 0 → ps_pot m Hs ≤ ps_pot m H := hbt
  have hks : k ≤ 524288 := hks
  show mu_W _ _ (48, [(4, .inl y), (5, .inl (nI k)), (0, .inr (.inr (some 80)))], [], Hs) _
  refine mw_go mu_g35 (k := 2) (f1 := (52, [(4, .inl y), (5, .inl (nI k)), (0, .inr (.inr (some 80)))], [.inl (524288 : Int32), .inl (nI k)], Hs)) (C := []) rfl trivial ?_
  refine mw_if (P := (nI k) < (524288 : Int32)) (a := 55) (b := 278) (fun _ => rfl) trivial (fun h1 => ?_) (fun h1 => ?_)
  · -- 55: (nI k) < (524288 : Int32)
    have hk2 : k < 524288 := (nI_ltI (b := 524288) (by omega) (by decide)).mp h1
    refine mw_go mu_g35 (k := 1) (f1 := (57, [(4, .inl y), (5, .inl (nI k)), (0, .inr (.inr (some 80)))], [.inl y], Hs)) (C := []) rfl trivial ?_
    refine mw_if (P := y = 0) (a := 278) (b := 60) (fun _ => rfl) trivial (fun h2 => ?_) (fun h2 => ?_)
    · -- 278: y = 0
      refine mw_go mu_g35 (k := 1) (f1 := (280, [(4, .inl y), (5, .inl (nI k)), (0, .inr (.inr (some 80)))], [.inl y], Hs)) (C := []) rfl trivial ?_
      refine mw_if (P := y = 0) (a := 283) (b := 299) (fun _ => rfl) trivial (fun _ => ?_) (fun h3 => absurd h2 h3)
      refine mw_go mu_g35 (k := 2) (f1 := (287, [(4, .inl y), (5, .inl (nI k)), (0, .inr (.inr (some 80)))], [.inr (.inr (mu_r Hs 80 0))], Hs)) (C := [mu_is Hs (some 80) 7]) rfl (show mu_is Hs (some 80) 7 from hps.1.is rfl) ?_
      rw [(hps.1.r (p := 80) (j := 0) (q := 81) rfl)]
      refine mw_go mu_g35 (k := 1) (f1 := (290, [(4, .inl y), (5, .inl (nI k)), (0, .inr (.inr (some 80)))], [.inr (.inr (mu_r Hs 81 5))], Hs)) (C := [mu_is Hs (some 81) 4]) rfl (show mu_is Hs (some 81) 4 from hps.1.is rfl) ?_
      rw [(hps.1.r (p := 81) (j := 5) (q := 82) rfl)]
      refine mw_go mu_g35 (k := 3) (f1 := (295, [(4, .inl y), (5, .inl (nI k)), (0, .inr (.inr (some 80)))], [.inl (2 : Int32), .inl (mu_i Hs 80 3), .inr (.inr (some 82))], Hs)) (C := [mu_is Hs (some 80) 7]) rfl (show mu_is Hs (some 80) 7 from hps.1.is rfl) ?_
      refine mw_cIe (fun _ => rfl) (show mu_is Hs (some 82) 10 from hps.1.is rfl) (gi_get_ok (d := (d + 8)) (H := Hs) hps.1 (r := 82) (W := 3) rfl (mu_i Hs 80 3) (j := 2) (by decide)) ?_
      exact mw_of (fun _ => mu_ret rfl trivial (hΦ _ Hs hps hts (by omega)))
    · -- 60: not y = 0
      have hb2 := hbt h2
      refine mw_go mu_g35 (k := 3) (f1 := (66, [(4, .inl y), (5, .inl (nI k)), (0, .inr (.inr (some 80)))], [.inl (10 : Int32), .inl (mu_i Hs 80 6)], Hs)) (C := [mu_is Hs (some 80) 7]) rfl (show mu_is Hs (some 80) 7 from hps.1.is rfl) ?_
      refine mw_if (P := (mu_i Hs 80 6) = (10 : Int32)) (a := 278) (b := 69) (fun _ => rfl) trivial (fun h5 => ?_) (fun h5 => ?_)
      · -- 278: (mu_i Hs 80 6) = (10 : Int32)
        refine mw_go mu_g35 (k := 1) (f1 := (280, [(4, .inl y), (5, .inl (nI k)), (0, .inr (.inr (some 80)))], [.inl y], Hs)) (C := []) rfl trivial ?_
        refine mw_if (P := y = 0) (a := 283) (b := 299) (fun _ => rfl) trivial (fun h6 => absurd h6 h2) (fun _ => ?_)
        refine mw_go mu_g35 (k := 1) (f1 := (300, [(4, .inl y), (5, .inl (nI k)), (0, .inr (.inr (some 80)))], [.inr (.inr (some 80))], Hs)) (C := []) rfl trivial ?_
        refine mw_cV (fun _ => rfl) (show mu_is Hs (some 80) 7 from hps.1.is rfl) (pa_symbols (d := (d + 6)) (B := B) hps) (fun H7 q7 => ?_)
        obtain ⟨hp7, qt7, qb7⟩ := q7
        have ht7 := hts.trans qt7
        refine mw_go mu_g35 (k := 1) (f1 := (304, [(4, .inl y), (5, .inl (nI k)), (0, .inr (.inr (some 80)))], [.inl (-1 : Int32)], H7)) (C := []) rfl trivial ?_
        exact mw_of (fun _ => mu_ret rfl trivial (hΦ _ H7 hp7 ht7 (by omega)))
      · -- 69: not (mu_i Hs 80 6) = (10 : Int32)
        refine mw_go mu_g35 (k := 2) (f1 := (73, [(4, .inl y), (5, .inl (nI k)), (0, .inr (.inr (some 80)))], [.inl (mu_i Hs 80 6)], Hs)) (C := [mu_is Hs (some 80) 7]) rfl (show mu_is Hs (some 80) 7 from hps.1.is rfl) ?_
        refine mw_tsw rfl (by decide) ?_ ⟨fun z => ?_, fun z => ?_, fun z => ?_, fun z => ?_, fun z => ?_, fun z => ?_, fun z => ?_, fun z => ?_, fun z => ?_, fun z => ?_, trivial⟩
        · -- None: 266
          refine mw_go mu_g35 (k := 1) (f1 := (267, [(4, .inl y), (5, .inl (nI k)), (0, .inr (.inr (some 80)))], [.inr (.inr (some 80))], Hs)) (C := []) rfl trivial ?_
          refine mw_cI (fun _ => rfl) (show mu_is Hs (some 80) 7 from hps.1.is rfl) (pa_operand (d := (d + 1)) (B := B) hps hBB (by omega)) (fun x9 H9 q9 => ?_)
          rcases q9 with ⟨rfl, hp9, qt9, qb9⟩ | ⟨rfl, hp9, qt9, qb9⟩
          · -- (0 : Int32)
            have ht9 := hts.trans qt9
            have hc9 : ps_mp (mu_i Hs 80 6) = ps_mp (mu_i Hs 80 6) := congrArg ps_mp (show mu_i Hs 80 6 = (mu_i Hs 80 6) from rfl)
            refine mw_go mu_g35 (k := 3) (f1 := (48, [(5, .inl ((nI k) + 1)), (4, .inl (0 : Int32)), (0, .inr (.inr (some 80)))], [], H9)) (C := []) rfl trivial ?_
            have hk : ∀ j, False → mu_i H9 80 j = mu_i H 80 j := (fun _ hj => hj.elim)
            rw [nI_1]
            exact mw_sub (by simp) (ih ((0 : Int32), k + 1, H9) ⟨hp9, ht9, hk, (show ps_pot m H9 ≤ ps_pot m H + 60 from by omega), (show ¬ (0 : Int32) = 0 → ps_pot m H9 ≤ ps_pot m H from (fun z => absurd rfl z)), (show (k + 1) ≤ 524288 from by omega)⟩ (by show 524288 - (k + 1) < 524288 - k; omega))
          · -- (1 : Int32)
            have ht9 := hts.trans qt9
            have hc9 : ps_mp (mu_i Hs 80 6) = ps_mp (mu_i Hs 80 6) := congrArg ps_mp (show mu_i Hs 80 6 = (mu_i Hs 80 6) from rfl)
            refine mw_go mu_g35 (k := 3) (f1 := (48, [(5, .inl ((nI k) + 1)), (4, .inl (1 : Int32)), (0, .inr (.inr (some 80)))], [], H9)) (C := []) rfl trivial ?_
            have hk : ∀ j, False → mu_i H9 80 j = mu_i H 80 j := (fun _ hj => hj.elim)
            rw [nI_1]
            exact mw_sub (by simp) (ih ((1 : Int32), k + 1, H9) ⟨hp9, ht9, hk, (show ps_pot m H9 ≤ ps_pot m H + 60 from by omega), (show ¬ (1 : Int32) = 0 → ps_pot m H9 ≤ ps_pot m H from (fun _ => by omega)), (show (k + 1) ≤ 524288 from by omega)⟩ (by show 524288 - (k + 1) < 524288 - k; omega))
        · -- 0: 128
          have h10 : (mu_i Hs 80 6) = (0 : Int32) := Int32.toInt_inj.mp (z.trans (by decide))
          refine mw_go mu_g35 (k := 1) (f1 := (129, [(4, .inl y), (5, .inl (nI k)), (0, .inr (.inr (some 80)))], [.inr (.inr (some 80))], Hs)) (C := []) rfl trivial ?_
          refine mw_cI (fun _ => rfl) (show mu_is Hs (some 80) 7 from hps.1.is rfl) (pa_module (d := (d + 4)) (B := B) hps hBB (by omega)) (fun x11 H11 q11 => ?_)
          rcases q11 with ⟨rfl, hp11, qt11, qb11⟩ | ⟨rfl, hp11, qt11, qb11⟩
          · -- (0 : Int32)
            have ht11 := hts.trans qt11
            have hc11 : ps_mp (mu_i Hs 80 6) = ps_mp (mu_i Hs 80 6) := congrArg ps_mp (show mu_i Hs 80 6 = (mu_i Hs 80 6) from rfl)
            refine mw_go mu_g35 (k := 4) (f1 := (48, [(5, .inl ((nI k) + 1)), (4, .inl (0 : Int32)), (0, .inr (.inr (some 80)))], [], H11)) (C := []) rfl trivial ?_
            have hk : ∀ j, False → mu_i H11 80 j = mu_i H 80 j := (fun _ hj => hj.elim)
            rw [nI_1]
            exact mw_sub (by simp) (ih ((0 : Int32), k + 1, H11) ⟨hp11, ht11, hk, (show ps_pot m H11 ≤ ps_pot m H + 60 from by omega), (show ¬ (0 : Int32) = 0 → ps_pot m H11 ≤ ps_pot m H from (fun z => absurd rfl z)), (show (k + 1) ≤ 524288 from by omega)⟩ (by show 524288 - (k + 1) < 524288 - k; omega))
          · -- (1 : Int32)
            have ht11 := hts.trans qt11
            have hc11 : ps_mp (mu_i Hs 80 6) = ps_mp (mu_i Hs 80 6) := congrArg ps_mp (show mu_i Hs 80 6 = (mu_i Hs 80 6) from rfl)
            refine mw_go mu_g35 (k := 4) (f1 := (48, [(5, .inl ((nI k) + 1)), (4, .inl (1 : Int32)), (0, .inr (.inr (some 80)))], [], H11)) (C := []) rfl trivial ?_
            have hk : ∀ j, False → mu_i H11 80 j = mu_i H 80 j := (fun _ hj => hj.elim)
            rw [nI_1]
            exact mw_sub (by simp) (ih ((1 : Int32), k + 1, H11) ⟨hp11, ht11, hk, (show ps_pot m H11 ≤ ps_pot m H + 60 from by omega), (show ¬ (1 : Int32) = 0 → ps_pot m H11 ≤ ps_pot m H from (fun _ => by omega)), (show (k + 1) ≤ 524288 from by omega)⟩ (by show 524288 - (k + 1) < 524288 - k; omega))
        · -- 1: 230
          have h12 : (mu_i Hs 80 6) = (1 : Int32) := Int32.toInt_inj.mp (z.trans (by decide))
          refine mw_go mu_g35 (k := 1) (f1 := (231, [(4, .inl y), (5, .inl (nI k)), (0, .inr (.inr (some 80)))], [.inr (.inr (some 80))], Hs)) (C := []) rfl trivial ?_
          refine mw_cI (fun _ => rfl) (show mu_is Hs (some 80) 7 from hps.1.is rfl) (pa_section (d := (d + 3)) (B := B) hps hBB (by omega)) (fun x13 H13 q13 => ?_)
          rcases q13 with ⟨rfl, hp13, qt13, qb13⟩ | ⟨rfl, hp13, qt13, qb13⟩
          · -- (0 : Int32)
            have ht13 := hts.trans qt13
            have hc13 : ps_mp (mu_i Hs 80 6) = ps_mp (mu_i Hs 80 6) := congrArg ps_mp (show mu_i Hs 80 6 = (mu_i Hs 80 6) from rfl)
            refine mw_go mu_g35 (k := 4) (f1 := (48, [(5, .inl ((nI k) + 1)), (4, .inl (0 : Int32)), (0, .inr (.inr (some 80)))], [], H13)) (C := []) rfl trivial ?_
            have hk : ∀ j, False → mu_i H13 80 j = mu_i H 80 j := (fun _ hj => hj.elim)
            rw [nI_1]
            exact mw_sub (by simp) (ih ((0 : Int32), k + 1, H13) ⟨hp13, ht13, hk, (show ps_pot m H13 ≤ ps_pot m H + 60 from by omega), (show ¬ (0 : Int32) = 0 → ps_pot m H13 ≤ ps_pot m H from (fun z => absurd rfl z)), (show (k + 1) ≤ 524288 from by omega)⟩ (by show 524288 - (k + 1) < 524288 - k; omega))
          · -- (1 : Int32)
            have ht13 := hts.trans qt13
            have hc13 : ps_mp (mu_i Hs 80 6) = ps_mp (mu_i Hs 80 6) := congrArg ps_mp (show mu_i Hs 80 6 = (mu_i Hs 80 6) from rfl)
            refine mw_go mu_g35 (k := 4) (f1 := (48, [(5, .inl ((nI k) + 1)), (4, .inl (1 : Int32)), (0, .inr (.inr (some 80)))], [], H13)) (C := []) rfl trivial ?_
            have hk : ∀ j, False → mu_i H13 80 j = mu_i H 80 j := (fun _ hj => hj.elim)
            rw [nI_1]
            exact mw_sub (by simp) (ih ((1 : Int32), k + 1, H13) ⟨hp13, ht13, hk, (show ps_pot m H13 ≤ ps_pot m H + 60 from by omega), (show ¬ (1 : Int32) = 0 → ps_pot m H13 ≤ ps_pot m H from (fun _ => by omega)), (show (k + 1) ≤ 524288 from by omega)⟩ (by show 524288 - (k + 1) < 524288 - k; omega))
        · -- 2: 137
          have h14 : (mu_i Hs 80 6) = (2 : Int32) := Int32.toInt_inj.mp (z.trans (by decide))
          refine mw_go mu_g35 (k := 3) (f1 := (143, [(4, .inl y), (5, .inl (nI k)), (0, .inr (.inr (some 80)))], [.inl (112 : Int32), .inl (mu_i Hs 80 4)], Hs)) (C := [mu_is Hs (some 80) 7]) rfl (show mu_is Hs (some 80) 7 from hps.1.is rfl) ?_
          refine mw_if (P := (mu_i Hs 80 4) = (112 : Int32)) (a := 146) (b := 153) (fun _ => rfl) trivial (fun h15 => ?_) (fun h15 => ?_)
          · -- 146: (mu_i Hs 80 4) = (112 : Int32)
            refine mw_go mu_g35 (k := 1) (f1 := (147, [(4, .inl y), (5, .inl (nI k)), (0, .inr (.inr (some 80)))], [.inr (.inr (some 80))], Hs)) (C := []) rfl trivial ?_
            refine mw_cI (fun _ => rfl) (show mu_is Hs (some 80) 7 from hps.1.is rfl) (pa_var (d := (d + 2)) (B := B) hps hBB (by omega) (show mu_i Hs 80 4 = 112 from h15)) (fun x16 H16 q16 => ?_)
            rcases q16 with ⟨rfl, hp16, qt16, qb16⟩ | ⟨rfl, hp16, qt16, qb16⟩
            · -- (0 : Int32)
              have ht16 := hts.trans qt16
              have hc16 : ps_mp (mu_i Hs 80 6) = ps_mp (mu_i Hs 80 6) := congrArg ps_mp (show mu_i Hs 80 6 = (mu_i Hs 80 6) from rfl)
              refine mw_go mu_g35 (k := 5) (f1 := (48, [(5, .inl ((nI k) + 1)), (4, .inl (0 : Int32)), (0, .inr (.inr (some 80)))], [], H16)) (C := []) rfl trivial ?_
              have hk : ∀ j, False → mu_i H16 80 j = mu_i H 80 j := (fun _ hj => hj.elim)
              rw [nI_1]
              exact mw_sub (by simp) (ih ((0 : Int32), k + 1, H16) ⟨hp16, ht16, hk, (show ps_pot m H16 ≤ ps_pot m H + 60 from by omega), (show ¬ (0 : Int32) = 0 → ps_pot m H16 ≤ ps_pot m H from (fun z => absurd rfl z)), (show (k + 1) ≤ 524288 from by omega)⟩ (by show 524288 - (k + 1) < 524288 - k; omega))
            · -- (1 : Int32)
              have ht16 := hts.trans qt16
              have hc16 : ps_mp (mu_i Hs 80 6) = ps_mp (mu_i Hs 80 6) := congrArg ps_mp (show mu_i Hs 80 6 = (mu_i Hs 80 6) from rfl)
              refine mw_go mu_g35 (k := 5) (f1 := (48, [(5, .inl ((nI k) + 1)), (4, .inl (1 : Int32)), (0, .inr (.inr (some 80)))], [], H16)) (C := []) rfl trivial ?_
              have hk : ∀ j, False → mu_i H16 80 j = mu_i H 80 j := (fun _ hj => hj.elim)
              rw [nI_1]
              exact mw_sub (by simp) (ih ((1 : Int32), k + 1, H16) ⟨hp16, ht16, hk, (show ps_pot m H16 ≤ ps_pot m H + 60 from by omega), (show ¬ (1 : Int32) = 0 → ps_pot m H16 ≤ ps_pot m H from (fun _ => by omega)), (show (k + 1) ≤ 524288 from by omega)⟩ (by show 524288 - (k + 1) < 524288 - k; omega))
          · -- 153: not (mu_i Hs 80 4) = (112 : Int32)
            refine mw_go mu_g35 (k := 1) (f1 := (154, [(4, .inl y), (5, .inl (nI k)), (0, .inr (.inr (some 80)))], [.inr (.inr (some 80))], Hs)) (C := []) rfl trivial ?_
            refine mw_cI (fun _ => rfl) (show mu_is Hs (some 80) 7 from hps.1.is rfl) (pa_section (d := (d + 3)) (B := B) hps hBB (by omega)) (fun x17 H17 q17 => ?_)
            rcases q17 with ⟨rfl, hp17, qt17, qb17⟩ | ⟨rfl, hp17, qt17, qb17⟩
            · -- (0 : Int32)
              have ht17 := hts.trans qt17
              have hc17 : ps_mp (mu_i Hs 80 6) = ps_mp (mu_i Hs 80 6) := congrArg ps_mp (show mu_i Hs 80 6 = (mu_i Hs 80 6) from rfl)
              refine mw_go mu_g35 (k := 4) (f1 := (48, [(5, .inl ((nI k) + 1)), (4, .inl (0 : Int32)), (0, .inr (.inr (some 80)))], [], H17)) (C := []) rfl trivial ?_
              have hk : ∀ j, False → mu_i H17 80 j = mu_i H 80 j := (fun _ hj => hj.elim)
              rw [nI_1]
              exact mw_sub (by simp) (ih ((0 : Int32), k + 1, H17) ⟨hp17, ht17, hk, (show ps_pot m H17 ≤ ps_pot m H + 60 from by omega), (show ¬ (0 : Int32) = 0 → ps_pot m H17 ≤ ps_pot m H from (fun z => absurd rfl z)), (show (k + 1) ≤ 524288 from by omega)⟩ (by show 524288 - (k + 1) < 524288 - k; omega))
            · -- (1 : Int32)
              have ht17 := hts.trans qt17
              have hc17 : ps_mp (mu_i Hs 80 6) = ps_mp (mu_i Hs 80 6) := congrArg ps_mp (show mu_i Hs 80 6 = (mu_i Hs 80 6) from rfl)
              refine mw_go mu_g35 (k := 4) (f1 := (48, [(5, .inl ((nI k) + 1)), (4, .inl (1 : Int32)), (0, .inr (.inr (some 80)))], [], H17)) (C := []) rfl trivial ?_
              have hk : ∀ j, False → mu_i H17 80 j = mu_i H 80 j := (fun _ hj => hj.elim)
              rw [nI_1]
              exact mw_sub (by simp) (ih ((1 : Int32), k + 1, H17) ⟨hp17, ht17, hk, (show ps_pot m H17 ≤ ps_pot m H + 60 from by omega), (show ¬ (1 : Int32) = 0 → ps_pot m H17 ≤ ps_pot m H from (fun _ => by omega)), (show (k + 1) ≤ 524288 from by omega)⟩ (by show 524288 - (k + 1) < 524288 - k; omega))
        · -- 3: 162
          have h18 : (mu_i Hs 80 6) = (3 : Int32) := Int32.toInt_inj.mp (z.trans (by decide))
          refine mw_go mu_g35 (k := 3) (f1 := (168, [(4, .inl y), (5, .inl (nI k)), (0, .inr (.inr (some 80)))], [.inl (112 : Int32), .inl (mu_i Hs 80 4)], Hs)) (C := [mu_is Hs (some 80) 7]) rfl (show mu_is Hs (some 80) 7 from hps.1.is rfl) ?_
          refine mw_if (P := (mu_i Hs 80 4) = (112 : Int32)) (a := 171) (b := 178) (fun _ => rfl) trivial (fun h19 => ?_) (fun h19 => ?_)
          · -- 171: (mu_i Hs 80 4) = (112 : Int32)
            refine mw_go mu_g35 (k := 1) (f1 := (172, [(4, .inl y), (5, .inl (nI k)), (0, .inr (.inr (some 80)))], [.inr (.inr (some 80))], Hs)) (C := []) rfl trivial ?_
            refine mw_cI (fun _ => rfl) (show mu_is Hs (some 80) 7 from hps.1.is rfl) (pa_def (d := (d + 3)) (B := B) hps hBB (by omega) (show mu_i Hs 80 4 = 112 from h19)) (fun x20 H20 q20 => ?_)
            rcases q20 with ⟨rfl, hp20, qt20, qb20⟩ | ⟨rfl, hp20, qt20, qb20⟩
            · -- (0 : Int32)
              have ht20 := hts.trans qt20
              have hc20 : ps_mp (mu_i Hs 80 6) = ps_mp (mu_i Hs 80 6) := congrArg ps_mp (show mu_i Hs 80 6 = (mu_i Hs 80 6) from rfl)
              refine mw_go mu_g35 (k := 5) (f1 := (48, [(5, .inl ((nI k) + 1)), (4, .inl (0 : Int32)), (0, .inr (.inr (some 80)))], [], H20)) (C := []) rfl trivial ?_
              have hk : ∀ j, False → mu_i H20 80 j = mu_i H 80 j := (fun _ hj => hj.elim)
              rw [nI_1]
              exact mw_sub (by simp) (ih ((0 : Int32), k + 1, H20) ⟨hp20, ht20, hk, (show ps_pot m H20 ≤ ps_pot m H + 60 from by omega), (show ¬ (0 : Int32) = 0 → ps_pot m H20 ≤ ps_pot m H from (fun z => absurd rfl z)), (show (k + 1) ≤ 524288 from by omega)⟩ (by show 524288 - (k + 1) < 524288 - k; omega))
            · -- (1 : Int32)
              have ht20 := hts.trans qt20
              have hc20 : ps_mp (mu_i Hs 80 6) = ps_mp (mu_i Hs 80 6) := congrArg ps_mp (show mu_i Hs 80 6 = (mu_i Hs 80 6) from rfl)
              refine mw_go mu_g35 (k := 5) (f1 := (48, [(5, .inl ((nI k) + 1)), (4, .inl (1 : Int32)), (0, .inr (.inr (some 80)))], [], H20)) (C := []) rfl trivial ?_
              have hk : ∀ j, False → mu_i H20 80 j = mu_i H 80 j := (fun _ hj => hj.elim)
              rw [nI_1]
              exact mw_sub (by simp) (ih ((1 : Int32), k + 1, H20) ⟨hp20, ht20, hk, (show ps_pot m H20 ≤ ps_pot m H + 60 from by omega), (show ¬ (1 : Int32) = 0 → ps_pot m H20 ≤ ps_pot m H from (fun _ => by omega)), (show (k + 1) ≤ 524288 from by omega)⟩ (by show 524288 - (k + 1) < 524288 - k; omega))
          · -- 178: not (mu_i Hs 80 4) = (112 : Int32)
            refine mw_go mu_g35 (k := 1) (f1 := (179, [(4, .inl y), (5, .inl (nI k)), (0, .inr (.inr (some 80)))], [.inr (.inr (some 80))], Hs)) (C := []) rfl trivial ?_
            refine mw_cI (fun _ => rfl) (show mu_is Hs (some 80) 7 from hps.1.is rfl) (pa_section (d := (d + 3)) (B := B) hps hBB (by omega)) (fun x21 H21 q21 => ?_)
            rcases q21 with ⟨rfl, hp21, qt21, qb21⟩ | ⟨rfl, hp21, qt21, qb21⟩
            · -- (0 : Int32)
              have ht21 := hts.trans qt21
              have hc21 : ps_mp (mu_i Hs 80 6) = ps_mp (mu_i Hs 80 6) := congrArg ps_mp (show mu_i Hs 80 6 = (mu_i Hs 80 6) from rfl)
              refine mw_go mu_g35 (k := 4) (f1 := (48, [(5, .inl ((nI k) + 1)), (4, .inl (0 : Int32)), (0, .inr (.inr (some 80)))], [], H21)) (C := []) rfl trivial ?_
              have hk : ∀ j, False → mu_i H21 80 j = mu_i H 80 j := (fun _ hj => hj.elim)
              rw [nI_1]
              exact mw_sub (by simp) (ih ((0 : Int32), k + 1, H21) ⟨hp21, ht21, hk, (show ps_pot m H21 ≤ ps_pot m H + 60 from by omega), (show ¬ (0 : Int32) = 0 → ps_pot m H21 ≤ ps_pot m H from (fun z => absurd rfl z)), (show (k + 1) ≤ 524288 from by omega)⟩ (by show 524288 - (k + 1) < 524288 - k; omega))
            · -- (1 : Int32)
              have ht21 := hts.trans qt21
              have hc21 : ps_mp (mu_i Hs 80 6) = ps_mp (mu_i Hs 80 6) := congrArg ps_mp (show mu_i Hs 80 6 = (mu_i Hs 80 6) from rfl)
              refine mw_go mu_g35 (k := 4) (f1 := (48, [(5, .inl ((nI k) + 1)), (4, .inl (1 : Int32)), (0, .inr (.inr (some 80)))], [], H21)) (C := []) rfl trivial ?_
              have hk : ∀ j, False → mu_i H21 80 j = mu_i H 80 j := (fun _ hj => hj.elim)
              rw [nI_1]
              exact mw_sub (by simp) (ih ((1 : Int32), k + 1, H21) ⟨hp21, ht21, hk, (show ps_pot m H21 ≤ ps_pot m H + 60 from by omega), (show ¬ (1 : Int32) = 0 → ps_pot m H21 ≤ ps_pot m H from (fun _ => by omega)), (show (k + 1) ≤ 524288 from by omega)⟩ (by show 524288 - (k + 1) < 524288 - k; omega))
        · -- 4: 187
          have h22 : (mu_i Hs 80 6) = (4 : Int32) := Int32.toInt_inj.mp (z.trans (by decide))
          refine mw_go mu_g35 (k := 3) (f1 := (193, [(4, .inl y), (5, .inl (nI k)), (0, .inr (.inr (some 80)))], [.inl (112 : Int32), .inl (mu_i Hs 80 4)], Hs)) (C := [mu_is Hs (some 80) 7]) rfl (show mu_is Hs (some 80) 7 from hps.1.is rfl) ?_
          refine mw_if (P := (mu_i Hs 80 4) = (112 : Int32)) (a := 214) (b := 196) (fun _ => rfl) trivial (fun h23 => ?_) (fun h23 => ?_)
          · -- 214: (mu_i Hs 80 4) = (112 : Int32)
            refine mw_go mu_g35 (k := 1) (f1 := (215, [(4, .inl y), (5, .inl (nI k)), (0, .inr (.inr (some 80)))], [.inr (.inr (some 80))], Hs)) (C := []) rfl trivial ?_
            refine mw_cI (fun _ => rfl) (show mu_is Hs (some 80) 7 from hps.1.is rfl) (pa_line (d := (d + 3)) (B := B) hps hBB (by omega)) (fun x24 H24 q24 => ?_)
            rcases q24 with ⟨rfl, hp24, qt24, qb24⟩ | ⟨rfl, hp24, qt24, qb24⟩
            · -- (0 : Int32)
              have ht24 := hts.trans qt24
              have hc24 : ps_mp (mu_i Hs 80 6) = ps_mp (mu_i Hs 80 6) := congrArg ps_mp (show mu_i Hs 80 6 = (mu_i Hs 80 6) from rfl)
              refine mw_go mu_g35 (k := 5) (f1 := (48, [(5, .inl ((nI k) + 1)), (4, .inl (0 : Int32)), (0, .inr (.inr (some 80)))], [], H24)) (C := []) rfl trivial ?_
              have hk : ∀ j, False → mu_i H24 80 j = mu_i H 80 j := (fun _ hj => hj.elim)
              rw [nI_1]
              exact mw_sub (by simp) (ih ((0 : Int32), k + 1, H24) ⟨hp24, ht24, hk, (show ps_pot m H24 ≤ ps_pot m H + 60 from by omega), (show ¬ (0 : Int32) = 0 → ps_pot m H24 ≤ ps_pot m H from (fun z => absurd rfl z)), (show (k + 1) ≤ 524288 from by omega)⟩ (by show 524288 - (k + 1) < 524288 - k; omega))
            · -- (1 : Int32)
              have ht24 := hts.trans qt24
              have hc24 : ps_mp (mu_i Hs 80 6) = ps_mp (mu_i Hs 80 6) := congrArg ps_mp (show mu_i Hs 80 6 = (mu_i Hs 80 6) from rfl)
              refine mw_go mu_g35 (k := 5) (f1 := (48, [(5, .inl ((nI k) + 1)), (4, .inl (1 : Int32)), (0, .inr (.inr (some 80)))], [], H24)) (C := []) rfl trivial ?_
              have hk : ∀ j, False → mu_i H24 80 j = mu_i H 80 j := (fun _ hj => hj.elim)
              rw [nI_1]
              exact mw_sub (by simp) (ih ((1 : Int32), k + 1, H24) ⟨hp24, ht24, hk, (show ps_pot m H24 ≤ ps_pot m H + 60 from by omega), (show ¬ (1 : Int32) = 0 → ps_pot m H24 ≤ ps_pot m H from (fun _ => by omega)), (show (k + 1) ≤ 524288 from by omega)⟩ (by show 524288 - (k + 1) < 524288 - k; omega))
          · -- 196: not (mu_i Hs 80 4) = (112 : Int32)
            refine mw_go mu_g35 (k := 3) (f1 := (202, [(4, .inl y), (5, .inl (nI k)), (0, .inr (.inr (some 80)))], [.inl (9 : Int32), .inl (mu_i Hs 80 4)], Hs)) (C := [mu_is Hs (some 80) 7]) rfl (show mu_is Hs (some 80) 7 from hps.1.is rfl) ?_
            refine mw_if (P := (mu_i Hs 80 4) = (9 : Int32)) (a := 214) (b := 205) (fun _ => rfl) trivial (fun h25 => ?_) (fun h25 => ?_)
            · -- 214: (mu_i Hs 80 4) = (9 : Int32)
              refine mw_go mu_g35 (k := 1) (f1 := (215, [(4, .inl y), (5, .inl (nI k)), (0, .inr (.inr (some 80)))], [.inr (.inr (some 80))], Hs)) (C := []) rfl trivial ?_
              refine mw_cI (fun _ => rfl) (show mu_is Hs (some 80) 7 from hps.1.is rfl) (pa_line (d := (d + 3)) (B := B) hps hBB (by omega)) (fun x26 H26 q26 => ?_)
              rcases q26 with ⟨rfl, hp26, qt26, qb26⟩ | ⟨rfl, hp26, qt26, qb26⟩
              · -- (0 : Int32)
                have ht26 := hts.trans qt26
                have hc26 : ps_mp (mu_i Hs 80 6) = ps_mp (mu_i Hs 80 6) := congrArg ps_mp (show mu_i Hs 80 6 = (mu_i Hs 80 6) from rfl)
                refine mw_go mu_g35 (k := 5) (f1 := (48, [(5, .inl ((nI k) + 1)), (4, .inl (0 : Int32)), (0, .inr (.inr (some 80)))], [], H26)) (C := []) rfl trivial ?_
                have hk : ∀ j, False → mu_i H26 80 j = mu_i H 80 j := (fun _ hj => hj.elim)
                rw [nI_1]
                exact mw_sub (by simp) (ih ((0 : Int32), k + 1, H26) ⟨hp26, ht26, hk, (show ps_pot m H26 ≤ ps_pot m H + 60 from by omega), (show ¬ (0 : Int32) = 0 → ps_pot m H26 ≤ ps_pot m H from (fun z => absurd rfl z)), (show (k + 1) ≤ 524288 from by omega)⟩ (by show 524288 - (k + 1) < 524288 - k; omega))
              · -- (1 : Int32)
                have ht26 := hts.trans qt26
                have hc26 : ps_mp (mu_i Hs 80 6) = ps_mp (mu_i Hs 80 6) := congrArg ps_mp (show mu_i Hs 80 6 = (mu_i Hs 80 6) from rfl)
                refine mw_go mu_g35 (k := 5) (f1 := (48, [(5, .inl ((nI k) + 1)), (4, .inl (1 : Int32)), (0, .inr (.inr (some 80)))], [], H26)) (C := []) rfl trivial ?_
                have hk : ∀ j, False → mu_i H26 80 j = mu_i H 80 j := (fun _ hj => hj.elim)
                rw [nI_1]
                exact mw_sub (by simp) (ih ((1 : Int32), k + 1, H26) ⟨hp26, ht26, hk, (show ps_pot m H26 ≤ ps_pot m H + 60 from by omega), (show ¬ (1 : Int32) = 0 → ps_pot m H26 ≤ ps_pot m H from (fun _ => by omega)), (show (k + 1) ≤ 524288 from by omega)⟩ (by show 524288 - (k + 1) < 524288 - k; omega))
            · -- 205: not (mu_i Hs 80 4) = (9 : Int32)
              refine mw_go mu_g35 (k := 3) (f1 := (211, [(4, .inl y), (5, .inl (nI k)), (0, .inr (.inr (some 80)))], [.inl (10 : Int32), .inl (mu_i Hs 80 4)], Hs)) (C := [mu_is Hs (some 80) 7]) rfl (show mu_is Hs (some 80) 7 from hps.1.is rfl) ?_
              refine mw_if (P := (mu_i Hs 80 4) = (10 : Int32)) (a := 214) (b := 221) (fun _ => rfl) trivial (fun h27 => ?_) (fun h27 => ?_)
              · -- 214: (mu_i Hs 80 4) = (10 : Int32)
                refine mw_go mu_g35 (k := 1) (f1 := (215, [(4, .inl y), (5, .inl (nI k)), (0, .inr (.inr (some 80)))], [.inr (.inr (some 80))], Hs)) (C := []) rfl trivial ?_
                refine mw_cI (fun _ => rfl) (show mu_is Hs (some 80) 7 from hps.1.is rfl) (pa_line (d := (d + 3)) (B := B) hps hBB (by omega)) (fun x28 H28 q28 => ?_)
                rcases q28 with ⟨rfl, hp28, qt28, qb28⟩ | ⟨rfl, hp28, qt28, qb28⟩
                · -- (0 : Int32)
                  have ht28 := hts.trans qt28
                  have hc28 : ps_mp (mu_i Hs 80 6) = ps_mp (mu_i Hs 80 6) := congrArg ps_mp (show mu_i Hs 80 6 = (mu_i Hs 80 6) from rfl)
                  refine mw_go mu_g35 (k := 5) (f1 := (48, [(5, .inl ((nI k) + 1)), (4, .inl (0 : Int32)), (0, .inr (.inr (some 80)))], [], H28)) (C := []) rfl trivial ?_
                  have hk : ∀ j, False → mu_i H28 80 j = mu_i H 80 j := (fun _ hj => hj.elim)
                  rw [nI_1]
                  exact mw_sub (by simp) (ih ((0 : Int32), k + 1, H28) ⟨hp28, ht28, hk, (show ps_pot m H28 ≤ ps_pot m H + 60 from by omega), (show ¬ (0 : Int32) = 0 → ps_pot m H28 ≤ ps_pot m H from (fun z => absurd rfl z)), (show (k + 1) ≤ 524288 from by omega)⟩ (by show 524288 - (k + 1) < 524288 - k; omega))
                · -- (1 : Int32)
                  have ht28 := hts.trans qt28
                  have hc28 : ps_mp (mu_i Hs 80 6) = ps_mp (mu_i Hs 80 6) := congrArg ps_mp (show mu_i Hs 80 6 = (mu_i Hs 80 6) from rfl)
                  refine mw_go mu_g35 (k := 5) (f1 := (48, [(5, .inl ((nI k) + 1)), (4, .inl (1 : Int32)), (0, .inr (.inr (some 80)))], [], H28)) (C := []) rfl trivial ?_
                  have hk : ∀ j, False → mu_i H28 80 j = mu_i H 80 j := (fun _ hj => hj.elim)
                  rw [nI_1]
                  exact mw_sub (by simp) (ih ((1 : Int32), k + 1, H28) ⟨hp28, ht28, hk, (show ps_pot m H28 ≤ ps_pot m H + 60 from by omega), (show ¬ (1 : Int32) = 0 → ps_pot m H28 ≤ ps_pot m H from (fun _ => by omega)), (show (k + 1) ≤ 524288 from by omega)⟩ (by show 524288 - (k + 1) < 524288 - k; omega))
              · -- 221: not (mu_i Hs 80 4) = (10 : Int32)
                refine mw_go mu_g35 (k := 1) (f1 := (222, [(4, .inl y), (5, .inl (nI k)), (0, .inr (.inr (some 80)))], [.inr (.inr (some 80))], Hs)) (C := []) rfl trivial ?_
                refine mw_cI (fun _ => rfl) (show mu_is Hs (some 80) 7 from hps.1.is rfl) (pa_section (d := (d + 3)) (B := B) hps hBB (by omega)) (fun x29 H29 q29 => ?_)
                rcases q29 with ⟨rfl, hp29, qt29, qb29⟩ | ⟨rfl, hp29, qt29, qb29⟩
                · -- (0 : Int32)
                  have ht29 := hts.trans qt29
                  have hc29 : ps_mp (mu_i Hs 80 6) = ps_mp (mu_i Hs 80 6) := congrArg ps_mp (show mu_i Hs 80 6 = (mu_i Hs 80 6) from rfl)
                  refine mw_go mu_g35 (k := 4) (f1 := (48, [(5, .inl ((nI k) + 1)), (4, .inl (0 : Int32)), (0, .inr (.inr (some 80)))], [], H29)) (C := []) rfl trivial ?_
                  have hk : ∀ j, False → mu_i H29 80 j = mu_i H 80 j := (fun _ hj => hj.elim)
                  rw [nI_1]
                  exact mw_sub (by simp) (ih ((0 : Int32), k + 1, H29) ⟨hp29, ht29, hk, (show ps_pot m H29 ≤ ps_pot m H + 60 from by omega), (show ¬ (0 : Int32) = 0 → ps_pot m H29 ≤ ps_pot m H from (fun z => absurd rfl z)), (show (k + 1) ≤ 524288 from by omega)⟩ (by show 524288 - (k + 1) < 524288 - k; omega))
                · -- (1 : Int32)
                  have ht29 := hts.trans qt29
                  have hc29 : ps_mp (mu_i Hs 80 6) = ps_mp (mu_i Hs 80 6) := congrArg ps_mp (show mu_i Hs 80 6 = (mu_i Hs 80 6) from rfl)
                  refine mw_go mu_g35 (k := 4) (f1 := (48, [(5, .inl ((nI k) + 1)), (4, .inl (1 : Int32)), (0, .inr (.inr (some 80)))], [], H29)) (C := []) rfl trivial ?_
                  have hk : ∀ j, False → mu_i H29 80 j = mu_i H 80 j := (fun _ hj => hj.elim)
                  rw [nI_1]
                  exact mw_sub (by simp) (ih ((1 : Int32), k + 1, H29) ⟨hp29, ht29, hk, (show ps_pot m H29 ≤ ps_pot m H + 60 from by omega), (show ¬ (1 : Int32) = 0 → ps_pot m H29 ≤ ps_pot m H from (fun _ => by omega)), (show (k + 1) ≤ 524288 from by omega)⟩ (by show 524288 - (k + 1) < 524288 - k; omega))
        · -- 5: 266
          have h30 : (mu_i Hs 80 6) = (5 : Int32) := Int32.toInt_inj.mp (z.trans (by decide))
          refine mw_go mu_g35 (k := 1) (f1 := (267, [(4, .inl y), (5, .inl (nI k)), (0, .inr (.inr (some 80)))], [.inr (.inr (some 80))], Hs)) (C := []) rfl trivial ?_
          refine mw_cI (fun _ => rfl) (show mu_is Hs (some 80) 7 from hps.1.is rfl) (pa_operand (d := (d + 1)) (B := B) hps hBB (by omega)) (fun x31 H31 q31 => ?_)
          rcases q31 with ⟨rfl, hp31, qt31, qb31⟩ | ⟨rfl, hp31, qt31, qb31⟩
          · -- (0 : Int32)
            have ht31 := hts.trans qt31
            have hc31 : ps_mp (mu_i Hs 80 6) = ps_mp (mu_i Hs 80 6) := congrArg ps_mp (show mu_i Hs 80 6 = (mu_i Hs 80 6) from rfl)
            refine mw_go mu_g35 (k := 3) (f1 := (48, [(5, .inl ((nI k) + 1)), (4, .inl (0 : Int32)), (0, .inr (.inr (some 80)))], [], H31)) (C := []) rfl trivial ?_
            have hk : ∀ j, False → mu_i H31 80 j = mu_i H 80 j := (fun _ hj => hj.elim)
            rw [nI_1]
            exact mw_sub (by simp) (ih ((0 : Int32), k + 1, H31) ⟨hp31, ht31, hk, (show ps_pot m H31 ≤ ps_pot m H + 60 from by omega), (show ¬ (0 : Int32) = 0 → ps_pot m H31 ≤ ps_pot m H from (fun z => absurd rfl z)), (show (k + 1) ≤ 524288 from by omega)⟩ (by show 524288 - (k + 1) < 524288 - k; omega))
          · -- (1 : Int32)
            have ht31 := hts.trans qt31
            have hc31 : ps_mp (mu_i Hs 80 6) = ps_mp (mu_i Hs 80 6) := congrArg ps_mp (show mu_i Hs 80 6 = (mu_i Hs 80 6) from rfl)
            refine mw_go mu_g35 (k := 3) (f1 := (48, [(5, .inl ((nI k) + 1)), (4, .inl (1 : Int32)), (0, .inr (.inr (some 80)))], [], H31)) (C := []) rfl trivial ?_
            have hk : ∀ j, False → mu_i H31 80 j = mu_i H 80 j := (fun _ hj => hj.elim)
            rw [nI_1]
            exact mw_sub (by simp) (ih ((1 : Int32), k + 1, H31) ⟨hp31, ht31, hk, (show ps_pot m H31 ≤ ps_pot m H + 60 from by omega), (show ¬ (1 : Int32) = 0 → ps_pot m H31 ≤ ps_pot m H from (fun _ => by omega)), (show (k + 1) ≤ 524288 from by omega)⟩ (by show 524288 - (k + 1) < 524288 - k; omega))
        · -- 6: 266
          have h32 : (mu_i Hs 80 6) = (6 : Int32) := Int32.toInt_inj.mp (z.trans (by decide))
          refine mw_go mu_g35 (k := 1) (f1 := (267, [(4, .inl y), (5, .inl (nI k)), (0, .inr (.inr (some 80)))], [.inr (.inr (some 80))], Hs)) (C := []) rfl trivial ?_
          refine mw_cI (fun _ => rfl) (show mu_is Hs (some 80) 7 from hps.1.is rfl) (pa_operand (d := (d + 1)) (B := B) hps hBB (by omega)) (fun x33 H33 q33 => ?_)
          rcases q33 with ⟨rfl, hp33, qt33, qb33⟩ | ⟨rfl, hp33, qt33, qb33⟩
          · -- (0 : Int32)
            have ht33 := hts.trans qt33
            have hc33 : ps_mp (mu_i Hs 80 6) = ps_mp (mu_i Hs 80 6) := congrArg ps_mp (show mu_i Hs 80 6 = (mu_i Hs 80 6) from rfl)
            refine mw_go mu_g35 (k := 3) (f1 := (48, [(5, .inl ((nI k) + 1)), (4, .inl (0 : Int32)), (0, .inr (.inr (some 80)))], [], H33)) (C := []) rfl trivial ?_
            have hk : ∀ j, False → mu_i H33 80 j = mu_i H 80 j := (fun _ hj => hj.elim)
            rw [nI_1]
            exact mw_sub (by simp) (ih ((0 : Int32), k + 1, H33) ⟨hp33, ht33, hk, (show ps_pot m H33 ≤ ps_pot m H + 60 from by omega), (show ¬ (0 : Int32) = 0 → ps_pot m H33 ≤ ps_pot m H from (fun z => absurd rfl z)), (show (k + 1) ≤ 524288 from by omega)⟩ (by show 524288 - (k + 1) < 524288 - k; omega))
          · -- (1 : Int32)
            have ht33 := hts.trans qt33
            have hc33 : ps_mp (mu_i Hs 80 6) = ps_mp (mu_i Hs 80 6) := congrArg ps_mp (show mu_i Hs 80 6 = (mu_i Hs 80 6) from rfl)
            refine mw_go mu_g35 (k := 3) (f1 := (48, [(5, .inl ((nI k) + 1)), (4, .inl (1 : Int32)), (0, .inr (.inr (some 80)))], [], H33)) (C := []) rfl trivial ?_
            have hk : ∀ j, False → mu_i H33 80 j = mu_i H 80 j := (fun _ hj => hj.elim)
            rw [nI_1]
            exact mw_sub (by simp) (ih ((1 : Int32), k + 1, H33) ⟨hp33, ht33, hk, (show ps_pot m H33 ≤ ps_pot m H + 60 from by omega), (show ¬ (1 : Int32) = 0 → ps_pot m H33 ≤ ps_pot m H from (fun _ => by omega)), (show (k + 1) ≤ 524288 from by omega)⟩ (by show 524288 - (k + 1) < 524288 - k; omega))
        · -- 7: 257
          have h34 : (mu_i Hs 80 6) = (7 : Int32) := Int32.toInt_inj.mp (z.trans (by decide))
          refine mw_go mu_g35 (k := 1) (f1 := (258, [(4, .inl y), (5, .inl (nI k)), (0, .inr (.inr (some 80)))], [.inr (.inr (some 80))], Hs)) (C := []) rfl trivial ?_
          refine mw_cI (fun _ => rfl) (show mu_is Hs (some 80) 7 from hps.1.is rfl) (pa_choice (d := (d + 4)) (B := B) hps hBB (by omega) h34) (fun x35 H35 q35 => ?_)
          rcases q35 with ⟨rfl, hp35, qt35, qb35⟩ | ⟨rfl, hp35, qt35, qb35⟩
          · -- (0 : Int32)
            have ht35 := hts.trans qt35
            have hc35 : ps_mp (mu_i Hs 80 6) = ps_mp (mu_i Hs 80 6) := congrArg ps_mp (show mu_i Hs 80 6 = (mu_i Hs 80 6) from rfl)
            refine mw_go mu_g35 (k := 4) (f1 := (48, [(5, .inl ((nI k) + 1)), (4, .inl (0 : Int32)), (0, .inr (.inr (some 80)))], [], H35)) (C := []) rfl trivial ?_
            have hk : ∀ j, False → mu_i H35 80 j = mu_i H 80 j := (fun _ hj => hj.elim)
            rw [nI_1]
            exact mw_sub (by simp) (ih ((0 : Int32), k + 1, H35) ⟨hp35, ht35, hk, (show ps_pot m H35 ≤ ps_pot m H + 60 from by omega), (show ¬ (0 : Int32) = 0 → ps_pot m H35 ≤ ps_pot m H from (fun z => absurd rfl z)), (show (k + 1) ≤ 524288 from by omega)⟩ (by show 524288 - (k + 1) < 524288 - k; omega))
          · -- (1 : Int32)
            have ht35 := hts.trans qt35
            have hc35 : ps_mp (mu_i Hs 80 6) = ps_mp (mu_i Hs 80 6) := congrArg ps_mp (show mu_i Hs 80 6 = (mu_i Hs 80 6) from rfl)
            refine mw_go mu_g35 (k := 4) (f1 := (48, [(5, .inl ((nI k) + 1)), (4, .inl (1 : Int32)), (0, .inr (.inr (some 80)))], [], H35)) (C := []) rfl trivial ?_
            have hk : ∀ j, False → mu_i H35 80 j = mu_i H 80 j := (fun _ hj => hj.elim)
            rw [nI_1]
            exact mw_sub (by simp) (ih ((1 : Int32), k + 1, H35) ⟨hp35, ht35, hk, (show ps_pot m H35 ≤ ps_pot m H + 60 from by omega), (show ¬ (1 : Int32) = 0 → ps_pot m H35 ≤ ps_pot m H from (fun _ => by omega)), (show (k + 1) ≤ 524288 from by omega)⟩ (by show 524288 - (k + 1) < 524288 - k; omega))
        · -- 8: 239
          have h36 : (mu_i Hs 80 6) = (8 : Int32) := Int32.toInt_inj.mp (z.trans (by decide))
          refine mw_go mu_g35 (k := 1) (f1 := (240, [(4, .inl y), (5, .inl (nI k)), (0, .inr (.inr (some 80)))], [.inr (.inr (some 80))], Hs)) (C := []) rfl trivial ?_
          refine mw_cI (fun _ => rfl) (show mu_is Hs (some 80) 7 from hps.1.is rfl) (pa_operator (d := d) (B := B) hps hBB (by omega) h36) (fun x37 H37 q37 => ?_)
          rcases q37 with ⟨rfl, hp37, qt37, qb37⟩ | ⟨rfl, hp37, qt37, qb37⟩
          · -- (0 : Int32)
            have ht37 := hts.trans qt37
            have hc37 : ps_mp (mu_i Hs 80 6) = ps_mp (mu_i Hs 80 6) := congrArg ps_mp (show mu_i Hs 80 6 = (mu_i Hs 80 6) from rfl)
            refine mw_go mu_g35 (k := 4) (f1 := (48, [(5, .inl ((nI k) + 1)), (4, .inl (0 : Int32)), (0, .inr (.inr (some 80)))], [], H37)) (C := []) rfl trivial ?_
            have hk : ∀ j, False → mu_i H37 80 j = mu_i H 80 j := (fun _ hj => hj.elim)
            rw [nI_1]
            exact mw_sub (by simp) (ih ((0 : Int32), k + 1, H37) ⟨hp37, ht37, hk, (show ps_pot m H37 ≤ ps_pot m H + 60 from by omega), (show ¬ (0 : Int32) = 0 → ps_pot m H37 ≤ ps_pot m H from (fun z => absurd rfl z)), (show (k + 1) ≤ 524288 from by omega)⟩ (by show 524288 - (k + 1) < 524288 - k; omega))
          · -- (1 : Int32)
            have ht37 := hts.trans qt37
            have hc37 : ps_mp (mu_i Hs 80 6) = ps_mp (mu_i Hs 80 6) := congrArg ps_mp (show mu_i Hs 80 6 = (mu_i Hs 80 6) from rfl)
            refine mw_go mu_g35 (k := 4) (f1 := (48, [(5, .inl ((nI k) + 1)), (4, .inl (1 : Int32)), (0, .inr (.inr (some 80)))], [], H37)) (C := []) rfl trivial ?_
            have hk : ∀ j, False → mu_i H37 80 j = mu_i H 80 j := (fun _ hj => hj.elim)
            rw [nI_1]
            exact mw_sub (by simp) (ih ((1 : Int32), k + 1, H37) ⟨hp37, ht37, hk, (show ps_pot m H37 ≤ ps_pot m H + 60 from by omega), (show ¬ (1 : Int32) = 0 → ps_pot m H37 ≤ ps_pot m H from (fun _ => by omega)), (show (k + 1) ≤ 524288 from by omega)⟩ (by show 524288 - (k + 1) < 524288 - k; omega))
        · -- 9: 248
          have h38 : (mu_i Hs 80 6) = (9 : Int32) := Int32.toInt_inj.mp (z.trans (by decide))
          refine mw_go mu_g35 (k := 1) (f1 := (249, [(4, .inl y), (5, .inl (nI k)), (0, .inr (.inr (some 80)))], [.inr (.inr (some 80))], Hs)) (C := []) rfl trivial ?_
          refine mw_cI (fun _ => rfl) (show mu_is Hs (some 80) 7 from hps.1.is rfl) (pa_chended (d := (d + 4)) (B := B) hps hBB (by omega)) (fun x39 H39 q39 => ?_)
          rcases q39 with ⟨rfl, hp39, qt39, qb39⟩ | ⟨rfl, hp39, qt39, qb39⟩
          · -- (0 : Int32)
            have ht39 := hts.trans qt39
            have hc39 : ps_mp (mu_i Hs 80 6) = ps_mp (mu_i Hs 80 6) := congrArg ps_mp (show mu_i Hs 80 6 = (mu_i Hs 80 6) from rfl)
            refine mw_go mu_g35 (k := 4) (f1 := (48, [(5, .inl ((nI k) + 1)), (4, .inl (0 : Int32)), (0, .inr (.inr (some 80)))], [], H39)) (C := []) rfl trivial ?_
            have hk : ∀ j, False → mu_i H39 80 j = mu_i H 80 j := (fun _ hj => hj.elim)
            rw [nI_1]
            exact mw_sub (by simp) (ih ((0 : Int32), k + 1, H39) ⟨hp39, ht39, hk, (show ps_pot m H39 ≤ ps_pot m H + 60 from by omega), (show ¬ (0 : Int32) = 0 → ps_pot m H39 ≤ ps_pot m H from (fun z => absurd rfl z)), (show (k + 1) ≤ 524288 from by omega)⟩ (by show 524288 - (k + 1) < 524288 - k; omega))
          · -- (1 : Int32)
            have ht39 := hts.trans qt39
            have hc39 : ps_mp (mu_i Hs 80 6) = ps_mp (mu_i Hs 80 6) := congrArg ps_mp (show mu_i Hs 80 6 = (mu_i Hs 80 6) from rfl)
            refine mw_go mu_g35 (k := 4) (f1 := (48, [(5, .inl ((nI k) + 1)), (4, .inl (1 : Int32)), (0, .inr (.inr (some 80)))], [], H39)) (C := []) rfl trivial ?_
            have hk : ∀ j, False → mu_i H39 80 j = mu_i H 80 j := (fun _ hj => hj.elim)
            rw [nI_1]
            exact mw_sub (by simp) (ih ((1 : Int32), k + 1, H39) ⟨hp39, ht39, hk, (show ps_pot m H39 ≤ ps_pot m H + 60 from by omega), (show ¬ (1 : Int32) = 0 → ps_pot m H39 ≤ ps_pot m H from (fun _ => by omega)), (show (k + 1) ≤ 524288 from by omega)⟩ (by show 524288 - (k + 1) < 524288 - k; omega))
  · -- 278: not (nI k) < (524288 : Int32)
    refine mw_go mu_g35 (k := 1) (f1 := (280, [(4, .inl y), (5, .inl (nI k)), (0, .inr (.inr (some 80)))], [.inl y], Hs)) (C := []) rfl trivial ?_
    refine mw_if (P := y = 0) (a := 283) (b := 299) (fun _ => rfl) trivial (fun h40 => ?_) (fun h40 => ?_)
    · -- 283: y = 0
      refine mw_go mu_g35 (k := 2) (f1 := (287, [(4, .inl y), (5, .inl (nI k)), (0, .inr (.inr (some 80)))], [.inr (.inr (mu_r Hs 80 0))], Hs)) (C := [mu_is Hs (some 80) 7]) rfl (show mu_is Hs (some 80) 7 from hps.1.is rfl) ?_
      rw [(hps.1.r (p := 80) (j := 0) (q := 81) rfl)]
      refine mw_go mu_g35 (k := 1) (f1 := (290, [(4, .inl y), (5, .inl (nI k)), (0, .inr (.inr (some 80)))], [.inr (.inr (mu_r Hs 81 5))], Hs)) (C := [mu_is Hs (some 81) 4]) rfl (show mu_is Hs (some 81) 4 from hps.1.is rfl) ?_
      rw [(hps.1.r (p := 81) (j := 5) (q := 82) rfl)]
      refine mw_go mu_g35 (k := 3) (f1 := (295, [(4, .inl y), (5, .inl (nI k)), (0, .inr (.inr (some 80)))], [.inl (2 : Int32), .inl (mu_i Hs 80 3), .inr (.inr (some 82))], Hs)) (C := [mu_is Hs (some 80) 7]) rfl (show mu_is Hs (some 80) 7 from hps.1.is rfl) ?_
      refine mw_cIe (fun _ => rfl) (show mu_is Hs (some 82) 10 from hps.1.is rfl) (gi_get_ok (d := (d + 8)) (H := Hs) hps.1 (r := 82) (W := 3) rfl (mu_i Hs 80 3) (j := 2) (by decide)) ?_
      exact mw_of (fun _ => mu_ret rfl trivial (hΦ _ Hs hps hts (by omega)))
    · -- 299: not y = 0
      have hb2 := hbt h40
      refine mw_go mu_g35 (k := 1) (f1 := (300, [(4, .inl y), (5, .inl (nI k)), (0, .inr (.inr (some 80)))], [.inr (.inr (some 80))], Hs)) (C := []) rfl trivial ?_
      refine mw_cV (fun _ => rfl) (show mu_is Hs (some 80) 7 from hps.1.is rfl) (pa_symbols (d := (d + 6)) (B := B) hps) (fun H42 q42 => ?_)
      obtain ⟨hp42, qt42, qb42⟩ := q42
      have ht42 := hts.trans qt42
      refine mw_go mu_g35 (k := 1) (f1 := (304, [(4, .inl y), (5, .inl (nI k)), (0, .inr (.inr (some 80)))], [.inl (-1 : Int32)], H42)) (C := []) rfl trivial ?_
      exact mw_of (fun _ => mu_ret rfl trivial (hΦ _ H42 hp42 ht42 (by omega)))
end ParserMain
