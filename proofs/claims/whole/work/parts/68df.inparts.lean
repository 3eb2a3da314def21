/-! The reference: the parts of an INSTANCE -/
theorem ivs_ne {Iv : Nat → Ins} {j k s : Nat} {v : Int32} (h : s ≠ j) : ivs Iv j k v s = Iv s := if_neg h
theorem ids_ne {Iv : Nat → Ins} {j k s : Nat} {v : Int32} (h : s ≠ j) : ids Iv j k v s = Iv s := if_neg h
theorem ins_ne {Iv : Nat → Ins} {j k s i : Nat} (h : s ≠ j) : ins Iv j k i s = Iv s := if_neg h
theorem ivs_eq {Iv : Nat → Ins} {j k : Nat} {v : Int32} : (ivs Iv j k v j).1 = (Iv j).1 := by unfold ivs iup; rw [if_pos rfl]
theorem ins_eq {Iv : Nat → Ins} {j k i : Nat} : (ins Iv j k i j).1 = (Iv j).1 := by unfold ins iup; rw [if_pos rfl]
theorem ipl_inst {ms : List Mdl} {rec : Nat → Nat → Tre → Sg → Option (Option Sg)} {cs : List Tre} {j m k n en i : Nat} {Iv : Nat → Ins} {pr : Nat → List (Tre × Nat)} {R : Option Sg} (e : ¬ tkd (nth cs k) = 74) (e2 : tkd (nth cs k) = 73) (e3 : tkd (tkk (nth cs k) 0) = 72) (hi : mtx ms (nam (tkk (nth cs k) 0)) = some i) (h : ipl ms rec cs j (m + 1) k (n, Iv, pr, en) = some R) : ∃ rs, rec i j (tkk (nth cs k) 0) (n, ivs Iv j k (-1), pr, en + 1) = some rs ∧ (rs = none → R = none) ∧ ∀ n1 Iv1 pr1 en1, rs = some (n1, Iv1, pr1, en1) → ipl ms rec cs j m (k + 1) (n1, ins Iv1 j k n, pr1, en1) = some R := by
  rw [ipl, if_neg e, if_pos e2, if_pos e3, hi] at h
  dsimp only at h
  cases hr : rec i j (tkk (nth cs k) 0) (n, ivs Iv j k (-1), pr, en + 1) with
  | none => rw [hr] at h; cases h
  | some rs =>
    rw [hr] at h
    refine ⟨rs, rfl, fun z => ?_, fun n1 Iv1 pr1 en1 z => ?_⟩
    · subst z; cases h; rfl
    · subst z; exact h
set_option maxRecDepth 8000 in
theorem rp_inV {T : Nat → Int32} {n0 dep lv r cap mp A0 B0 SB d m mi j ip X EM : Nat} {t : Tok} {F : Nat → Prop} {ms : List Mdl} {sy : List (List Int32)} {Hb : mu_H} {Φ : mu_R → Prop} (hm0 : mdf Hb F lv m (mth ms mi)) (hw : mdw (mth ms mi)) (hF : ∀ p, F p → p < mu_z Hb) (ht0 : rtx Hb F lv r ms) (hX : 4000 ≤ X ∧ X + (mth ms mi).2.2.length ≤ EM) (hQ : mu_z Hb + A0 + 800 + 2 * EM + 400 ≤ 1000000) {k n lp p en : Nat} {H : mu_H} {loc : Nat → Nat} {Iv : Nat → Ins} {pr : Nat → List (Tre × Nat)} (hp0 : nd Hb F lp p (nth (mth ms mi).2.2 k)) (hlp : lp ≤ lv) (hp2 : 0 < tsn (nth (mth ms mi).2.2 k)) (hl26 : (mth ms mi).2.2.length ≤ 2 ^ 21) (hk : k < (mth ms mi).2.2.length) (h : bmk T n0 t dep F lv r ms cap sy Hb mp (A0 + 4 * n) (B0 + n * SB) loc n Iv pr en H) (hip : loc (9 + 4 * j) = ip) (hj : j < n) (him : (Iv j).1 = mi) (hplx : plx pr ≤ 2 * en) (hen : en ≤ X + (mth ms mi).2.2.length) (hnx : ∀ H1 loc1, bmk T n0 t dep F lv r ms cap sy Hb mp (A0 + 4 * n) (B0 + n * SB) loc1 n (ivs Iv j k (nI (pr 1).length)) (pup pr 1 (pr 1 ++ [((tkk (nth (mth ms mi).2.2 k) 0), j)])) en H1 → (∀ s, 9 ≤ s → loc1 s = loc s) → mu_W (mu_D (d + 6)) mu_m458 (121, [(5, .inl (nI (k + 1))), (4, .inr (.inr (some ip))), (1, .inr (.inr (some m))), (0, .inr (.inr (some 169)))], [], H1) Φ) : mu_W (mu_D (d + 6)) mu_m458 (269, [(6, .inr (.inr (some p))), (5, .inl (nI k)), (4, .inr (.inr (some ip))), (1, .inr (.inr (some m))), (0, .inr (.inr (some 169)))], [], H) Φ := by
  obtain ⟨kd1, ⟨is1, nF1, lt1⟩, ⟨st1, sr1, sf1⟩, ⟨n2_1, n3_1, n7_1⟩, nm1, ar1, aq1, aF1, ai1, ⟨al1, am1, ax1⟩, ch1, dp1⟩ := nd.rd (c := (nth (mth ms mi).2.2 k)) hp0
  obtain ⟨ty, yr2, yn2⟩ := ch1 0 hp2
  have yn2 : nd Hb F _ ty (tkk (nth (mth ms mi).2.2 k) 0) := yn2
  obtain ⟨b1_2, b2_2, b3_2, b4_2⟩ := ar_at ai1 (by decide) (Nat.lt_of_lt_of_le hp2 al1) (Nat.lt_of_le_of_lt ax1 (by decide))
  have y2_2 : mu_r Hb ar1 (0 : Int32).toNatClampNeg = some ty := yr2
  obtain ⟨kd3, ⟨is3, nF3, lt3⟩, ⟨st3, sr3, sf3⟩, ⟨n2_3, n3_3, n7_3⟩, nm3, ar3, aq3, aF3, ai3, ⟨al3, am3, ax3⟩, ch3, dp3⟩ := nd.rd (c := (tkk (nth (mth ms mi).2.2 k) 0)) yn2
  have hp1 := hw.2 k hk
  have hcb := h.cpb
  have hn200 : n ≤ 200 := h.2.1.2.2.1.2.2.1
  have m18_4 : mu_r H 169 18 = some mp := h.2.1.1.2.2
  have m0_4 : mu_r H mp 0 = some (loc 0) := h.2.1.2.1.1
  have m1_4 : mu_i H mp 1 = nI n := h.2.1.2.1.2.1
  have m2_4 : mu_i H mp 2 = nI en := h.2.1.2.1.2.2
  have mN0_4 : mu_r H mp 7 = some (loc 1) := (h.2.1.2.2.2.1 0 (by decide)).1.1
  have mI0_4 : mu_r H mp 8 = some (loc 2) := (h.2.1.2.2.2.1 0 (by decide)).1.2.1
  have mC0_4 : mu_i H mp 9 = nI (pr 0).length := (h.2.1.2.2.2.1 0 (by decide)).1.2.2
  have mN1_4 : mu_r H mp 4 = some (loc 3) := (h.2.1.2.2.2.1 1 (by decide)).1.1
  have mI1_4 : mu_r H mp 3 = some (loc 4) := (h.2.1.2.2.2.1 1 (by decide)).1.2.1
  have mC1_4 : mu_i H mp 5 = nI (pr 1).length := (h.2.1.2.2.2.1 1 (by decide)).1.2.2
  have mN2_4 : mu_r H mp 10 = some (loc 5) := (h.2.1.2.2.2.1 2 (by decide)).1.1
  have mI2_4 : mu_r H mp 11 = some (loc 6) := (h.2.1.2.2.2.1 2 (by decide)).1.2.1
  have mC2_4 : mu_i H mp 12 = nI (pr 2).length := (h.2.1.2.2.2.1 2 (by decide)).1.2.2
  have mN3_4 : mu_r H mp 13 = some (loc 7) := (h.2.1.2.2.2.1 3 (by decide)).1.1
  have mI3_4 : mu_r H mp 14 = some (loc 8) := (h.2.1.2.2.2.1 3 (by decide)).1.2.1
  have mC3_4 : mu_i H mp 15 = nI (pr 3).length := (h.2.1.2.2.2.1 3 (by decide)).1.2.2
  have rz4 := h.rz
  have hpl := plx_le (pr := pr) (k := 1) (by decide)
  have cb4 := h.cpb
  refine mw_go mu_g458 (k := 2) (f1 := (273, [(6, .inr (.inr (some p))), (5, .inl (nI k)), (4, .inr (.inr (some ip))), (1, .inr (.inr (some m))), (0, .inr (.inr (some 169)))], [.inr (.inr (mu_r H 169 18))], H)) (C := [mu_is H (some 169) 1]) rfl (show mu_is H (some 169) 1 from h.rz.2.2.2.2) ?_
  refine mw_fr (f' := (273, [(6, .inr (.inr (some p))), (5, .inl (nI k)), (4, .inr (.inr (some ip))), (1, .inr (.inr (some m))), (0, .inr (.inr (some 169)))], [.inr (.inr (some mp))], H)) (by first | (rw [m18_4]; done) | (rw [m18_4]; rfl)) ?_
  refine mw_go mu_g458 (k := 2) (f1 := (277, [(6, .inr (.inr (some p))), (5, .inl (nI k)), (4, .inr (.inr (some ip))), (1, .inr (.inr (some m))), (0, .inr (.inr (some 169)))], [.inr (.inr (mu_r H 169 18)), .inr (.inr (some mp))], H)) (C := [mu_is H (some 169) 1]) rfl (show mu_is H (some 169) 1 from h.rz.2.2.2.2) ?_
  refine mw_fr (f' := (277, [(6, .inr (.inr (some p))), (5, .inl (nI k)), (4, .inr (.inr (some ip))), (1, .inr (.inr (some m))), (0, .inr (.inr (some 169)))], [.inr (.inr (some mp)), .inr (.inr (some mp))], H)) (by first | (rw [m18_4]; done) | (rw [m18_4]; rfl)) ?_
  refine mw_go mu_g458 (k := 1) (f1 := (280, [(6, .inr (.inr (some p))), (5, .inl (nI k)), (4, .inr (.inr (some ip))), (1, .inr (.inr (some m))), (0, .inr (.inr (some 169)))], [.inr (.inr (mu_r H mp 3)), .inr (.inr (some mp))], H)) (C := [mu_is H (some mp) 16]) rfl (show mu_is H (some mp) 16 from h.2.1.1.1) ?_
  refine mw_fr (f' := (280, [(6, .inr (.inr (some p))), (5, .inl (nI k)), (4, .inr (.inr (some ip))), (1, .inr (.inr (some m))), (0, .inr (.inr (some 169)))], [.inr (.inr (some (loc 4))), .inr (.inr (some mp))], H)) (by first | (rw [mI1_4]; done) | (rw [mI1_4]; rfl)) ?_
  refine mw_go mu_g458 (k := 2) (f1 := (284, [(6, .inr (.inr (some p))), (5, .inl (nI k)), (4, .inr (.inr (some ip))), (1, .inr (.inr (some m))), (0, .inr (.inr (some 169)))], [.inr (.inr (mu_r H 169 18)), .inr (.inr (some (loc 4))), .inr (.inr (some mp))], H)) (C := [mu_is H (some 169) 1]) rfl (show mu_is H (some 169) 1 from h.rz.2.2.2.2) ?_
  refine mw_fr (f' := (284, [(6, .inr (.inr (some p))), (5, .inl (nI k)), (4, .inr (.inr (some ip))), (1, .inr (.inr (some m))), (0, .inr (.inr (some 169)))], [.inr (.inr (some mp)), .inr (.inr (some (loc 4))), .inr (.inr (some mp))], H)) (by first | (rw [m18_4]; done) | (rw [m18_4]; rfl)) ?_
  refine mw_go mu_g458 (k := 1) (f1 := (287, [(6, .inr (.inr (some p))), (5, .inl (nI k)), (4, .inr (.inr (some ip))), (1, .inr (.inr (some m))), (0, .inr (.inr (some 169)))], [.inl (mu_i H mp 5), .inr (.inr (some (loc 4))), .inr (.inr (some mp))], H)) (C := [mu_is H (some mp) 16]) rfl (show mu_is H (some mp) 16 from h.2.1.1.1) ?_
  refine mw_fr (f' := (287, [(6, .inr (.inr (some p))), (5, .inl (nI k)), (4, .inr (.inr (some ip))), (1, .inr (.inr (some m))), (0, .inr (.inr (some 169)))], [.inl (nI (pr 1).length), .inr (.inr (some (loc 4))), .inr (.inr (some mp))], H)) (by first | (rw [mC1_4]; done) | (rw [mC1_4]; rfl)) ?_
  have wr5 := (h.2.1.2.2.2.1 1 (by decide)).2.2
  have wl5 : (pr 1).length ≤ mu_n H (loc 4) ∧ 16 ≤ mu_n H (loc 4) ∧ mu_n H (loc 4) ≤ 2 * (pr 1).length + 64 := wr5.2.1
  have el5 : (pr 1).length = mu_n H (loc 4) → ∀ i, i < mu_n H (loc 4) → mu_is H (mu_r H (loc 4) i) 15 := fun e i hi => by
      have z9 := wr5.2.2 i (by rw [e]; exact hi)
      rw [show mu_r H (loc 4) i = _ from z9.1]
      exact (h.2.1.2.2.2.2.1 _ z9.2).1
  refine mw_cA (fun _ => rfl) trivial (rp_moreI (cap := mu_n H (loc 4)) wr5.1 rfl (by omega) wl5.1 el5 (by omega)) (fun y5 H5 q5 => ?_)
  obtain ⟨loc5, pp5, rfl, e5, ag5, hb5, ll5, nl5, zl5⟩ := h.mrI (k := 1) (by decide) (by omega) q5
  have e5 : loc5 4 = pp5 := e5
  subst e5
  have hb5 : bmk T n0 t dep F lv r ms cap sy Hb mp (A0 + 4 * n) (B0 + n * SB) loc5 n Iv pr en (mu_sr H5 mp 3 (some (loc5 4))) := hb5
  have ll5 : (pr 1).length < mu_n (mu_sr H5 mp 3 (some (loc5 4))) (loc5 4) := ll5
  have nl5 : ∀ s, s < 9 + 4 * n → mu_n (mu_sr H5 mp 3 (some (loc5 4))) (loc s) = mu_n H (loc s) := nl5
  have zl5 : mu_z (mu_sr H5 mp 3 (some (loc5 4))) ≤ mu_z H + 1 := zl5
  show mu_W _ mu_m458 (290, [(6, .inr (.inr (some p))), (5, .inl (nI k)), (4, .inr (.inr (some ip))), (1, .inr (.inr (some m))), (0, .inr (.inr (some 169)))], [.inr (.inr (some (loc5 4))), .inr (.inr (some mp))], H5) _
  refine mw_go mu_g458 (k := 1) (f1 := (293, [(6, .inr (.inr (some p))), (5, .inl (nI k)), (4, .inr (.inr (some ip))), (1, .inr (.inr (some m))), (0, .inr (.inr (some 169)))], [], (mu_sr H5 mp 3 (some (loc5 4))))) (C := [mu_is H5 (some mp) 16]) rfl (show mu_is H5 (some mp) 16 from (show mu_is H5 (some mp) 16 from hb5.2.1.1.1)) ?_
  obtain ⟨K5, eK5⟩ : ∃ K, K = (mu_sr H5 mp 3 (some (loc5 4))) := ⟨_, rfl⟩
  rw [← eK5] at hb5 ll5 nl5 zl5 ⊢
  clear eK5
  have cb5 := hb5.cpb
  have m18_6 : mu_r K5 169 18 = some mp := hb5.2.1.1.2.2
  have m0_6 : mu_r K5 mp 0 = some (loc5 0) := hb5.2.1.2.1.1
  have m1_6 : mu_i K5 mp 1 = nI n := hb5.2.1.2.1.2.1
  have m2_6 : mu_i K5 mp 2 = nI en := hb5.2.1.2.1.2.2
  have mN0_6 : mu_r K5 mp 7 = some (loc5 1) := (hb5.2.1.2.2.2.1 0 (by decide)).1.1
  have mI0_6 : mu_r K5 mp 8 = some (loc5 2) := (hb5.2.1.2.2.2.1 0 (by decide)).1.2.1
  have mC0_6 : mu_i K5 mp 9 = nI (pr 0).length := (hb5.2.1.2.2.2.1 0 (by decide)).1.2.2
  have mN1_6 : mu_r K5 mp 4 = some (loc5 3) := (hb5.2.1.2.2.2.1 1 (by decide)).1.1
  have mI1_6 : mu_r K5 mp 3 = some (loc5 4) := (hb5.2.1.2.2.2.1 1 (by decide)).1.2.1
  have mC1_6 : mu_i K5 mp 5 = nI (pr 1).length := (hb5.2.1.2.2.2.1 1 (by decide)).1.2.2
  have mN2_6 : mu_r K5 mp 10 = some (loc5 5) := (hb5.2.1.2.2.2.1 2 (by decide)).1.1
  have mI2_6 : mu_r K5 mp 11 = some (loc5 6) := (hb5.2.1.2.2.2.1 2 (by decide)).1.2.1
  have mC2_6 : mu_i K5 mp 12 = nI (pr 2).length := (hb5.2.1.2.2.2.1 2 (by decide)).1.2.2
  have mN3_6 : mu_r K5 mp 13 = some (loc5 7) := (hb5.2.1.2.2.2.1 3 (by decide)).1.1
  have mI3_6 : mu_r K5 mp 14 = some (loc5 8) := (hb5.2.1.2.2.2.1 3 (by decide)).1.2.1
  have mC3_6 : mu_i K5 mp 15 = nI (pr 3).length := (hb5.2.1.2.2.2.1 3 (by decide)).1.2.2
  have rz6 := hb5.rz
  refine mw_go mu_g458 (k := 2) (f1 := (297, [(6, .inr (.inr (some p))), (5, .inl (nI k)), (4, .inr (.inr (some ip))), (1, .inr (.inr (some m))), (0, .inr (.inr (some 169)))], [.inr (.inr (mu_r K5 169 18))], K5)) (C := [mu_is K5 (some 169) 1]) rfl (show mu_is K5 (some 169) 1 from hb5.rz.2.2.2.2) ?_
  refine mw_fr (f' := (297, [(6, .inr (.inr (some p))), (5, .inl (nI k)), (4, .inr (.inr (some ip))), (1, .inr (.inr (some m))), (0, .inr (.inr (some 169)))], [.inr (.inr (some mp))], K5)) (by first | (rw [m18_6]; done) | (rw [m18_6]; rfl)) ?_
  refine mw_go mu_g458 (k := 2) (f1 := (301, [(6, .inr (.inr (some p))), (5, .inl (nI k)), (4, .inr (.inr (some ip))), (1, .inr (.inr (some m))), (0, .inr (.inr (some 169)))], [.inr (.inr (mu_r K5 169 18)), .inr (.inr (some mp))], K5)) (C := [mu_is K5 (some 169) 1]) rfl (show mu_is K5 (some 169) 1 from hb5.rz.2.2.2.2) ?_
  refine mw_fr (f' := (301, [(6, .inr (.inr (some p))), (5, .inl (nI k)), (4, .inr (.inr (some ip))), (1, .inr (.inr (some m))), (0, .inr (.inr (some 169)))], [.inr (.inr (some mp)), .inr (.inr (some mp))], K5)) (by first | (rw [m18_6]; done) | (rw [m18_6]; rfl)) ?_
  refine mw_go mu_g458 (k := 1) (f1 := (304, [(6, .inr (.inr (some p))), (5, .inl (nI k)), (4, .inr (.inr (some ip))), (1, .inr (.inr (some m))), (0, .inr (.inr (some 169)))], [.inr (.inr (mu_r K5 mp 4)), .inr (.inr (some mp))], K5)) (C := [mu_is K5 (some mp) 16]) rfl (show mu_is K5 (some mp) 16 from hb5.2.1.1.1) ?_
  refine mw_fr (f' := (304, [(6, .inr (.inr (some p))), (5, .inl (nI k)), (4, .inr (.inr (some ip))), (1, .inr (.inr (some m))), (0, .inr (.inr (some 169)))], [.inr (.inr (some (loc5 3))), .inr (.inr (some mp))], K5)) (by first | (rw [mN1_6]; done) | (rw [mN1_6]; rfl)) ?_
  refine mw_go mu_g458 (k := 2) (f1 := (308, [(6, .inr (.inr (some p))), (5, .inl (nI k)), (4, .inr (.inr (some ip))), (1, .inr (.inr (some m))), (0, .inr (.inr (some 169)))], [.inr (.inr (mu_r K5 169 18)), .inr (.inr (some (loc5 3))), .inr (.inr (some mp))], K5)) (C := [mu_is K5 (some 169) 1]) rfl (show mu_is K5 (some 169) 1 from hb5.rz.2.2.2.2) ?_
  refine mw_fr (f' := (308, [(6, .inr (.inr (some p))), (5, .inl (nI k)), (4, .inr (.inr (some ip))), (1, .inr (.inr (some m))), (0, .inr (.inr (some 169)))], [.inr (.inr (some mp)), .inr (.inr (some (loc5 3))), .inr (.inr (some mp))], K5)) (by first | (rw [m18_6]; done) | (rw [m18_6]; rfl)) ?_
  refine mw_go mu_g458 (k := 1) (f1 := (311, [(6, .inr (.inr (some p))), (5, .inl (nI k)), (4, .inr (.inr (some ip))), (1, .inr (.inr (some m))), (0, .inr (.inr (some 169)))], [.inl (mu_i K5 mp 5), .inr (.inr (some (loc5 3))), .inr (.inr (some mp))], K5)) (C := [mu_is K5 (some mp) 16]) rfl (show mu_is K5 (some mp) 16 from hb5.2.1.1.1) ?_
  refine mw_fr (f' := (311, [(6, .inr (.inr (some p))), (5, .inl (nI k)), (4, .inr (.inr (some ip))), (1, .inr (.inr (some m))), (0, .inr (.inr (some 169)))], [.inl (nI (pr 1).length), .inr (.inr (some (loc5 3))), .inr (.inr (some mp))], K5)) (by first | (rw [mC1_6]; done) | (rw [mC1_6]; rfl)) ?_
  have wr7 := (hb5.2.1.2.2.2.1 1 (by decide)).2.1
  have wl7 : (pr 1).length ≤ mu_n K5 (loc5 3) ∧ 16 ≤ mu_n K5 (loc5 3) ∧ mu_n K5 (loc5 3) ≤ 2 * (pr 1).length + 64 := wr7.2.1
  have el7 : (pr 1).length = mu_n K5 (loc5 3) → ∀ i, i < mu_n K5 (loc5 3) → mu_is K5 (mu_r K5 (loc5 3) i) 18 := fun e i hi => by
      obtain ⟨q9, q1, q2⟩ := wr7.2.2 i (by rw [e]; exact hi)
      rw [show mu_r K5 (loc5 3) i = some q9 from q1]
      exact q2.is.1
  refine mw_cA (fun _ => rfl) trivial (rp_moreN (cap := mu_n K5 (loc5 3)) wr7.1 rfl (by omega) wl7.1 el7 (by omega)) (fun y7 H7 q7 => ?_)
  obtain ⟨loc7, pp7, rfl, e7, ag7, hb7, ll7, nl7, zl7⟩ := hb5.mrN (k := 1) (by decide) (by omega) q7
  have e7 : loc7 3 = pp7 := e7
  subst e7
  have hb7 : bmk T n0 t dep F lv r ms cap sy Hb mp (A0 + 4 * n) (B0 + n * SB) loc7 n Iv pr en (mu_sr H7 mp 4 (some (loc7 3))) := hb7
  have ll7 : (pr 1).length < mu_n (mu_sr H7 mp 4 (some (loc7 3))) (loc7 3) := ll7
  have nl7 : ∀ s, s < 9 + 4 * n → mu_n (mu_sr H7 mp 4 (some (loc7 3))) (loc5 s) = mu_n K5 (loc5 s) := nl7
  have zl7 : mu_z (mu_sr H7 mp 4 (some (loc7 3))) ≤ mu_z K5 + 1 := zl7
  show mu_W _ mu_m458 (314, [(6, .inr (.inr (some p))), (5, .inl (nI k)), (4, .inr (.inr (some ip))), (1, .inr (.inr (some m))), (0, .inr (.inr (some 169)))], [.inr (.inr (some (loc7 3))), .inr (.inr (some mp))], H7) _
  refine mw_go mu_g458 (k := 1) (f1 := (317, [(6, .inr (.inr (some p))), (5, .inl (nI k)), (4, .inr (.inr (some ip))), (1, .inr (.inr (some m))), (0, .inr (.inr (some 169)))], [], (mu_sr H7 mp 4 (some (loc7 3))))) (C := [mu_is H7 (some mp) 16]) rfl (show mu_is H7 (some mp) 16 from (show mu_is H7 (some mp) 16 from hb7.2.1.1.1)) ?_
  obtain ⟨K7, eK7⟩ : ∃ K, K = (mu_sr H7 mp 4 (some (loc7 3))) := ⟨_, rfl⟩
  rw [← eK7] at hb7 ll7 nl7 zl7 ⊢
  clear eK7
  have hip4 : loc7 (9 + 4 * j) = ip := (ag7 _ (by omega)).trans ((ag5 _ (by omega)).trans hip)
  have m18_8 : mu_r K7 169 18 = some mp := hb7.2.1.1.2.2
  have m0_8 : mu_r K7 mp 0 = some (loc7 0) := hb7.2.1.2.1.1
  have m1_8 : mu_i K7 mp 1 = nI n := hb7.2.1.2.1.2.1
  have m2_8 : mu_i K7 mp 2 = nI en := hb7.2.1.2.1.2.2
  have mN0_8 : mu_r K7 mp 7 = some (loc7 1) := (hb7.2.1.2.2.2.1 0 (by decide)).1.1
  have mI0_8 : mu_r K7 mp 8 = some (loc7 2) := (hb7.2.1.2.2.2.1 0 (by decide)).1.2.1
  have mC0_8 : mu_i K7 mp 9 = nI (pr 0).length := (hb7.2.1.2.2.2.1 0 (by decide)).1.2.2
  have mN1_8 : mu_r K7 mp 4 = some (loc7 3) := (hb7.2.1.2.2.2.1 1 (by decide)).1.1
  have mI1_8 : mu_r K7 mp 3 = some (loc7 4) := (hb7.2.1.2.2.2.1 1 (by decide)).1.2.1
  have mC1_8 : mu_i K7 mp 5 = nI (pr 1).length := (hb7.2.1.2.2.2.1 1 (by decide)).1.2.2
  have mN2_8 : mu_r K7 mp 10 = some (loc7 5) := (hb7.2.1.2.2.2.1 2 (by decide)).1.1
  have mI2_8 : mu_r K7 mp 11 = some (loc7 6) := (hb7.2.1.2.2.2.1 2 (by decide)).1.2.1
  have mC2_8 : mu_i K7 mp 12 = nI (pr 2).length := (hb7.2.1.2.2.2.1 2 (by decide)).1.2.2
  have mN3_8 : mu_r K7 mp 13 = some (loc7 7) := (hb7.2.1.2.2.2.1 3 (by decide)).1.1
  have mI3_8 : mu_r K7 mp 14 = some (loc7 8) := (hb7.2.1.2.2.2.1 3 (by decide)).1.2.1
  have mC3_8 : mu_i K7 mp 15 = nI (pr 3).length := (hb7.2.1.2.2.2.1 3 (by decide)).1.2.2
  have rz8 := hb7.rz
  have hipq : loc7 (9 + 4 * j) = ip := hip4
  have if9 := hb7.2.1.2.2.2.2.1 j hj
  have iw3_9 : mu_r K7 ip 3 = some (loc7 (10 + 4 * j)) := by rw [← hipq]; exact if9.2.2.2.1.1
  have iw4_9 : mu_r K7 ip 4 = some (loc7 (11 + 4 * j)) := by rw [← hipq]; exact if9.2.2.2.1.2.1
  have iw5_9 : mu_r K7 ip 5 = some (loc7 (12 + 4 * j)) := by rw [← hipq]; exact if9.2.2.2.1.2.2
  have iwi_9 : mu_is K7 (some ip) 15 := by rw [← hipq]; exact if9.1
  have imi_9 : (Iv j).1 = mi := him
  have vp10_9 : mu_n K7 (loc7 (10 + 4 * j)) = (mth ms mi).2.2.length := by have := if9.2.2.2.2.1.2.1; rw [imi_9] at this; exact this
  have vp11_9 : mu_n K7 (loc7 (11 + 4 * j)) = (mth ms mi).2.2.length := by have := if9.2.2.2.2.2.1.2.1; rw [imi_9] at this; exact this
  have vp12_9 : mu_n K7 (loc7 (12 + 4 * j)) = (mth ms mi).2.2.length := by have := if9.2.2.2.2.2.2.2.1; rw [imi_9] at this; exact this
  have dif := hb7.dif (k := 1) (by decide)
  have hlI : (pr 1).length < mu_n K7 (loc7 4) := by
    have e1 : loc7 4 = loc5 4 := ag7 4 (by decide)
    rw [e1, nl7 4 (by omega)]; exact ll5
  have hlN : (pr 1).length < mu_n K7 (loc7 3) := ll7
  have bN : _ ∧ _ ∧ mu_n K7 (loc7 3) ≤ 2 * (pr 1).length + 64 := (hb7.2.1.2.2.2.1 1 (by decide)).2.1.2.1
  have bI2 : _ ∧ _ ∧ mu_n K7 (loc7 4) ≤ 2 * (pr 1).length + 64 := (hb7.2.1.2.2.2.1 1 (by decide)).2.2.2.1
  have hq4 : nd K7 F lv ty (tkk (nth (mth ms mi).2.2 k) 0) := (hb7.ndk yn2 hF).le (by omega)
  have bz4 : mu_z Hb ≤ loc7 4 := hb7.2.2.1.2 4 (by omega)
  have bz3 : mu_z Hb ≤ loc7 3 := hb7.2.2.1.2 3 (by omega)
  have g9 := hb7.2.1.2.2.2.2.2.2
  have hi4 : ip ≠ loc7 4 := fun z => by have := g9 (9 + 4 * j) 4 (by omega) (by omega) (hip4.trans z); omega
  have hi3 : ip ≠ loc7 3 := fun z => by have := g9 (9 + 4 * j) 3 (by omega) (by omega) (hip4.trans z); omega
  have hl1 : (pr 1).length < 2 ^ 31 := by omega
  refine mw_go mu_g458 (k := 2) (f1 := (321, [(6, .inr (.inr (some p))), (5, .inl (nI k)), (4, .inr (.inr (some ip))), (1, .inr (.inr (some m))), (0, .inr (.inr (some 169)))], [.inr (.inr (mu_r K7 169 18))], K7)) (C := [mu_is K7 (some 169) 1]) rfl (show mu_is K7 (some 169) 1 from hb7.rz.2.2.2.2) ?_
  refine mw_fr (f' := (321, [(6, .inr (.inr (some p))), (5, .inl (nI k)), (4, .inr (.inr (some ip))), (1, .inr (.inr (some m))), (0, .inr (.inr (some 169)))], [.inr (.inr (some mp))], K7)) (by first | (rw [m18_8]; done) | (rw [m18_8]; rfl)) ?_
  refine mw_go mu_g458 (k := 1) (f1 := (324, [(6, .inr (.inr (some p))), (5, .inl (nI k)), (4, .inr (.inr (some ip))), (1, .inr (.inr (some m))), (0, .inr (.inr (some 169)))], [.inr (.inr (mu_r K7 mp 3))], K7)) (C := [mu_is K7 (some mp) 16]) rfl (show mu_is K7 (some mp) 16 from hb7.2.1.1.1) ?_
  refine mw_fr (f' := (324, [(6, .inr (.inr (some p))), (5, .inl (nI k)), (4, .inr (.inr (some ip))), (1, .inr (.inr (some m))), (0, .inr (.inr (some 169)))], [.inr (.inr (some (loc7 4)))], K7)) (by first | (rw [mI1_8]; done) | (rw [mI1_8]; rfl)) ?_
  refine mw_go mu_g458 (k := 2) (f1 := (328, [(6, .inr (.inr (some p))), (5, .inl (nI k)), (4, .inr (.inr (some ip))), (1, .inr (.inr (some m))), (0, .inr (.inr (some 169)))], [.inr (.inr (mu_r K7 169 18)), .inr (.inr (some (loc7 4)))], K7)) (C := [mu_is K7 (some 169) 1]) rfl (show mu_is K7 (some 169) 1 from hb7.rz.2.2.2.2) ?_
  refine mw_fr (f' := (328, [(6, .inr (.inr (some p))), (5, .inl (nI k)), (4, .inr (.inr (some ip))), (1, .inr (.inr (some m))), (0, .inr (.inr (some 169)))], [.inr (.inr (some mp)), .inr (.inr (some (loc7 4)))], K7)) (by first | (rw [m18_8]; done) | (rw [m18_8]; rfl)) ?_
  refine mw_go mu_g458 (k := 1) (f1 := (331, [(6, .inr (.inr (some p))), (5, .inl (nI k)), (4, .inr (.inr (some ip))), (1, .inr (.inr (some m))), (0, .inr (.inr (some 169)))], [.inl (mu_i K7 mp 5), .inr (.inr (some (loc7 4)))], K7)) (C := [mu_is K7 (some mp) 16]) rfl (show mu_is K7 (some mp) 16 from hb7.2.1.1.1) ?_
  refine mw_fr (f' := (331, [(6, .inr (.inr (some p))), (5, .inl (nI k)), (4, .inr (.inr (some ip))), (1, .inr (.inr (some m))), (0, .inr (.inr (some 169)))], [.inl (nI (pr 1).length), .inr (.inr (some (loc7 4)))], K7)) (by first | (rw [mC1_8]; done) | (rw [mC1_8]; rfl)) ?_
  refine mw_go mu_g458 (k := 1) (f1 := (333, [(6, .inr (.inr (some p))), (5, .inl (nI k)), (4, .inr (.inr (some ip))), (1, .inr (.inr (some m))), (0, .inr (.inr (some 169)))], [.inr (.inr (some ip)), .inl (nI (pr 1).length), .inr (.inr (some (loc7 4)))], K7)) (C := []) rfl trivial ?_
  refine mw_aastO (t := 10) (ct := 15) rfl (show mu_is K7 (some (loc7 4)) 110 from (hb7.2.1.2.2.2.1 1 (by decide)).2.2.1) iwi_9 (by decide) (show vp_in (nI (pr 1).length) (mu_n K7 (loc7 4)) from vp_in_nI hlI (by omega)) ?_
  rw [show mu_p (some (loc7 4)) = loc7 4 from rfl, nI_clamp hl1]
  show mu_W _ mu_m458 (334, [(6, .inr (.inr (some p))), (5, .inl (nI k)), (4, .inr (.inr (some ip))), (1, .inr (.inr (some m))), (0, .inr (.inr (some 169)))], [], (mu_sr K7 (loc7 4) (pr 1).length (some ip))) _
  have a18 : mu_r (mu_sr K7 (loc7 4) (pr 1).length (some ip)) 169 18 = some mp := by rw [mu_r_sr, if_neg (fun z => dif.2.2.2.2.1 z.1.symm)]; exact hb7.2.1.1.2.2
  have a4 : mu_r (mu_sr K7 (loc7 4) (pr 1).length (some ip)) mp 4 = some (loc7 3) := by rw [mu_r_sr, if_neg (fun z => dif.2.2.1 z.1.symm)]; exact (hb7.2.1.2.2.2.1 1 (by decide)).1.1
  refine mw_go mu_g458 (k := 2) (f1 := (338, [(6, .inr (.inr (some p))), (5, .inl (nI k)), (4, .inr (.inr (some ip))), (1, .inr (.inr (some m))), (0, .inr (.inr (some 169)))], [.inr (.inr (mu_r (mu_sr K7 (loc7 4) (pr 1).length (some ip)) 169 18))], (mu_sr K7 (loc7 4) (pr 1).length (some ip)))) (C := [mu_is K7 (some 169) 1]) rfl (show mu_is K7 (some 169) 1 from hb7.rz.2.2.2.2) ?_
  refine mw_fr (f' := (338, [(6, .inr (.inr (some p))), (5, .inl (nI k)), (4, .inr (.inr (some ip))), (1, .inr (.inr (some m))), (0, .inr (.inr (some 169)))], [.inr (.inr (some mp))], (mu_sr K7 (loc7 4) (pr 1).length (some ip)))) (by first | (rw [a18]; done) | (rw [a18]; rfl)) ?_
  refine mw_go mu_g458 (k := 1) (f1 := (341, [(6, .inr (.inr (some p))), (5, .inl (nI k)), (4, .inr (.inr (some ip))), (1, .inr (.inr (some m))), (0, .inr (.inr (some 169)))], [.inr (.inr (mu_r (mu_sr K7 (loc7 4) (pr 1).length (some ip)) mp 4))], (mu_sr K7 (loc7 4) (pr 1).length (some ip)))) (C := [mu_is K7 (some mp) 16]) rfl (show mu_is K7 (some mp) 16 from hb7.2.1.1.1) ?_
  refine mw_fr (f' := (341, [(6, .inr (.inr (some p))), (5, .inl (nI k)), (4, .inr (.inr (some ip))), (1, .inr (.inr (some m))), (0, .inr (.inr (some 169)))], [.inr (.inr (some (loc7 3)))], (mu_sr K7 (loc7 4) (pr 1).length (some ip)))) (by first | (rw [a4]; done) | (rw [a4]; rfl)) ?_
  refine mw_go mu_g458 (k := 2) (f1 := (345, [(6, .inr (.inr (some p))), (5, .inl (nI k)), (4, .inr (.inr (some ip))), (1, .inr (.inr (some m))), (0, .inr (.inr (some 169)))], [.inr (.inr (mu_r (mu_sr K7 (loc7 4) (pr 1).length (some ip)) 169 18)), .inr (.inr (some (loc7 3)))], (mu_sr K7 (loc7 4) (pr 1).length (some ip)))) (C := [mu_is K7 (some 169) 1]) rfl (show mu_is K7 (some 169) 1 from hb7.rz.2.2.2.2) ?_
  refine mw_fr (f' := (345, [(6, .inr (.inr (some p))), (5, .inl (nI k)), (4, .inr (.inr (some ip))), (1, .inr (.inr (some m))), (0, .inr (.inr (some 169)))], [.inr (.inr (some mp)), .inr (.inr (some (loc7 3)))], (mu_sr K7 (loc7 4) (pr 1).length (some ip)))) (by first | (rw [a18]; done) | (rw [a18]; rfl)) ?_
  refine mw_go mu_g458 (k := 1) (f1 := (348, [(6, .inr (.inr (some p))), (5, .inl (nI k)), (4, .inr (.inr (some ip))), (1, .inr (.inr (some m))), (0, .inr (.inr (some 169)))], [.inl (mu_i K7 mp 5), .inr (.inr (some (loc7 3)))], (mu_sr K7 (loc7 4) (pr 1).length (some ip)))) (C := [mu_is K7 (some mp) 16]) rfl (show mu_is K7 (some mp) 16 from hb7.2.1.1.1) ?_
  refine mw_fr (f' := (348, [(6, .inr (.inr (some p))), (5, .inl (nI k)), (4, .inr (.inr (some ip))), (1, .inr (.inr (some m))), (0, .inr (.inr (some 169)))], [.inl (nI (pr 1).length), .inr (.inr (some (loc7 3)))], (mu_sr K7 (loc7 4) (pr 1).length (some ip)))) (by first | (rw [mC1_8]; done) | (rw [mC1_8]; rfl)) ?_
  refine mw_go mu_g458 (k := 2) (f1 := (353, [(6, .inr (.inr (some p))), (5, .inl (nI k)), (4, .inr (.inr (some ip))), (1, .inr (.inr (some m))), (0, .inr (.inr (some 169)))], [.inr (.inr (mu_r (mu_sr K7 (loc7 4) (pr 1).length (some ip)) p 1)), .inl (nI (pr 1).length), .inr (.inr (some (loc7 3)))], (mu_sr K7 (loc7 4) (pr 1).length (some ip)))) (C := [mu_is K7 (some p) 18]) rfl (show mu_is K7 (some p) 18 from ((hb7.2.2.2.1).is is1 (fun z => absurd z.1 (Nat.not_le.mpr is1.2.1)))) ?_
  refine mw_fr (f' := (353, [(6, .inr (.inr (some p))), (5, .inl (nI k)), (4, .inr (.inr (some ip))), (1, .inr (.inr (some m))), (0, .inr (.inr (some 169)))], [.inr (.inr (some ar1)), .inl (nI (pr 1).length), .inr (.inr (some (loc7 3)))], (mu_sr K7 (loc7 4) (pr 1).length (some ip)))) (by first | (rw [((show mu_r (mu_sr K7 (loc7 4) (pr 1).length (some ip)) p 1 = mu_r K7 p 1 by rw [mu_r_sr, if_neg (fun z => absurd z.1 (Nat.ne_of_lt (Nat.lt_of_lt_of_le is1.2.1 bz4)))]).trans ((hb7.2.2.2.1.r (p := p) (Or.inl is1.2.1) (fun z => absurd z.1 (Nat.not_le.mpr is1.2.1)) _).trans aq1))]; done) | (rw [((show mu_r (mu_sr K7 (loc7 4) (pr 1).length (some ip)) p 1 = mu_r K7 p 1 by rw [mu_r_sr, if_neg (fun z => absurd z.1 (Nat.ne_of_lt (Nat.lt_of_lt_of_le is1.2.1 bz4)))]).trans ((hb7.2.2.2.1.r (p := p) (Or.inl is1.2.1) (fun z => absurd z.1 (Nat.not_le.mpr is1.2.1)) _).trans aq1))]; rfl)) ?_
  refine mw_go mu_g458 (k := 2) (f1 := (355, [(6, .inr (.inr (some p))), (5, .inl (nI k)), (4, .inr (.inr (some ip))), (1, .inr (.inr (some m))), (0, .inr (.inr (some 169)))], [.inr (.inr (mu_r (mu_sr K7 (loc7 4) (pr 1).length (some ip)) ar1 (0 : Int32).toNatClampNeg)), .inl (nI (pr 1).length), .inr (.inr (some (loc7 3)))], (mu_sr K7 (loc7 4) (pr 1).length (some ip)))) (C := [mu_is K7 (some ar1) (mu_k K7 ar1), 103 ≤ mu_k (mu_sr K7 (loc7 4) (pr 1).length (some ip)) ar1 ∧ mu_k (mu_sr K7 (loc7 4) (pr 1).length (some ip)) ar1 ≤ 110 ∧ mu_k (mu_sr K7 (loc7 4) (pr 1).length (some ip)) ar1 ≠ 108, vp_in (0 : Int32) (mu_n K7 ar1)]) rfl (show (mu_is K7 (some ar1) (mu_k K7 ar1)) ∧ (103 ≤ mu_k (mu_sr K7 (loc7 4) (pr 1).length (some ip)) ar1 ∧ mu_k (mu_sr K7 (loc7 4) (pr 1).length (some ip)) ar1 ≤ 110 ∧ mu_k (mu_sr K7 (loc7 4) (pr 1).length (some ip)) ar1 ≠ 108) ∧ (vp_in (0 : Int32) (mu_n K7 ar1)) from ⟨⟨rfl, Nat.lt_of_lt_of_le ai1.2.1 (hb7.2.2.2.1).1, rfl⟩, (show 103 ≤ mu_k K7 ar1 ∧ mu_k K7 ar1 ≤ 110 ∧ mu_k K7 ar1 ≠ 108 from (by rw [(hb7.2.2.2.1).k (p := ar1) (Or.inl ai1.2.1) (fun z => absurd z.1 (Nat.not_le.mpr ai1.2.1))]; exact b2_2)), (by rw [(hb7.2.2.2.1).len (p := ar1) (Or.inl ai1.2.1) (fun z => absurd z.1 (Nat.not_le.mpr ai1.2.1))]; exact b3_2)⟩) ?_
  refine mw_fr (f' := (355, [(6, .inr (.inr (some p))), (5, .inl (nI k)), (4, .inr (.inr (some ip))), (1, .inr (.inr (some m))), (0, .inr (.inr (some 169)))], [.inr (.inr (some ty)), .inl (nI (pr 1).length), .inr (.inr (some (loc7 3)))], (mu_sr K7 (loc7 4) (pr 1).length (some ip)))) (by first | (rw [((show mu_r (mu_sr K7 (loc7 4) (pr 1).length (some ip)) ar1 (0 : Int32).toNatClampNeg = mu_r K7 ar1 (0 : Int32).toNatClampNeg by rw [mu_r_sr, if_neg (fun z => absurd z.1 (Nat.ne_of_lt (Nat.lt_of_lt_of_le ai1.2.1 bz4)))]).trans ((hb7.2.2.2.1.r (p := ar1) (Or.inl ai1.2.1) (fun z => absurd z.1 (Nat.not_le.mpr ai1.2.1)) _).trans y2_2))]; done) | (rw [((show mu_r (mu_sr K7 (loc7 4) (pr 1).length (some ip)) ar1 (0 : Int32).toNatClampNeg = mu_r K7 ar1 (0 : Int32).toNatClampNeg by rw [mu_r_sr, if_neg (fun z => absurd z.1 (Nat.ne_of_lt (Nat.lt_of_lt_of_le ai1.2.1 bz4)))]).trans ((hb7.2.2.2.1.r (p := ar1) (Or.inl ai1.2.1) (fun z => absurd z.1 (Nat.not_le.mpr ai1.2.1)) _).trans y2_2))]; rfl)) ?_
  refine mw_aastO (t := 9) (ct := 18) rfl (show mu_is K7 (some (loc7 3)) 109 from (hb7.2.1.2.2.2.1 1 (by decide)).2.1.1) (show mu_is K7 (some ty) 18 from hq4.is.1) (by decide) (show vp_in (nI (pr 1).length) (mu_n K7 (loc7 3)) from vp_in_nI hlN (by omega)) ?_
  rw [show mu_p (some (loc7 3)) = loc7 3 from rfl, nI_clamp hl1]
  show mu_W _ mu_m458 (356, [(6, .inr (.inr (some p))), (5, .inl (nI k)), (4, .inr (.inr (some ip))), (1, .inr (.inr (some m))), (0, .inr (.inr (some 169)))], [], (mu_sr (mu_sr K7 (loc7 4) (pr 1).length (some ip)) (loc7 3) (pr 1).length (some ty))) _
  have c18 : mu_r (mu_sr (mu_sr K7 (loc7 4) (pr 1).length (some ip)) (loc7 3) (pr 1).length (some ty)) 169 18 = some mp := by rw [mu_r_sr, if_neg (fun z => dif.2.2.2.1 z.1.symm)]; exact a18
  have c3 : mu_r (mu_sr (mu_sr K7 (loc7 4) (pr 1).length (some ip)) (loc7 3) (pr 1).length (some ty)) ip 3 = some (loc7 (10 + 4 * j)) := by rw [mu_r_sr, if_neg (fun z => hi3 z.1), mu_r_sr, if_neg (fun z => hi4 z.1)]; exact iw3_9
  have e1 : nI (pr 1).length + (1 : Int32) = nI ((pr 1).length + 1) := nI_add _ _
  refine mw_go mu_g458 (k := 2) (f1 := (361, [(6, .inr (.inr (some p))), (5, .inl (nI k)), (4, .inr (.inr (some ip))), (1, .inr (.inr (some m))), (0, .inr (.inr (some 169)))], [.inr (.inr (mu_r (mu_sr (mu_sr K7 (loc7 4) (pr 1).length (some ip)) (loc7 3) (pr 1).length (some ty)) ip 3))], (mu_sr (mu_sr K7 (loc7 4) (pr 1).length (some ip)) (loc7 3) (pr 1).length (some ty)))) (C := [mu_is K7 (some ip) 15]) rfl (show mu_is K7 (some ip) 15 from iwi_9) ?_
  refine mw_fr (f' := (361, [(6, .inr (.inr (some p))), (5, .inl (nI k)), (4, .inr (.inr (some ip))), (1, .inr (.inr (some m))), (0, .inr (.inr (some 169)))], [.inr (.inr (some (loc7 (10 + 4 * j))))], (mu_sr (mu_sr K7 (loc7 4) (pr 1).length (some ip)) (loc7 3) (pr 1).length (some ty)))) (by first | (rw [c3]; done) | (rw [c3]; rfl)) ?_
  refine mw_go mu_g458 (k := 3) (f1 := (367, [(6, .inr (.inr (some p))), (5, .inl (nI k)), (4, .inr (.inr (some ip))), (1, .inr (.inr (some m))), (0, .inr (.inr (some 169)))], [.inr (.inr (mu_r (mu_sr (mu_sr K7 (loc7 4) (pr 1).length (some ip)) (loc7 3) (pr 1).length (some ty)) 169 18)), .inl (nI k), .inr (.inr (some (loc7 (10 + 4 * j))))], (mu_sr (mu_sr K7 (loc7 4) (pr 1).length (some ip)) (loc7 3) (pr 1).length (some ty)))) (C := [mu_is K7 (some 169) 1]) rfl (show mu_is K7 (some 169) 1 from hb7.rz.2.2.2.2) ?_
  refine mw_fr (f' := (367, [(6, .inr (.inr (some p))), (5, .inl (nI k)), (4, .inr (.inr (some ip))), (1, .inr (.inr (some m))), (0, .inr (.inr (some 169)))], [.inr (.inr (some mp)), .inl (nI k), .inr (.inr (some (loc7 (10 + 4 * j))))], (mu_sr (mu_sr K7 (loc7 4) (pr 1).length (some ip)) (loc7 3) (pr 1).length (some ty)))) (by first | (rw [c18]; done) | (rw [c18]; rfl)) ?_
  refine mw_go mu_g458 (k := 2) (f1 := (371, [(6, .inr (.inr (some p))), (5, .inl (nI k)), (4, .inr (.inr (some ip))), (1, .inr (.inr (some m))), (0, .inr (.inr (some 169)))], [.inl (mu_i K7 mp 5), .inr (.inr (some mp)), .inl (nI k), .inr (.inr (some (loc7 (10 + 4 * j))))], (mu_sr (mu_sr K7 (loc7 4) (pr 1).length (some ip)) (loc7 3) (pr 1).length (some ty)))) (C := [mu_is K7 (some mp) 16]) rfl (show mu_is K7 (some mp) 16 from hb7.2.1.1.1) ?_
  refine mw_fr (f' := (371, [(6, .inr (.inr (some p))), (5, .inl (nI k)), (4, .inr (.inr (some ip))), (1, .inr (.inr (some m))), (0, .inr (.inr (some 169)))], [.inl (nI (pr 1).length), .inr (.inr (some mp)), .inl (nI k), .inr (.inr (some (loc7 (10 + 4 * j))))], (mu_sr (mu_sr K7 (loc7 4) (pr 1).length (some ip)) (loc7 3) (pr 1).length (some ty)))) (by first | (rw [mC1_8]; done) | (rw [mC1_8]; rfl)) ?_
  refine mw_go mu_g458 (k := 3) (f1 := (374, [(6, .inr (.inr (some p))), (5, .inl (nI k)), (4, .inr (.inr (some ip))), (1, .inr (.inr (some m))), (0, .inr (.inr (some 169)))], [.inl ((nI (pr 1).length) + (1 : Int32)), .inr (.inr (some mp)), .inl (nI (pr 1).length), .inl (nI k), .inr (.inr (some (loc7 (10 + 4 * j))))], (mu_sr (mu_sr K7 (loc7 4) (pr 1).length (some ip)) (loc7 3) (pr 1).length (some ty)))) (C := []) rfl trivial ?_
  refine mw_fr (f' := (374, [(6, .inr (.inr (some p))), (5, .inl (nI k)), (4, .inr (.inr (some ip))), (1, .inr (.inr (some m))), (0, .inr (.inr (some 169)))], [.inl (nI ((pr 1).length + 1)), .inr (.inr (some mp)), .inl (nI (pr 1).length), .inl (nI k), .inr (.inr (some (loc7 (10 + 4 * j))))], (mu_sr (mu_sr K7 (loc7 4) (pr 1).length (some ip)) (loc7 3) (pr 1).length (some ty)))) (by first | (rw [e1]; done) | (rw [e1]; rfl)) ?_
  refine mw_go mu_g458 (k := 1) (f1 := (377, [(6, .inr (.inr (some p))), (5, .inl (nI k)), (4, .inr (.inr (some ip))), (1, .inr (.inr (some m))), (0, .inr (.inr (some 169)))], [.inl (nI (pr 1).length), .inl (nI k), .inr (.inr (some (loc7 (10 + 4 * j))))], (mu_si (mu_sr (mu_sr K7 (loc7 4) (pr 1).length (some ip)) (loc7 3) (pr 1).length (some ty)) mp 5 (nI ((pr 1).length + 1))))) (C := [mu_is K7 (some mp) 16]) rfl (show mu_is K7 (some mp) 16 from hb7.2.1.1.1) ?_
  have hKd : bmk T n0 t dep F lv r ms cap sy Hb mp (A0 + 4 * n) (B0 + n * SB) loc7 n Iv (pup pr 1 (pr 1 ++ [((tkk (nth (mth ms mi).2.2 k) 0), j)])) en (mu_si (mu_sr (mu_sr K7 (loc7 4) (pr 1).length (some ip)) (loc7 3) (pr 1).length (some ty)) mp 5 (nI ((pr 1).length + 1))) := (by
    have z := hb7.pushG (k := 1) (q := ty) (i := j) (c := (tkk (nth (mth ms mi).2.2 k) 0)) (by decide) hlN hlI hq4 hj (psd.inc (H := K7) ⟨dif.1, dif.2.1, dif.2.2.1⟩)
    rw [hip4] at z
    exact z)
  obtain ⟨Kd, eKd⟩ : ∃ K, K = (mu_si (mu_sr (mu_sr K7 (loc7 4) (pr 1).length (some ip)) (loc7 3) (pr 1).length (some ty)) mp 5 (nI ((pr 1).length + 1))) := ⟨_, rfl⟩
  rw [← eKd] at hKd ⊢
  clear eKd
  show mu_W _ mu_m458 (377, [(6, .inr (.inr (some p))), (5, .inl (nI k)), (4, .inr (.inr (some ip))), (1, .inr (.inr (some m))), (0, .inr (.inr (some 169)))], [.inl (nI (pr 1).length), .inl (nI k), .inr (.inr (some (loc7 (10 + 4 * j))))], Kd) _
  have m18_10 : mu_r Kd 169 18 = some mp := hKd.2.1.1.2.2
  have m0_10 : mu_r Kd mp 0 = some (loc7 0) := hKd.2.1.2.1.1
  have m1_10 : mu_i Kd mp 1 = nI n := hKd.2.1.2.1.2.1
  have m2_10 : mu_i Kd mp 2 = nI en := hKd.2.1.2.1.2.2
  have mN0_10 : mu_r Kd mp 7 = some (loc7 1) := (hKd.2.1.2.2.2.1 0 (by decide)).1.1
  have mI0_10 : mu_r Kd mp 8 = some (loc7 2) := (hKd.2.1.2.2.2.1 0 (by decide)).1.2.1
  have mC0_10 : mu_i Kd mp 9 = nI ((pup pr 1 (pr 1 ++ [((tkk (nth (mth ms mi).2.2 k) 0), j)])) 0).length := (hKd.2.1.2.2.2.1 0 (by decide)).1.2.2
  have mN1_10 : mu_r Kd mp 4 = some (loc7 3) := (hKd.2.1.2.2.2.1 1 (by decide)).1.1
  have mI1_10 : mu_r Kd mp 3 = some (loc7 4) := (hKd.2.1.2.2.2.1 1 (by decide)).1.2.1
  have mC1_10 : mu_i Kd mp 5 = nI ((pup pr 1 (pr 1 ++ [((tkk (nth (mth ms mi).2.2 k) 0), j)])) 1).length := (hKd.2.1.2.2.2.1 1 (by decide)).1.2.2
  have mN2_10 : mu_r Kd mp 10 = some (loc7 5) := (hKd.2.1.2.2.2.1 2 (by decide)).1.1
  have mI2_10 : mu_r Kd mp 11 = some (loc7 6) := (hKd.2.1.2.2.2.1 2 (by decide)).1.2.1
  have mC2_10 : mu_i Kd mp 12 = nI ((pup pr 1 (pr 1 ++ [((tkk (nth (mth ms mi).2.2 k) 0), j)])) 2).length := (hKd.2.1.2.2.2.1 2 (by decide)).1.2.2
  have mN3_10 : mu_r Kd mp 13 = some (loc7 7) := (hKd.2.1.2.2.2.1 3 (by decide)).1.1
  have mI3_10 : mu_r Kd mp 14 = some (loc7 8) := (hKd.2.1.2.2.2.1 3 (by decide)).1.2.1
  have mC3_10 : mu_i Kd mp 15 = nI ((pup pr 1 (pr 1 ++ [((tkk (nth (mth ms mi).2.2 k) 0), j)])) 3).length := (hKd.2.1.2.2.2.1 3 (by decide)).1.2.2
  have rz10 := hKd.rz
  have hipq : loc7 (9 + 4 * j) = ip := hip4
  have if11 := hKd.2.1.2.2.2.2.1 j hj
  have iw3_11 : mu_r Kd ip 3 = some (loc7 (10 + 4 * j)) := by rw [← hipq]; exact if11.2.2.2.1.1
  have iw4_11 : mu_r Kd ip 4 = some (loc7 (11 + 4 * j)) := by rw [← hipq]; exact if11.2.2.2.1.2.1
  have iw5_11 : mu_r Kd ip 5 = some (loc7 (12 + 4 * j)) := by rw [← hipq]; exact if11.2.2.2.1.2.2
  have iwi_11 : mu_is Kd (some ip) 15 := by rw [← hipq]; exact if11.1
  have imi_11 : (Iv j).1 = mi := him
  have vp10_11 : mu_n Kd (loc7 (10 + 4 * j)) = (mth ms mi).2.2.length := by have := if11.2.2.2.2.1.2.1; rw [imi_11] at this; exact this
  have vp11_11 : mu_n Kd (loc7 (11 + 4 * j)) = (mth ms mi).2.2.length := by have := if11.2.2.2.2.2.1.2.1; rw [imi_11] at this; exact this
  have vp12_11 : mu_n Kd (loc7 (12 + 4 * j)) = (mth ms mi).2.2.length := by have := if11.2.2.2.2.2.2.2.1; rw [imi_11] at this; exact this
  refine mw_go mu_g458 (k := 1) (f1 := (378, [(6, .inr (.inr (some p))), (5, .inl (nI k)), (4, .inr (.inr (some ip))), (1, .inr (.inr (some m))), (0, .inr (.inr (some 169)))], [], (mu_si Kd (loc7 (10 + 4 * j)) (nI k).toNatClampNeg (nI (pr 1).length)))) (C := [mu_is Kd (some (loc7 (10 + 4 * j))) 100, vp_in (nI k) (mu_n Kd (loc7 (10 + 4 * j)))]) rfl (show (mu_is Kd (some (loc7 (10 + 4 * j))) 100) ∧ (vp_in (nI k) (mu_n Kd (loc7 (10 + 4 * j)))) from ⟨if11.2.2.2.2.1.1, (by rw [vp10_11]; exact vp_in_nI hk (by omega))⟩) ?_
  refine mw_fr (f' := (378, [(6, .inr (.inr (some p))), (5, .inl (nI k)), (4, .inr (.inr (some ip))), (1, .inr (.inr (some m))), (0, .inr (.inr (some 169)))], [], (mu_si Kd (loc7 (10 + 4 * j)) k (nI (pr 1).length)))) (by first | (rw [(nI_clamp (show k < 2 ^ 31 by omega))]; done) | (rw [(nI_clamp (show k < 2 ^ 31 by omega))]; rfl)) ?_
  have hKe : bmk T n0 t dep F lv r ms cap sy Hb mp (A0 + 4 * n) (B0 + n * SB) loc7 n (ivs Iv j k (nI (pr 1).length)) (pup pr 1 (pr 1 ++ [((tkk (nth (mth ms mi).2.2 k) 0), j)])) en (mu_si Kd (loc7 (10 + 4 * j)) k (nI (pr 1).length)) := hKd.vset hj
  obtain ⟨Ke, eKe⟩ : ∃ K, K = (mu_si Kd (loc7 (10 + 4 * j)) k (nI (pr 1).length)) := ⟨_, rfl⟩
  rw [← eKe] at hKe ⊢
  clear eKe
  show mu_W _ mu_m458 (378, [(6, .inr (.inr (some p))), (5, .inl (nI k)), (4, .inr (.inr (some ip))), (1, .inr (.inr (some m))), (0, .inr (.inr (some 169)))], [], Ke) _
  refine mw_go mu_g458 (k := 2) (f1 := (121, [(5, .inl ((nI k) + 1)), (6, .inr (.inr (some p))), (4, .inr (.inr (some ip))), (1, .inr (.inr (some m))), (0, .inr (.inr (some 169)))], [], Ke)) (C := []) rfl trivial ?_
  refine mw_sub (L' := [(5, .inl (nI (k + 1))), (4, .inr (.inr (some ip))), (1, .inr (.inr (some m))), (0, .inr (.inr (some 169)))]) (by intro x hx; simp only [List.mem_cons, List.not_mem_nil, or_false] at hx ⊢; rcases hx with rfl | rfl | rfl | rfl <;> simp [nI_add, show (1 : Int32) = nI 1 from rfl]) ?_
  exact hnx _ loc7 hKe (fun s hs => (ag7 s (by omega)).trans (ag5 s (by omega)))
set_option maxRecDepth 8000 in
theorem rp_inX {T : Nat → Int32} {n0 dep lv r cap mp A0 B0 SB d m mi j ip X EM : Nat} {t : Tok} {F : Nat → Prop} {ms : List Mdl} {sy : List (List Int32)} {Hb : mu_H} {Φ : mu_R → Prop} (hm0 : mdf Hb F lv m (mth ms mi)) (hw : mdw (mth ms mi)) (hF : ∀ p, F p → p < mu_z Hb) (ht0 : rtx Hb F lv r ms) (hX : 4000 ≤ X ∧ X + (mth ms mi).2.2.length ≤ EM) (hQ : mu_z Hb + A0 + 800 + 2 * EM + 400 ≤ 1000000) {k n lp p en : Nat} {H : mu_H} {loc : Nat → Nat} {Iv : Nat → Ins} {pr : Nat → List (Tre × Nat)} (hp0 : nd Hb F lp p (nth (mth ms mi).2.2 k)) (hlp : lp ≤ lv) (hp2 : 0 < tsn (nth (mth ms mi).2.2 k)) (hl26 : (mth ms mi).2.2.length ≤ 2 ^ 21) (hk : k < (mth ms mi).2.2.length) (e2 : tkd (nth (mth ms mi).2.2 k) = 73) (e3 : tkd (tkk (nth (mth ms mi).2.2 k) 0) = 72) {i : Nat} (hi : mtx ms (nam (tkk (nth (mth ms mi).2.2 k) 0)) = some i) {rec : Nat → Nat → Tre → Sg → Option (Option Sg)} {EX : mu_H → Prop} {s0 : Nat} (hrec : ∀ (k i m2 tq n : Nat) (c : Tre) (H : mu_H) (loc : Nat → Nat) (Iv : Nat → Ins) (pr : Nat → List (Tre × Nat)) (en : Nat) (rs : Option Sg), k < (mth ms mi).2.2.length → tkd (nth (mth ms mi).2.2 k) = 73 → c = tkk (nth (mth ms mi).2.2 k) 0 → tkd c = 72 → mtx ms (nam c) = some i → mu_r Hb r i = some m2 → nd Hb F lv tq c → bmk T n0 t dep F lv r ms cap sy Hb mp (A0 + 4 * n) (B0 + n * SB) loc n Iv pr en H → loc (9 + 4 * j) = ip → j < n → ivb (s0 + k + 1) pr en → en ≤ X + (mth ms mi).2.2.length → rec i j c (n, Iv, pr, en) = some rs → mu_TE 3 (mu_D (d + 6)) 458 [.inr (.inr (some 169)), .inr (.inr (some m2)), .inr (.inr (some ip)), .inr (.inr (some tq))] H (fun H1 => rs = none ∧ EX H1) (fun v H1 => ∃ n' Iv' pr' en' loc', rs = some (n', Iv', pr', en') ∧ v = some (.inr (.inr (some (loc' (9 + 4 * n))))) ∧ n < n' ∧ bmk T n0 t dep F lv r ms cap sy Hb mp (A0 + 4 * n') (B0 + n' * SB) loc' n' Iv' pr' en' H1 ∧ (∀ s, 9 ≤ s → s < 9 + 4 * n → loc' s = loc s) ∧ (∀ s, s < n → Iv' s = Iv s) ∧ ivb (s0 + k + 1) pr' en' ∧ en' ≤ 4000)) {R : Option Sg} (hexc : R = none → ∀ H1, EX H1 → Φ (.inr 3, H1)) (h : bmk T n0 t dep F lv r ms cap sy Hb mp (A0 + 4 * n) (B0 + n * SB) loc n Iv pr en H) (hip : loc (9 + 4 * j) = ip) (hj : j < n) (him : (Iv j).1 = mi) (hiv : ivb (s0 + k + 1) pr en) (hen : en ≤ X + (mth ms mi).2.2.length) {rs : Option Sg} (hre : rec i j (tkk (nth (mth ms mi).2.2 k) 0) (n, Iv, pr, en) = some rs) (hrn : rs = none → R = none) (hnx : ∀ n1 Iv2 pr1 en1 loc9 H1 Iv1, rs = some (n1, Iv1, pr1, en1) → Iv2 = ins Iv1 j k n → j < n1 → bmk T n0 t dep F lv r ms cap sy Hb mp (A0 + 4 * n1) (B0 + n1 * SB) loc9 n1 Iv2 pr1 en1 H1 → loc9 (9 + 4 * j) = ip → (Iv2 j).1 = mi → (∀ s, 9 ≤ s → s < 9 + 4 * n → loc9 s = loc s) → (∀ s, s < n → s ≠ j → Iv2 s = Iv s) → ivb (s0 + k + 1) pr1 en1 → en1 ≤ 4000 → mu_W (mu_D (d + 6)) mu_m458 (121, [(5, .inl (nI (k + 1))), (4, .inr (.inr (some ip))), (1, .inr (.inr (some m))), (0, .inr (.inr (some 169)))], [], H1) Φ) : mu_W (mu_D (d + 6)) mu_m458 (229, [(6, .inr (.inr (some p))), (5, .inl (nI k)), (4, .inr (.inr (some ip))), (1, .inr (.inr (some m))), (0, .inr (.inr (some 169)))], [], H) Φ := by
  obtain ⟨kd1, ⟨is1, nF1, lt1⟩, ⟨st1, sr1, sf1⟩, ⟨n2_1, n3_1, n7_1⟩, nm1, ar1, aq1, aF1, ai1, ⟨al1, am1, ax1⟩, ch1, dp1⟩ := nd.rd (c := (nth (mth ms mi).2.2 k)) hp0
  obtain ⟨ty, yr2, yn2⟩ := ch1 0 hp2
  have yn2 : nd Hb F _ ty (tkk (nth (mth ms mi).2.2 k) 0) := yn2
  obtain ⟨b1_2, b2_2, b3_2, b4_2⟩ := ar_at ai1 (by decide) (Nat.lt_of_lt_of_le hp2 al1) (Nat.lt_of_le_of_lt ax1 (by decide))
  have y2_2 : mu_r Hb ar1 (0 : Int32).toNatClampNeg = some ty := yr2
  obtain ⟨kd3, ⟨is3, nF3, lt3⟩, ⟨st3, sr3, sf3⟩, ⟨n2_3, n3_3, n7_3⟩, nm3, ar3, aq3, aF3, ai3, ⟨al3, am3, ax3⟩, ch3, dp3⟩ := nd.rd (c := (tkk (nth (mth ms mi).2.2 k) 0)) yn2
  have hp1 := hw.2 k hk
  have hcb := h.cpb
  have hn200 : n ≤ 200 := h.2.1.2.2.1.2.2.1
  have m18_4 : mu_r H 169 18 = some mp := h.2.1.1.2.2
  have m0_4 : mu_r H mp 0 = some (loc 0) := h.2.1.2.1.1
  have m1_4 : mu_i H mp 1 = nI n := h.2.1.2.1.2.1
  have m2_4 : mu_i H mp 2 = nI en := h.2.1.2.1.2.2
  have mN0_4 : mu_r H mp 7 = some (loc 1) := (h.2.1.2.2.2.1 0 (by decide)).1.1
  have mI0_4 : mu_r H mp 8 = some (loc 2) := (h.2.1.2.2.2.1 0 (by decide)).1.2.1
  have mC0_4 : mu_i H mp 9 = nI (pr 0).length := (h.2.1.2.2.2.1 0 (by decide)).1.2.2
  have mN1_4 : mu_r H mp 4 = some (loc 3) := (h.2.1.2.2.2.1 1 (by decide)).1.1
  have mI1_4 : mu_r H mp 3 = some (loc 4) := (h.2.1.2.2.2.1 1 (by decide)).1.2.1
  have mC1_4 : mu_i H mp 5 = nI (pr 1).length := (h.2.1.2.2.2.1 1 (by decide)).1.2.2
  have mN2_4 : mu_r H mp 10 = some (loc 5) := (h.2.1.2.2.2.1 2 (by decide)).1.1
  have mI2_4 : mu_r H mp 11 = some (loc 6) := (h.2.1.2.2.2.1 2 (by decide)).1.2.1
  have mC2_4 : mu_i H mp 12 = nI (pr 2).length := (h.2.1.2.2.2.1 2 (by decide)).1.2.2
  have mN3_4 : mu_r H mp 13 = some (loc 7) := (h.2.1.2.2.2.1 3 (by decide)).1.1
  have mI3_4 : mu_r H mp 14 = some (loc 8) := (h.2.1.2.2.2.1 3 (by decide)).1.2.1
  have mC3_4 : mu_i H mp 15 = nI (pr 3).length := (h.2.1.2.2.2.1 3 (by decide)).1.2.2
  have rz4 := h.rz
  have hln : 0 < (tns (tkk (nth (mth ms mi).2.2 k) 0)).length := by
    rcases hp1.2 with z | z | z
    · rcases z.2 with y | y | y | y
      · exact absurd (e3.symm.trans y.1) (by decide)
      · exact absurd (e3.symm.trans y.1) (by decide)
      · exact absurd (e3.symm.trans y.1) (by decide)
      · rw [y.2.1]; exact Nat.one_pos
    · have z1 : tkd (nth (mth ms mi).2.2 k) ∈ [74, 34, 35, 36, 37, 38] := z.1
      rw [e2] at z1; exact absurd z1 (by decide)
    · have z1 : tkd (nth (mth ms mi).2.2 k) ∈ [75, 32, 33] := z.1
      rw [e2] at z1; exact absurd z1 (by decide)
  obtain ⟨nb5, nr5, nbF5, ni5, nn5, nl5, nk5⟩ := nm3.rd hln
  obtain ⟨ns5, nz5, nf5⟩ := nk5 0 hln
  obtain ⟨c1_5, c2_5, c3_5, c4_5⟩ := ar_at (i := 0) ni5 (by decide) (by rw [nn5]; exact hln) (by rw [nn5]; omega)
  have nx5 : mu_r Hb nb5 (0 : Int32).toNatClampNeg = some ns5 := nz5
  have m18_6 : mu_r H 169 18 = some mp := h.2.1.1.2.2
  have m0_6 : mu_r H mp 0 = some (loc 0) := h.2.1.2.1.1
  have m1_6 : mu_i H mp 1 = nI n := h.2.1.2.1.2.1
  have m2_6 : mu_i H mp 2 = nI en := h.2.1.2.1.2.2
  have mN0_6 : mu_r H mp 7 = some (loc 1) := (h.2.1.2.2.2.1 0 (by decide)).1.1
  have mI0_6 : mu_r H mp 8 = some (loc 2) := (h.2.1.2.2.2.1 0 (by decide)).1.2.1
  have mC0_6 : mu_i H mp 9 = nI (pr 0).length := (h.2.1.2.2.2.1 0 (by decide)).1.2.2
  have mN1_6 : mu_r H mp 4 = some (loc 3) := (h.2.1.2.2.2.1 1 (by decide)).1.1
  have mI1_6 : mu_r H mp 3 = some (loc 4) := (h.2.1.2.2.2.1 1 (by decide)).1.2.1
  have mC1_6 : mu_i H mp 5 = nI (pr 1).length := (h.2.1.2.2.2.1 1 (by decide)).1.2.2
  have mN2_6 : mu_r H mp 10 = some (loc 5) := (h.2.1.2.2.2.1 2 (by decide)).1.1
  have mI2_6 : mu_r H mp 11 = some (loc 6) := (h.2.1.2.2.2.1 2 (by decide)).1.2.1
  have mC2_6 : mu_i H mp 12 = nI (pr 2).length := (h.2.1.2.2.2.1 2 (by decide)).1.2.2
  have mN3_6 : mu_r H mp 13 = some (loc 7) := (h.2.1.2.2.2.1 3 (by decide)).1.1
  have mI3_6 : mu_r H mp 14 = some (loc 8) := (h.2.1.2.2.2.1 3 (by decide)).1.2.1
  have mC3_6 : mu_i H mp 15 = nI (pr 3).length := (h.2.1.2.2.2.1 3 (by decide)).1.2.2
  have rz6 := h.rz
  have hipq : loc (9 + 4 * j) = ip := hip
  have if7 := h.2.1.2.2.2.2.1 j hj
  have iw3_7 : mu_r H ip 3 = some (loc (10 + 4 * j)) := by rw [← hipq]; exact if7.2.2.2.1.1
  have iw4_7 : mu_r H ip 4 = some (loc (11 + 4 * j)) := by rw [← hipq]; exact if7.2.2.2.1.2.1
  have iw5_7 : mu_r H ip 5 = some (loc (12 + 4 * j)) := by rw [← hipq]; exact if7.2.2.2.1.2.2
  have iwi_7 : mu_is H (some ip) 15 := by rw [← hipq]; exact if7.1
  have imi_7 : (Iv j).1 = mi := him
  have vp10_7 : mu_n H (loc (10 + 4 * j)) = (mth ms mi).2.2.length := by have := if7.2.2.2.2.1.2.1; rw [imi_7] at this; exact this
  have vp11_7 : mu_n H (loc (11 + 4 * j)) = (mth ms mi).2.2.length := by have := if7.2.2.2.2.2.1.2.1; rw [imi_7] at this; exact this
  have vp12_7 : mu_n H (loc (12 + 4 * j)) = (mth ms mi).2.2.length := by have := if7.2.2.2.2.2.2.2.1; rw [imi_7] at this; exact this
  have ht1 : rtx H F lv r ms := ht0.kp h.2.2.2.1 (fun p z => ⟨fun y => by have := hF p y; omega, z.2⟩) (fun z => absurd z.1 (Nat.not_le.mpr ht0.2.2.2.2.2.2.1)) (fun z => absurd z.1 (Nat.not_le.mpr ht0.2.1.2.1))
  have hsn : stf H F ns5 (nam (tkk (nth (mth ms mi).2.2 k) 0)) := (ktf.kp h.2.2.2.1 (fun p z => ⟨fun y => by have := hF p y; omega, z.2⟩)).2.1 _ _ nf5
  have hil : i < ms.length := by have := (fio_some _ _ _ hi).2.2.1; omega
  obtain ⟨m2, hm2, _⟩ := ht0.2.2.2.2.1 i hil
  have hm3 : mu_r H r i = some m2 := (h.2.2.2.1.r (Or.inl ht0.2.1.2.1) (fun z => absurd z.1 (Nat.not_le.mpr ht0.2.1.2.1)) i).trans hm2
  have hbi : (Option.bind (some i) (fun i => mu_r H r i)) = some m2 := hm3
  refine mw_go mu_g458 (k := 2) (f1 := (234, [(6, .inr (.inr (some p))), (5, .inl (nI k)), (4, .inr (.inr (some ip))), (1, .inr (.inr (some m))), (0, .inr (.inr (some 169)))], [.inr (.inr (mu_r H ip 4))], H)) (C := [mu_is H (some ip) 15]) rfl (show mu_is H (some ip) 15 from iwi_7) ?_
  refine mw_fr (f' := (234, [(6, .inr (.inr (some p))), (5, .inl (nI k)), (4, .inr (.inr (some ip))), (1, .inr (.inr (some m))), (0, .inr (.inr (some 169)))], [.inr (.inr (some (loc (11 + 4 * j))))], H)) (by first | (rw [iw4_7]; done) | (rw [iw4_7]; rfl)) ?_
  refine mw_go mu_g458 (k := 5) (f1 := (243, [(6, .inr (.inr (some p))), (5, .inl (nI k)), (4, .inr (.inr (some ip))), (1, .inr (.inr (some m))), (0, .inr (.inr (some 169)))], [.inr (.inr (mu_r H p 1)), .inr (.inr (some 169)), .inr (.inr (some 169)), .inl (nI k), .inr (.inr (some (loc (11 + 4 * j))))], H)) (C := [mu_is H (some p) 18]) rfl (show mu_is H (some p) 18 from ((h.2.2.2.1).is is1 (fun z => absurd z.1 (Nat.not_le.mpr is1.2.1)))) ?_
  refine mw_fr (f' := (243, [(6, .inr (.inr (some p))), (5, .inl (nI k)), (4, .inr (.inr (some ip))), (1, .inr (.inr (some m))), (0, .inr (.inr (some 169)))], [.inr (.inr (some ar1)), .inr (.inr (some 169)), .inr (.inr (some 169)), .inl (nI k), .inr (.inr (some (loc (11 + 4 * j))))], H)) (by first | (rw [(((h.2.2.2.1).r (p := p) (Or.inl is1.2.1) (fun z => absurd z.1 (Nat.not_le.mpr is1.2.1)) _).trans aq1)]; done) | (rw [(((h.2.2.2.1).r (p := p) (Or.inl is1.2.1) (fun z => absurd z.1 (Nat.not_le.mpr is1.2.1)) _).trans aq1)]; rfl)) ?_
  refine mw_go mu_g458 (k := 2) (f1 := (245, [(6, .inr (.inr (some p))), (5, .inl (nI k)), (4, .inr (.inr (some ip))), (1, .inr (.inr (some m))), (0, .inr (.inr (some 169)))], [.inr (.inr (mu_r H ar1 (0 : Int32).toNatClampNeg)), .inr (.inr (some 169)), .inr (.inr (some 169)), .inl (nI k), .inr (.inr (some (loc (11 + 4 * j))))], H)) (C := [mu_is H (some ar1) (mu_k H ar1), 103 ≤ mu_k H ar1 ∧ mu_k H ar1 ≤ 110 ∧ mu_k H ar1 ≠ 108, vp_in (0 : Int32) (mu_n H ar1)]) rfl (show (mu_is H (some ar1) (mu_k H ar1)) ∧ (103 ≤ mu_k H ar1 ∧ mu_k H ar1 ≤ 110 ∧ mu_k H ar1 ≠ 108) ∧ (vp_in (0 : Int32) (mu_n H ar1)) from ⟨⟨rfl, Nat.lt_of_lt_of_le ai1.2.1 (h.2.2.2.1).1, rfl⟩, (by rw [(h.2.2.2.1).k (p := ar1) (Or.inl ai1.2.1) (fun z => absurd z.1 (Nat.not_le.mpr ai1.2.1))]; exact b2_2), (by rw [(h.2.2.2.1).len (p := ar1) (Or.inl ai1.2.1) (fun z => absurd z.1 (Nat.not_le.mpr ai1.2.1))]; exact b3_2)⟩) ?_
  refine mw_fr (f' := (245, [(6, .inr (.inr (some p))), (5, .inl (nI k)), (4, .inr (.inr (some ip))), (1, .inr (.inr (some m))), (0, .inr (.inr (some 169)))], [.inr (.inr (some ty)), .inr (.inr (some 169)), .inr (.inr (some 169)), .inl (nI k), .inr (.inr (some (loc (11 + 4 * j))))], H)) (by first | (rw [(((h.2.2.2.1).r (p := ar1) (Or.inl ai1.2.1) (fun z => absurd z.1 (Nat.not_le.mpr ai1.2.1)) _).trans y2_2)]; done) | (rw [(((h.2.2.2.1).r (p := ar1) (Or.inl ai1.2.1) (fun z => absurd z.1 (Nat.not_le.mpr ai1.2.1)) _).trans y2_2)]; rfl)) ?_
  refine mw_go mu_g458 (k := 1) (f1 := (248, [(6, .inr (.inr (some p))), (5, .inl (nI k)), (4, .inr (.inr (some ip))), (1, .inr (.inr (some m))), (0, .inr (.inr (some 169)))], [.inr (.inr (mu_r H ty 4)), .inr (.inr (some 169)), .inr (.inr (some 169)), .inl (nI k), .inr (.inr (some (loc (11 + 4 * j))))], H)) (C := [mu_is H (some ty) 18]) rfl (show mu_is H (some ty) 18 from ((h.2.2.2.1).is is3 (fun z => absurd z.1 (Nat.not_le.mpr is3.2.1)))) ?_
  refine mw_fr (f' := (248, [(6, .inr (.inr (some p))), (5, .inl (nI k)), (4, .inr (.inr (some ip))), (1, .inr (.inr (some m))), (0, .inr (.inr (some 169)))], [.inr (.inr (some nb5)), .inr (.inr (some 169)), .inr (.inr (some 169)), .inl (nI k), .inr (.inr (some (loc (11 + 4 * j))))], H)) (by first | (rw [(((h.2.2.2.1).r (p := ty) (Or.inl is3.2.1) (fun z => absurd z.1 (Nat.not_le.mpr is3.2.1)) _).trans nr5)]; done) | (rw [(((h.2.2.2.1).r (p := ty) (Or.inl is3.2.1) (fun z => absurd z.1 (Nat.not_le.mpr is3.2.1)) _).trans nr5)]; rfl)) ?_
  refine mw_go mu_g458 (k := 2) (f1 := (250, [(6, .inr (.inr (some p))), (5, .inl (nI k)), (4, .inr (.inr (some ip))), (1, .inr (.inr (some m))), (0, .inr (.inr (some 169)))], [.inr (.inr (mu_r H nb5 (0 : Int32).toNatClampNeg)), .inr (.inr (some 169)), .inr (.inr (some 169)), .inl (nI k), .inr (.inr (some (loc (11 + 4 * j))))], H)) (C := [mu_is H (some nb5) (mu_k H nb5), 103 ≤ mu_k H nb5 ∧ mu_k H nb5 ≤ 110 ∧ mu_k H nb5 ≠ 108, vp_in (0 : Int32) (mu_n H nb5)]) rfl (show (mu_is H (some nb5) (mu_k H nb5)) ∧ (103 ≤ mu_k H nb5 ∧ mu_k H nb5 ≤ 110 ∧ mu_k H nb5 ≠ 108) ∧ (vp_in (0 : Int32) (mu_n H nb5)) from ⟨⟨rfl, Nat.lt_of_lt_of_le ni5.2.1 (h.2.2.2.1).1, rfl⟩, (by rw [(h.2.2.2.1).k (p := nb5) (Or.inl ni5.2.1) (fun z => absurd z.1 (Nat.not_le.mpr ni5.2.1))]; exact c2_5), (by rw [(h.2.2.2.1).len (p := nb5) (Or.inl ni5.2.1) (fun z => absurd z.1 (Nat.not_le.mpr ni5.2.1))]; exact c3_5)⟩) ?_
  refine mw_fr (f' := (250, [(6, .inr (.inr (some p))), (5, .inl (nI k)), (4, .inr (.inr (some ip))), (1, .inr (.inr (some m))), (0, .inr (.inr (some 169)))], [.inr (.inr (some ns5)), .inr (.inr (some 169)), .inr (.inr (some 169)), .inl (nI k), .inr (.inr (some (loc (11 + 4 * j))))], H)) (by first | (rw [(((h.2.2.2.1).r (p := nb5) (Or.inl ni5.2.1) (fun z => absurd z.1 (Nat.not_le.mpr ni5.2.1)) _).trans nx5)]; done) | (rw [(((h.2.2.2.1).r (p := nb5) (Or.inl ni5.2.1) (fun z => absurd z.1 (Nat.not_le.mpr ni5.2.1)) _).trans nx5)]; rfl)) ?_
  refine mw_cA (fun _ => rfl) (show mu_is H (some 169) 1 from h.rz.2.2.2.2) (rp_text (d := d + 3) ht1 hsn) (fun x9 H9 q9 => ?_)
  rw [q9.1, q9.2]
  clear q9 x9 H9
  show mu_W _ mu_m458 (253, [(6, .inr (.inr (some p))), (5, .inl (nI k)), (4, .inr (.inr (some ip))), (1, .inr (.inr (some m))), (0, .inr (.inr (some 169)))], [.inr (.inr ((mtx ms (nam (tkk (nth (mth ms mi).2.2 k) 0))).bind (fun i => mu_r H r i))), .inr (.inr (some 169)), .inl (nI k), .inr (.inr (some (loc (11 + 4 * j))))], H) _
  rw [hi, hbi]
  show mu_W _ mu_m458 (253, [(6, .inr (.inr (some p))), (5, .inl (nI k)), (4, .inr (.inr (some ip))), (1, .inr (.inr (some m))), (0, .inr (.inr (some 169)))], [.inr (.inr (some m2)), .inr (.inr (some 169)), .inl (nI k), .inr (.inr (some (loc (11 + 4 * j))))], H) _
  refine mw_go mu_g458 (k := 3) (f1 := (260, [(6, .inr (.inr (some p))), (5, .inl (nI k)), (4, .inr (.inr (some ip))), (1, .inr (.inr (some m))), (0, .inr (.inr (some 169)))], [.inr (.inr (mu_r H p 1)), .inr (.inr (some ip)), .inr (.inr (some m2)), .inr (.inr (some 169)), .inl (nI k), .inr (.inr (some (loc (11 + 4 * j))))], H)) (C := [mu_is H (some p) 18]) rfl (show mu_is H (some p) 18 from ((h.2.2.2.1).is is1 (fun z => absurd z.1 (Nat.not_le.mpr is1.2.1)))) ?_
  refine mw_fr (f' := (260, [(6, .inr (.inr (some p))), (5, .inl (nI k)), (4, .inr (.inr (some ip))), (1, .inr (.inr (some m))), (0, .inr (.inr (some 169)))], [.inr (.inr (some ar1)), .inr (.inr (some ip)), .inr (.inr (some m2)), .inr (.inr (some 169)), .inl (nI k), .inr (.inr (some (loc (11 + 4 * j))))], H)) (by first | (rw [(((h.2.2.2.1).r (p := p) (Or.inl is1.2.1) (fun z => absurd z.1 (Nat.not_le.mpr is1.2.1)) _).trans aq1)]; done) | (rw [(((h.2.2.2.1).r (p := p) (Or.inl is1.2.1) (fun z => absurd z.1 (Nat.not_le.mpr is1.2.1)) _).trans aq1)]; rfl)) ?_
  refine mw_go mu_g458 (k := 2) (f1 := (262, [(6, .inr (.inr (some p))), (5, .inl (nI k)), (4, .inr (.inr (some ip))), (1, .inr (.inr (some m))), (0, .inr (.inr (some 169)))], [.inr (.inr (mu_r H ar1 (0 : Int32).toNatClampNeg)), .inr (.inr (some ip)), .inr (.inr (some m2)), .inr (.inr (some 169)), .inl (nI k), .inr (.inr (some (loc (11 + 4 * j))))], H)) (C := [mu_is H (some ar1) (mu_k H ar1), 103 ≤ mu_k H ar1 ∧ mu_k H ar1 ≤ 110 ∧ mu_k H ar1 ≠ 108, vp_in (0 : Int32) (mu_n H ar1)]) rfl (show (mu_is H (some ar1) (mu_k H ar1)) ∧ (103 ≤ mu_k H ar1 ∧ mu_k H ar1 ≤ 110 ∧ mu_k H ar1 ≠ 108) ∧ (vp_in (0 : Int32) (mu_n H ar1)) from ⟨⟨rfl, Nat.lt_of_lt_of_le ai1.2.1 (h.2.2.2.1).1, rfl⟩, (by rw [(h.2.2.2.1).k (p := ar1) (Or.inl ai1.2.1) (fun z => absurd z.1 (Nat.not_le.mpr ai1.2.1))]; exact b2_2), (by rw [(h.2.2.2.1).len (p := ar1) (Or.inl ai1.2.1) (fun z => absurd z.1 (Nat.not_le.mpr ai1.2.1))]; exact b3_2)⟩) ?_
  refine mw_fr (f' := (262, [(6, .inr (.inr (some p))), (5, .inl (nI k)), (4, .inr (.inr (some ip))), (1, .inr (.inr (some m))), (0, .inr (.inr (some 169)))], [.inr (.inr (some ty)), .inr (.inr (some ip)), .inr (.inr (some m2)), .inr (.inr (some 169)), .inl (nI k), .inr (.inr (some (loc (11 + 4 * j))))], H)) (by first | (rw [(((h.2.2.2.1).r (p := ar1) (Or.inl ai1.2.1) (fun z => absurd z.1 (Nat.not_le.mpr ai1.2.1)) _).trans y2_2)]; done) | (rw [(((h.2.2.2.1).r (p := ar1) (Or.inl ai1.2.1) (fun z => absurd z.1 (Nat.not_le.mpr ai1.2.1)) _).trans y2_2)]; rfl)) ?_
  refine mw_cE (as := [.inr (.inr (some m2)), .inr (.inr (some ip)), .inr (.inr (some ty))]) (o := some 169) (S1 := [.inl (nI k), .inr (.inr (some (loc (11 + 4 * j))))]) rfl rfl rfl rfl (Nat.le_of_ble_eq_true rfl) (by decide) h.rz.2.2.2.2 rfl (by decide) (hrec k i m2 ty n (tkk (nth (mth ms mi).2.2 k) 0) _ _ _ _ _ rs hk e2 rfl e3 hi hm2 (yn2.le (by omega)) h hip hj hiv hen hre) (fun H9 e9 => hexc (hrn e9.1) H9 e9.2) (fun v9 H9 e9 => ?_)
  obtain ⟨n1, Iv1, pr1, en1, loc9, ers, rfl, hnn, hb9, ag9, iv9, hib9, hen9⟩ := e9
  have er9 : loc (11 + 4 * j) = loc9 (11 + 4 * j) := (ag9 _ (by omega) (by omega)).symm
  have hip9 : loc9 (9 + 4 * j) = ip := (ag9 _ (by omega) (by omega)).trans hip
  have hj9 : j < n1 := by omega
  have him9 : (Iv1 j).1 = mi := by rw [iv9 j hj]; exact him
  rw [er9]
  show mu_W _ mu_m458 (265, [(6, .inr (.inr (some p))), (5, .inl (nI k)), (4, .inr (.inr (some ip))), (1, .inr (.inr (some m))), (0, .inr (.inr (some 169)))], [.inr (.inr (some (loc9 (9 + 4 * n)))), .inl (nI k), .inr (.inr (some (loc9 (11 + 4 * j))))], H9) _
  have hipq : loc9 (9 + 4 * j) = ip := hip9
  have if8 := hb9.2.1.2.2.2.2.1 j hj9
  have iw3_8 : mu_r H9 ip 3 = some (loc9 (10 + 4 * j)) := by rw [← hipq]; exact if8.2.2.2.1.1
  have iw4_8 : mu_r H9 ip 4 = some (loc9 (11 + 4 * j)) := by rw [← hipq]; exact if8.2.2.2.1.2.1
  have iw5_8 : mu_r H9 ip 5 = some (loc9 (12 + 4 * j)) := by rw [← hipq]; exact if8.2.2.2.1.2.2
  have iwi_8 : mu_is H9 (some ip) 15 := by rw [← hipq]; exact if8.1
  have imi_8 : (Iv1 j).1 = mi := him9
  have vp10_8 : mu_n H9 (loc9 (10 + 4 * j)) = (mth ms mi).2.2.length := by have := if8.2.2.2.2.1.2.1; rw [imi_8] at this; exact this
  have vp11_8 : mu_n H9 (loc9 (11 + 4 * j)) = (mth ms mi).2.2.length := by have := if8.2.2.2.2.2.1.2.1; rw [imi_8] at this; exact this
  have vp12_8 : mu_n H9 (loc9 (12 + 4 * j)) = (mth ms mi).2.2.length := by have := if8.2.2.2.2.2.2.2.1; rw [imi_8] at this; exact this
  refine mw_aastO (t := 10) (ct := 15) rfl if8.2.2.2.2.2.1.1 (hb9.2.1.2.2.2.2.1 n hnn).1 (by decide) (show vp_in (nI k) (mu_n H9 (loc9 (11 + 4 * j))) by rw [vp11_8]; exact vp_in_nI hk (by omega)) ?_
  rw [show mu_p (some (loc9 (11 + 4 * j))) = loc9 (11 + 4 * j) from rfl, nI_clamp (show k < 2 ^ 31 by omega)]
  show mu_W _ mu_m458 (266, [(6, .inr (.inr (some p))), (5, .inl (nI k)), (4, .inr (.inr (some ip))), (1, .inr (.inr (some m))), (0, .inr (.inr (some 169)))], [], (mu_sr H9 (loc9 (11 + 4 * j)) k (some (loc9 (9 + 4 * n))))) _
  have hKg : bmk T n0 t dep F lv r ms cap sy Hb mp (A0 + 4 * n1) (B0 + n1 * SB) loc9 n1 (ins Iv1 j k n) pr1 en1 (mu_sr H9 (loc9 (11 + 4 * j)) k (some (loc9 (9 + 4 * n)))) := hb9.nset hj9 hnn
  obtain ⟨Kg, eKg⟩ : ∃ K, K = (mu_sr H9 (loc9 (11 + 4 * j)) k (some (loc9 (9 + 4 * n)))) := ⟨_, rfl⟩
  rw [← eKg] at hKg ⊢
  clear eKg
  show mu_W _ mu_m458 (266, [(6, .inr (.inr (some p))), (5, .inl (nI k)), (4, .inr (.inr (some ip))), (1, .inr (.inr (some m))), (0, .inr (.inr (some 169)))], [], Kg) _
  refine mw_go mu_g458 (k := 3) (f1 := (121, [(5, .inl ((nI k) + 1)), (6, .inr (.inr (some p))), (4, .inr (.inr (some ip))), (1, .inr (.inr (some m))), (0, .inr (.inr (some 169)))], [], Kg)) (C := []) rfl trivial ?_
  refine mw_sub (L' := [(5, .inl (nI (k + 1))), (4, .inr (.inr (some ip))), (1, .inr (.inr (some m))), (0, .inr (.inr (some 169)))]) (by intro x hx; simp only [List.mem_cons, List.not_mem_nil, or_false] at hx ⊢; rcases hx with rfl | rfl | rfl | rfl <;> simp [nI_add, show (1 : Int32) = nI 1 from rfl]) ?_
  exact hnx n1 (ins Iv1 j k n) pr1 en1 loc9 _ Iv1 ers rfl hj9 hKg hip9 (ins_eq.trans him9) ag9 (fun s hs hs2 => (ins_ne hs2).trans (iv9 s hs)) hib9 hen9
set_option maxRecDepth 8000 in
theorem rp_in2 {T : Nat → Int32} {n0 dep lv r cap mp A0 B0 SB d m mi j ip X EM : Nat} {t : Tok} {F : Nat → Prop} {ms : List Mdl} {sy : List (List Int32)} {Hb : mu_H} {Φ : mu_R → Prop} (hm0 : mdf Hb F lv m (mth ms mi)) (hw : mdw (mth ms mi)) (hF : ∀ p, F p → p < mu_z Hb) (ht0 : rtx Hb F lv r ms) (hX : 4000 ≤ X ∧ X + (mth ms mi).2.2.length ≤ EM) (hQ : mu_z Hb + A0 + 800 + 2 * EM + 400 ≤ 1000000) (hmt : ∀ k, k < (mth ms mi).2.2.length → tkd (nth (mth ms mi).2.2 k) = 73 → tkd (tkk (nth (mth ms mi).2.2 k) 0) = 72 → ∃ i, mtx ms (nam (tkk (nth (mth ms mi).2.2 k) 0)) = some i) {rec : Nat → Nat → Tre → Sg → Option (Option Sg)} {EX : mu_H → Prop} {s0 : Nat} (hrec : ∀ (k i m2 tq n : Nat) (c : Tre) (H : mu_H) (loc : Nat → Nat) (Iv : Nat → Ins) (pr : Nat → List (Tre × Nat)) (en : Nat) (rs : Option Sg), k < (mth ms mi).2.2.length → tkd (nth (mth ms mi).2.2 k) = 73 → c = tkk (nth (mth ms mi).2.2 k) 0 → tkd c = 72 → mtx ms (nam c) = some i → mu_r Hb r i = some m2 → nd Hb F lv tq c → bmk T n0 t dep F lv r ms cap sy Hb mp (A0 + 4 * n) (B0 + n * SB) loc n Iv pr en H → loc (9 + 4 * j) = ip → j < n → ivb (s0 + k + 1) pr en → en ≤ X + (mth ms mi).2.2.length → rec i j c (n, Iv, pr, en) = some rs → mu_TE 3 (mu_D (d + 6)) 458 [.inr (.inr (some 169)), .inr (.inr (some m2)), .inr (.inr (some ip)), .inr (.inr (some tq))] H (fun H1 => rs = none ∧ EX H1) (fun v H1 => ∃ n' Iv' pr' en' loc', rs = some (n', Iv', pr', en') ∧ v = some (.inr (.inr (some (loc' (9 + 4 * n))))) ∧ n < n' ∧ bmk T n0 t dep F lv r ms cap sy Hb mp (A0 + 4 * n') (B0 + n' * SB) loc' n' Iv' pr' en' H1 ∧ (∀ s, 9 ≤ s → s < 9 + 4 * n → loc' s = loc s) ∧ (∀ s, s < n → Iv' s = Iv s) ∧ ivb (s0 + k + 1) pr' en' ∧ en' ≤ 4000)) {R : Option Sg} {loc0 : Nat → Nat} {Iv0 : Nat → Ins} {N0 : Nat} (hN0 : N0 ≤ j) (hexc : R = none → ∀ H1, EX H1 → Φ (.inr 3, H1)) (hfin : ∀ H loc n Iv pr en, some (n, Iv, pr, en) = R → bmk T n0 t dep F lv r ms cap sy Hb mp (A0 + 4 * n) (B0 + n * SB) loc n Iv pr en H → loc (9 + 4 * j) = ip → j < n → (Iv j).1 = mi → (∀ s, 9 ≤ s → s < 9 + 4 * N0 → loc s = loc0 s) → (∀ s, s < N0 → Iv s = Iv0 s) → ivb (s0 + (mth ms mi).2.2.length) pr en → en ≤ X + (mth ms mi).2.2.length → mu_W (mu_D (d + 6)) mu_m458 (384, [(4, .inr (.inr (some ip))), (1, .inr (.inr (some m))), (0, .inr (.inr (some 169)))], [], H) Φ) : ∀ m_ k H loc n Iv pr en, k + m_ = (mth ms mi).2.2.length → bmk T n0 t dep F lv r ms cap sy Hb mp (A0 + 4 * n) (B0 + n * SB) loc n Iv pr en H → loc (9 + 4 * j) = ip → j < n → (Iv j).1 = mi → (∀ s, 9 ≤ s → s < 9 + 4 * N0 → loc s = loc0 s) → (∀ s, s < N0 → Iv s = Iv0 s) → ivb (s0 + k) pr en → en ≤ X + k → ipl ms rec (mth ms mi).2.2 j m_ k (n, Iv, pr, en) = some R → mu_W (mu_D (d + 6)) mu_m458 (121, [(5, .inl (nI k)), (4, .inr (.inr (some ip))), (1, .inr (.inr (some m))), (0, .inr (.inr (some 169)))], [], H) Φ
  | 0, k, H, loc, n, Iv, pr, en, hm_, h, hip, hj, him, hag, hgv, hiv, hen, hpe => by
    obtain ⟨mi1, ⟨mw1, mr0_1, ms1⟩, ⟨mp1, mr1_1, mpn1⟩, mq1, mr2_1, mqn1⟩ := mdf.rd (y := (mth ms mi)) hm0
    obtain ⟨kd2, ⟨is2, nF2, lt2⟩, ⟨st2, sr2, sf2⟩, ⟨n2_2, n3_2, n7_2⟩, nm2, ar2, aq2, aF2, ai2, ⟨al2, am2, ax2⟩, ch2, dp2⟩ := nd.rd (c := (tmk 67 0 [] (mth ms mi).2.2)) mqn1
    have hl26 : (mth ms mi).2.2.length ≤ 2 ^ 21 := Nat.le_trans al2 ax2
    have hcb := h.cpb
    have hn200 : n ≤ 200 := h.2.1.2.2.1.2.2.1
    have hplx : plx pr ≤ 2 * en := by unfold plx; have := hiv.1; have := hiv.2; omega
    have m18_3 : mu_r H 169 18 = some mp := h.2.1.1.2.2
    have m0_3 : mu_r H mp 0 = some (loc 0) := h.2.1.2.1.1
    have m1_3 : mu_i H mp 1 = nI n := h.2.1.2.1.2.1
    have m2_3 : mu_i H mp 2 = nI en := h.2.1.2.1.2.2
    have mN0_3 : mu_r H mp 7 = some (loc 1) := (h.2.1.2.2.2.1 0 (by decide)).1.1
    have mI0_3 : mu_r H mp 8 = some (loc 2) := (h.2.1.2.2.2.1 0 (by decide)).1.2.1
    have mC0_3 : mu_i H mp 9 = nI (pr 0).length := (h.2.1.2.2.2.1 0 (by decide)).1.2.2
    have mN1_3 : mu_r H mp 4 = some (loc 3) := (h.2.1.2.2.2.1 1 (by decide)).1.1
    have mI1_3 : mu_r H mp 3 = some (loc 4) := (h.2.1.2.2.2.1 1 (by decide)).1.2.1
    have mC1_3 : mu_i H mp 5 = nI (pr 1).length := (h.2.1.2.2.2.1 1 (by decide)).1.2.2
    have mN2_3 : mu_r H mp 10 = some (loc 5) := (h.2.1.2.2.2.1 2 (by decide)).1.1
    have mI2_3 : mu_r H mp 11 = some (loc 6) := (h.2.1.2.2.2.1 2 (by decide)).1.2.1
    have mC2_3 : mu_i H mp 12 = nI (pr 2).length := (h.2.1.2.2.2.1 2 (by decide)).1.2.2
    have mN3_3 : mu_r H mp 13 = some (loc 7) := (h.2.1.2.2.2.1 3 (by decide)).1.1
    have mI3_3 : mu_r H mp 14 = some (loc 8) := (h.2.1.2.2.2.1 3 (by decide)).1.2.1
    have mC3_3 : mu_i H mp 15 = nI (pr 3).length := (h.2.1.2.2.2.1 3 (by decide)).1.2.2
    have rz3 := h.rz
    refine mw_go mu_g458 (k := 3) (f1 := (127, [(5, .inl (nI k)), (4, .inr (.inr (some ip))), (1, .inr (.inr (some m))), (0, .inr (.inr (some 169)))], [.inr (.inr (mu_r H m 2)), .inl (nI k)], H)) (C := [mu_is H (some m) 17]) rfl (show mu_is H (some m) 17 from ((h.2.2.2.1).is mi1 (fun z => absurd z.1 (Nat.not_le.mpr mi1.2.1)))) ?_
    refine mw_fr (f' := (127, [(5, .inl (nI k)), (4, .inr (.inr (some ip))), (1, .inr (.inr (some m))), (0, .inr (.inr (some 169)))], [.inr (.inr (some mq1)), .inl (nI k)], H)) (by first | (rw [(((h.2.2.2.1).r (p := m) (Or.inl mi1.2.1) (fun z => absurd z.1 (Nat.not_le.mpr mi1.2.1)) _).trans mr2_1)]; done) | (rw [(((h.2.2.2.1).r (p := m) (Or.inl mi1.2.1) (fun z => absurd z.1 (Nat.not_le.mpr mi1.2.1)) _).trans mr2_1)]; rfl)) ?_
    refine mw_go mu_g458 (k := 1) (f1 := (130, [(5, .inl (nI k)), (4, .inr (.inr (some ip))), (1, .inr (.inr (some m))), (0, .inr (.inr (some 169)))], [.inl (mu_i H mq1 2), .inl (nI k)], H)) (C := [mu_is H (some mq1) 18]) rfl (show mu_is H (some mq1) 18 from ((h.2.2.2.1).is is2 (fun z => absurd z.1 (Nat.not_le.mpr is2.2.1)))) ?_
    refine mw_fr (f' := (130, [(5, .inl (nI k)), (4, .inr (.inr (some ip))), (1, .inr (.inr (some m))), (0, .inr (.inr (some 169)))], [.inl (nI (mth ms mi).2.2.length), .inl (nI k)], H)) (by first | (rw [(((h.2.2.2.1).i (p := mq1) (Or.inl is2.2.1) (fun z => absurd z.1 (Nat.not_le.mpr is2.2.1)) _).trans n2_2)]; done) | (rw [(((h.2.2.2.1).i (p := mq1) (Or.inl is2.2.1) (fun z => absurd z.1 (Nat.not_le.mpr is2.2.1)) _).trans n2_2)]; rfl)) ?_
    refine mw_if (P := (nI k) < (nI (mth ms mi).2.2.length)) (a := 133) (b := 384) (fun _ => rfl) trivial (fun h1 => absurd h1 (by rw [show k = (mth ms mi).2.2.length by omega]; exact Int32.lt_irrefl)) (fun h1 => ?_)
    cases hpe
    refine mw_sub (L' := [(4, .inr (.inr (some ip))), (1, .inr (.inr (some m))), (0, .inr (.inr (some 169)))]) (by simp) ?_
    exact hfin H loc n Iv pr en rfl h hip hj him hag hgv (by rw [show (mth ms mi).2.2.length = k by omega]; exact hiv) (by omega)
  | m_ + 1, k, H, loc, n, Iv, pr, en, hm_, h, hip, hj, him, hag, hgv, hiv, hen, hpe => by
    obtain ⟨mi1, ⟨mw1, mr0_1, ms1⟩, ⟨mp1, mr1_1, mpn1⟩, mq1, mr2_1, mqn1⟩ := mdf.rd (y := (mth ms mi)) hm0
    obtain ⟨kd2, ⟨is2, nF2, lt2⟩, ⟨st2, sr2, sf2⟩, ⟨n2_2, n3_2, n7_2⟩, nm2, ar2, aq2, aF2, ai2, ⟨al2, am2, ax2⟩, ch2, dp2⟩ := nd.rd (c := (tmk 67 0 [] (mth ms mi).2.2)) mqn1
    have hl26 : (mth ms mi).2.2.length ≤ 2 ^ 21 := Nat.le_trans al2 ax2
    have hcb := h.cpb
    have hn200 : n ≤ 200 := h.2.1.2.2.1.2.2.1
    have hplx : plx pr ≤ 2 * en := by unfold plx; have := hiv.1; have := hiv.2; omega
    have hk : k < (mth ms mi).2.2.length := by omega
    have hp1 := hw.2 k hk
    have hp2 : 0 < tsn (nth (mth ms mi).2.2 k) := by rw [hp1.1.2]; exact Nat.one_pos
    have hpe0 := hpe
    rw [ipl] at hpe
    obtain ⟨p, yr3, yn3⟩ := ch2 k hk
    have yn3 : nd Hb F _ p (nth (mth ms mi).2.2 k) := yn3
    obtain ⟨b1_3, b2_3, b3_3, b4_3⟩ := ar_at ai2 (by decide) (Nat.lt_of_lt_of_le hk al2) (Nat.lt_of_le_of_lt ax2 (by decide))
    have y2_3 : mu_r Hb ar2 (nI k).toNatClampNeg = some p := by rw [b4_3]; exact yr3
    obtain ⟨kd4, ⟨is4, nF4, lt4⟩, ⟨st4, sr4, sf4⟩, ⟨n2_4, n3_4, n7_4⟩, nm4, ar4, aq4, aF4, ai4, ⟨al4, am4, ax4⟩, ch4, dp4⟩ := nd.rd (c := (nth (mth ms mi).2.2 k)) yn3
    obtain ⟨ty, yr5, yn5⟩ := ch4 0 hp2
    have yn5 : nd Hb F _ ty (tkk (nth (mth ms mi).2.2 k) 0) := yn5
    obtain ⟨b1_5, b2_5, b3_5, b4_5⟩ := ar_at ai4 (by decide) (Nat.lt_of_lt_of_le hp2 al4) (Nat.lt_of_le_of_lt ax4 (by decide))
    have y2_5 : mu_r Hb ar4 (0 : Int32).toNatClampNeg = some ty := yr5
    obtain ⟨kd6, ⟨is6, nF6, lt6⟩, ⟨st6, sr6, sf6⟩, ⟨n2_6, n3_6, n7_6⟩, nm6, ar6, aq6, aF6, ai6, ⟨al6, am6, ax6⟩, ch6, dp6⟩ := nd.rd (c := (tkk (nth (mth ms mi).2.2 k) 0)) yn5
    have m18_7 : mu_r H 169 18 = some mp := h.2.1.1.2.2
    have m0_7 : mu_r H mp 0 = some (loc 0) := h.2.1.2.1.1
    have m1_7 : mu_i H mp 1 = nI n := h.2.1.2.1.2.1
    have m2_7 : mu_i H mp 2 = nI en := h.2.1.2.1.2.2
    have mN0_7 : mu_r H mp 7 = some (loc 1) := (h.2.1.2.2.2.1 0 (by decide)).1.1
    have mI0_7 : mu_r H mp 8 = some (loc 2) := (h.2.1.2.2.2.1 0 (by decide)).1.2.1
    have mC0_7 : mu_i H mp 9 = nI (pr 0).length := (h.2.1.2.2.2.1 0 (by decide)).1.2.2
    have mN1_7 : mu_r H mp 4 = some (loc 3) := (h.2.1.2.2.2.1 1 (by decide)).1.1
    have mI1_7 : mu_r H mp 3 = some (loc 4) := (h.2.1.2.2.2.1 1 (by decide)).1.2.1
    have mC1_7 : mu_i H mp 5 = nI (pr 1).length := (h.2.1.2.2.2.1 1 (by decide)).1.2.2
    have mN2_7 : mu_r H mp 10 = some (loc 5) := (h.2.1.2.2.2.1 2 (by decide)).1.1
    have mI2_7 : mu_r H mp 11 = some (loc 6) := (h.2.1.2.2.2.1 2 (by decide)).1.2.1
    have mC2_7 : mu_i H mp 12 = nI (pr 2).length := (h.2.1.2.2.2.1 2 (by decide)).1.2.2
    have mN3_7 : mu_r H mp 13 = some (loc 7) := (h.2.1.2.2.2.1 3 (by decide)).1.1
    have mI3_7 : mu_r H mp 14 = some (loc 8) := (h.2.1.2.2.2.1 3 (by decide)).1.2.1
    have mC3_7 : mu_i H mp 15 = nI (pr 3).length := (h.2.1.2.2.2.1 3 (by decide)).1.2.2
    have rz7 := h.rz
    refine mw_go mu_g458 (k := 3) (f1 := (127, [(5, .inl (nI k)), (4, .inr (.inr (some ip))), (1, .inr (.inr (some m))), (0, .inr (.inr (some 169)))], [.inr (.inr (mu_r H m 2)), .inl (nI k)], H)) (C := [mu_is H (some m) 17]) rfl (show mu_is H (some m) 17 from ((h.2.2.2.1).is mi1 (fun z => absurd z.1 (Nat.not_le.mpr mi1.2.1)))) ?_
    refine mw_fr (f' := (127, [(5, .inl (nI k)), (4, .inr (.inr (some ip))), (1, .inr (.inr (some m))), (0, .inr (.inr (some 169)))], [.inr (.inr (some mq1)), .inl (nI k)], H)) (by first | (rw [(((h.2.2.2.1).r (p := m) (Or.inl mi1.2.1) (fun z => absurd z.1 (Nat.not_le.mpr mi1.2.1)) _).trans mr2_1)]; done) | (rw [(((h.2.2.2.1).r (p := m) (Or.inl mi1.2.1) (fun z => absurd z.1 (Nat.not_le.mpr mi1.2.1)) _).trans mr2_1)]; rfl)) ?_
    refine mw_go mu_g458 (k := 1) (f1 := (130, [(5, .inl (nI k)), (4, .inr (.inr (some ip))), (1, .inr (.inr (some m))), (0, .inr (.inr (some 169)))], [.inl (mu_i H mq1 2), .inl (nI k)], H)) (C := [mu_is H (some mq1) 18]) rfl (show mu_is H (some mq1) 18 from ((h.2.2.2.1).is is2 (fun z => absurd z.1 (Nat.not_le.mpr is2.2.1)))) ?_
    refine mw_fr (f' := (130, [(5, .inl (nI k)), (4, .inr (.inr (some ip))), (1, .inr (.inr (some m))), (0, .inr (.inr (some 169)))], [.inl (nI (mth ms mi).2.2.length), .inl (nI k)], H)) (by first | (rw [(((h.2.2.2.1).i (p := mq1) (Or.inl is2.2.1) (fun z => absurd z.1 (Nat.not_le.mpr is2.2.1)) _).trans n2_2)]; done) | (rw [(((h.2.2.2.1).i (p := mq1) (Or.inl is2.2.1) (fun z => absurd z.1 (Nat.not_le.mpr is2.2.1)) _).trans n2_2)]; rfl)) ?_
    refine mw_if (P := (nI k) < (nI (mth ms mi).2.2.length)) (a := 133) (b := 384) (fun _ => rfl) trivial (fun h1 => ?_) (fun h1 => absurd (nI_lt hk (by omega)) h1)
    have hipq : loc (9 + 4 * j) = ip := hip
    have if8 := h.2.1.2.2.2.2.1 j hj
    have iw3_8 : mu_r H ip 3 = some (loc (10 + 4 * j)) := by rw [← hipq]; exact if8.2.2.2.1.1
    have iw4_8 : mu_r H ip 4 = some (loc (11 + 4 * j)) := by rw [← hipq]; exact if8.2.2.2.1.2.1
    have iw5_8 : mu_r H ip 5 = some (loc (12 + 4 * j)) := by rw [← hipq]; exact if8.2.2.2.1.2.2
    have iwi_8 : mu_is H (some ip) 15 := by rw [← hipq]; exact if8.1
    have imi_8 : (Iv j).1 = mi := him
    have vp10_8 : mu_n H (loc (10 + 4 * j)) = (mth ms mi).2.2.length := by have := if8.2.2.2.2.1.2.1; rw [imi_8] at this; exact this
    have vp11_8 : mu_n H (loc (11 + 4 * j)) = (mth ms mi).2.2.length := by have := if8.2.2.2.2.2.1.2.1; rw [imi_8] at this; exact this
    have vp12_8 : mu_n H (loc (12 + 4 * j)) = (mth ms mi).2.2.length := by have := if8.2.2.2.2.2.2.2.1; rw [imi_8] at this; exact this
    refine mw_go mu_g458 (k := 2) (f1 := (137, [(5, .inl (nI k)), (4, .inr (.inr (some ip))), (1, .inr (.inr (some m))), (0, .inr (.inr (some 169)))], [.inr (.inr (mu_r H m 2))], H)) (C := [mu_is H (some m) 17]) rfl (show mu_is H (some m) 17 from ((h.2.2.2.1).is mi1 (fun z => absurd z.1 (Nat.not_le.mpr mi1.2.1)))) ?_
    refine mw_fr (f' := (137, [(5, .inl (nI k)), (4, .inr (.inr (some ip))), (1, .inr (.inr (some m))), (0, .inr (.inr (some 169)))], [.inr (.inr (some mq1))], H)) (by first | (rw [(((h.2.2.2.1).r (p := m) (Or.inl mi1.2.1) (fun z => absurd z.1 (Nat.not_le.mpr mi1.2.1)) _).trans mr2_1)]; done) | (rw [(((h.2.2.2.1).r (p := m) (Or.inl mi1.2.1) (fun z => absurd z.1 (Nat.not_le.mpr mi1.2.1)) _).trans mr2_1)]; rfl)) ?_
    refine mw_go mu_g458 (k := 1) (f1 := (140, [(5, .inl (nI k)), (4, .inr (.inr (some ip))), (1, .inr (.inr (some m))), (0, .inr (.inr (some 169)))], [.inr (.inr (mu_r H mq1 1))], H)) (C := [mu_is H (some mq1) 18]) rfl (show mu_is H (some mq1) 18 from ((h.2.2.2.1).is is2 (fun z => absurd z.1 (Nat.not_le.mpr is2.2.1)))) ?_
    refine mw_fr (f' := (140, [(5, .inl (nI k)), (4, .inr (.inr (some ip))), (1, .inr (.inr (some m))), (0, .inr (.inr (some 169)))], [.inr (.inr (some ar2))], H)) (by first | (rw [(((h.2.2.2.1).r (p := mq1) (Or.inl is2.2.1) (fun z => absurd z.1 (Nat.not_le.mpr is2.2.1)) _).trans aq2)]; done) | (rw [(((h.2.2.2.1).r (p := mq1) (Or.inl is2.2.1) (fun z => absurd z.1 (Nat.not_le.mpr is2.2.1)) _).trans aq2)]; rfl)) ?_
    refine mw_go mu_g458 (k := 2) (f1 := (143, [(5, .inl (nI k)), (4, .inr (.inr (some ip))), (1, .inr (.inr (some m))), (0, .inr (.inr (some 169)))], [.inr (.inr (mu_r H ar2 (nI k).toNatClampNeg))], H)) (C := [mu_is H (some ar2) (mu_k H ar2), 103 ≤ mu_k H ar2 ∧ mu_k H ar2 ≤ 110 ∧ mu_k H ar2 ≠ 108, vp_in (nI k) (mu_n H ar2)]) rfl (show (mu_is H (some ar2) (mu_k H ar2)) ∧ (103 ≤ mu_k H ar2 ∧ mu_k H ar2 ≤ 110 ∧ mu_k H ar2 ≠ 108) ∧ (vp_in (nI k) (mu_n H ar2)) from ⟨⟨rfl, Nat.lt_of_lt_of_le ai2.2.1 (h.2.2.2.1).1, rfl⟩, (by rw [(h.2.2.2.1).k (p := ar2) (Or.inl ai2.2.1) (fun z => absurd z.1 (Nat.not_le.mpr ai2.2.1))]; exact b2_3), (by rw [(h.2.2.2.1).len (p := ar2) (Or.inl ai2.2.1) (fun z => absurd z.1 (Nat.not_le.mpr ai2.2.1))]; exact b3_3)⟩) ?_
    refine mw_fr (f' := (143, [(5, .inl (nI k)), (4, .inr (.inr (some ip))), (1, .inr (.inr (some m))), (0, .inr (.inr (some 169)))], [.inr (.inr (some p))], H)) (by first | (rw [(((h.2.2.2.1).r (p := ar2) (Or.inl ai2.2.1) (fun z => absurd z.1 (Nat.not_le.mpr ai2.2.1)) _).trans y2_3)]; done) | (rw [(((h.2.2.2.1).r (p := ar2) (Or.inl ai2.2.1) (fun z => absurd z.1 (Nat.not_le.mpr ai2.2.1)) _).trans y2_3)]; rfl)) ?_
    refine mw_go mu_g458 (k := 3) (f1 := (150, [(6, .inr (.inr (some p))), (5, .inl (nI k)), (4, .inr (.inr (some ip))), (1, .inr (.inr (some m))), (0, .inr (.inr (some 169)))], [.inr (.inr (mu_r H ip 3))], H)) (C := [mu_is H (some ip) 15]) rfl (show mu_is H (some ip) 15 from iwi_8) ?_
    refine mw_fr (f' := (150, [(6, .inr (.inr (some p))), (5, .inl (nI k)), (4, .inr (.inr (some ip))), (1, .inr (.inr (some m))), (0, .inr (.inr (some 169)))], [.inr (.inr (some (loc (10 + 4 * j))))], H)) (by first | (rw [iw3_8]; done) | (rw [iw3_8]; rfl)) ?_
    refine mw_go mu_g458 (k := 3) (f1 := (154, [(6, .inr (.inr (some p))), (5, .inl (nI k)), (4, .inr (.inr (some ip))), (1, .inr (.inr (some m))), (0, .inr (.inr (some 169)))], [], (mu_si H (loc (10 + 4 * j)) (nI k).toNatClampNeg (-1 : Int32)))) (C := [mu_is H (some (loc (10 + 4 * j))) 100, vp_in (nI k) (mu_n H (loc (10 + 4 * j)))]) rfl (show (mu_is H (some (loc (10 + 4 * j))) 100) ∧ (vp_in (nI k) (mu_n H (loc (10 + 4 * j)))) from ⟨if8.2.2.2.2.1.1, (by rw [vp10_8]; exact vp_in_nI hk (by omega))⟩) ?_
    refine mw_fr (f' := (154, [(6, .inr (.inr (some p))), (5, .inl (nI k)), (4, .inr (.inr (some ip))), (1, .inr (.inr (some m))), (0, .inr (.inr (some 169)))], [], (mu_si H (loc (10 + 4 * j)) k (-1 : Int32)))) (by first | (rw [(nI_clamp (show k < 2 ^ 31 by omega))]; done) | (rw [(nI_clamp (show k < 2 ^ 31 by omega))]; rfl)) ?_
    have hKa : bmk T n0 t dep F lv r ms cap sy Hb mp (A0 + 4 * n) (B0 + n * SB) loc n (ivs Iv j k (-1)) pr en (mu_si H (loc (10 + 4 * j)) k (-1 : Int32)) := h.vset hj
    obtain ⟨Ka, eKa⟩ : ∃ K, K = (mu_si H (loc (10 + 4 * j)) k (-1 : Int32)) := ⟨_, rfl⟩
    rw [← eKa] at hKa ⊢
    clear eKa
    show mu_W _ mu_m458 (154, [(6, .inr (.inr (some p))), (5, .inl (nI k)), (4, .inr (.inr (some ip))), (1, .inr (.inr (some m))), (0, .inr (.inr (some 169)))], [], Ka) _
    have him1 : (ivs Iv j k (-1) j).1 = mi := by unfold ivs; rw [show iup Iv j ((Iv j).1, (Iv j).2.1, fup (Iv j).2.2.1 k (-1), (Iv j).2.2.2) j = ((Iv j).1, (Iv j).2.1, fup (Iv j).2.2.1 k (-1), (Iv j).2.2.2) from if_pos rfl]; exact him
    have e1 : nI en + (1 : Int32) = nI (en + 1) := nI_add _ _
    have m18_9 : mu_r Ka 169 18 = some mp := hKa.2.1.1.2.2
    have m0_9 : mu_r Ka mp 0 = some (loc 0) := hKa.2.1.2.1.1
    have m1_9 : mu_i Ka mp 1 = nI n := hKa.2.1.2.1.2.1
    have m2_9 : mu_i Ka mp 2 = nI en := hKa.2.1.2.1.2.2
    have mN0_9 : mu_r Ka mp 7 = some (loc 1) := (hKa.2.1.2.2.2.1 0 (by decide)).1.1
    have mI0_9 : mu_r Ka mp 8 = some (loc 2) := (hKa.2.1.2.2.2.1 0 (by decide)).1.2.1
    have mC0_9 : mu_i Ka mp 9 = nI (pr 0).length := (hKa.2.1.2.2.2.1 0 (by decide)).1.2.2
    have mN1_9 : mu_r Ka mp 4 = some (loc 3) := (hKa.2.1.2.2.2.1 1 (by decide)).1.1
    have mI1_9 : mu_r Ka mp 3 = some (loc 4) := (hKa.2.1.2.2.2.1 1 (by decide)).1.2.1
    have mC1_9 : mu_i Ka mp 5 = nI (pr 1).length := (hKa.2.1.2.2.2.1 1 (by decide)).1.2.2
    have mN2_9 : mu_r Ka mp 10 = some (loc 5) := (hKa.2.1.2.2.2.1 2 (by decide)).1.1
    have mI2_9 : mu_r Ka mp 11 = some (loc 6) := (hKa.2.1.2.2.2.1 2 (by decide)).1.2.1
    have mC2_9 : mu_i Ka mp 12 = nI (pr 2).length := (hKa.2.1.2.2.2.1 2 (by decide)).1.2.2
    have mN3_9 : mu_r Ka mp 13 = some (loc 7) := (hKa.2.1.2.2.2.1 3 (by decide)).1.1
    have mI3_9 : mu_r Ka mp 14 = some (loc 8) := (hKa.2.1.2.2.2.1 3 (by decide)).1.2.1
    have mC3_9 : mu_i Ka mp 15 = nI (pr 3).length := (hKa.2.1.2.2.2.1 3 (by decide)).1.2.2
    have rz9 := hKa.rz
    refine mw_go mu_g458 (k := 2) (f1 := (158, [(6, .inr (.inr (some p))), (5, .inl (nI k)), (4, .inr (.inr (some ip))), (1, .inr (.inr (some m))), (0, .inr (.inr (some 169)))], [.inr (.inr (mu_r Ka 169 18))], Ka)) (C := [mu_is Ka (some 169) 1]) rfl (show mu_is Ka (some 169) 1 from hKa.rz.2.2.2.2) ?_
    refine mw_fr (f' := (158, [(6, .inr (.inr (some p))), (5, .inl (nI k)), (4, .inr (.inr (some ip))), (1, .inr (.inr (some m))), (0, .inr (.inr (some 169)))], [.inr (.inr (some mp))], Ka)) (by first | (rw [m18_9]; done) | (rw [m18_9]; rfl)) ?_
    refine mw_go mu_g458 (k := 2) (f1 := (162, [(6, .inr (.inr (some p))), (5, .inl (nI k)), (4, .inr (.inr (some ip))), (1, .inr (.inr (some m))), (0, .inr (.inr (some 169)))], [.inl (mu_i Ka mp 2), .inr (.inr (some mp))], Ka)) (C := [mu_is Ka (some mp) 16]) rfl (show mu_is Ka (some mp) 16 from hKa.2.1.1.1) ?_
    refine mw_fr (f' := (162, [(6, .inr (.inr (some p))), (5, .inl (nI k)), (4, .inr (.inr (some ip))), (1, .inr (.inr (some m))), (0, .inr (.inr (some 169)))], [.inl (nI en), .inr (.inr (some mp))], Ka)) (by first | (rw [m2_9]; done) | (rw [m2_9]; rfl)) ?_
    refine mw_go mu_g458 (k := 2) (f1 := (164, [(6, .inr (.inr (some p))), (5, .inl (nI k)), (4, .inr (.inr (some ip))), (1, .inr (.inr (some m))), (0, .inr (.inr (some 169)))], [.inl ((nI en) + (1 : Int32)), .inr (.inr (some mp))], Ka)) (C := []) rfl trivial ?_
    refine mw_fr (f' := (164, [(6, .inr (.inr (some p))), (5, .inl (nI k)), (4, .inr (.inr (some ip))), (1, .inr (.inr (some m))), (0, .inr (.inr (some 169)))], [.inl (nI (en + 1)), .inr (.inr (some mp))], Ka)) (by first | (rw [e1]; done) | (rw [e1]; rfl)) ?_
    refine mw_go mu_g458 (k := 1) (f1 := (167, [(6, .inr (.inr (some p))), (5, .inl (nI k)), (4, .inr (.inr (some ip))), (1, .inr (.inr (some m))), (0, .inr (.inr (some 169)))], [], (mu_si Ka mp 2 (nI (en + 1))))) (C := [mu_is Ka (some mp) 16]) rfl (show mu_is Ka (some mp) 16 from hKa.2.1.1.1) ?_
    have hKb : bmk T n0 t dep F lv r ms cap sy Hb mp (A0 + 4 * n) (B0 + n * SB) loc n (ivs Iv j k (-1)) pr (en + 1) (mu_si Ka mp 2 (nI (en + 1))) := hKa.ent
    obtain ⟨Kb, eKb⟩ : ∃ K, K = (mu_si Ka mp 2 (nI (en + 1))) := ⟨_, rfl⟩
    rw [← eKb] at hKb ⊢
    clear eKb
    show mu_W _ mu_m458 (167, [(6, .inr (.inr (some p))), (5, .inl (nI k)), (4, .inr (.inr (some ip))), (1, .inr (.inr (some m))), (0, .inr (.inr (some 169)))], [], Kb) _
    have m18_10 : mu_r Kb 169 18 = some mp := hKb.2.1.1.2.2
    have m0_10 : mu_r Kb mp 0 = some (loc 0) := hKb.2.1.2.1.1
    have m1_10 : mu_i Kb mp 1 = nI n := hKb.2.1.2.1.2.1
    have m2_10 : mu_i Kb mp 2 = nI (en + 1) := hKb.2.1.2.1.2.2
    have mN0_10 : mu_r Kb mp 7 = some (loc 1) := (hKb.2.1.2.2.2.1 0 (by decide)).1.1
    have mI0_10 : mu_r Kb mp 8 = some (loc 2) := (hKb.2.1.2.2.2.1 0 (by decide)).1.2.1
    have mC0_10 : mu_i Kb mp 9 = nI (pr 0).length := (hKb.2.1.2.2.2.1 0 (by decide)).1.2.2
    have mN1_10 : mu_r Kb mp 4 = some (loc 3) := (hKb.2.1.2.2.2.1 1 (by decide)).1.1
    have mI1_10 : mu_r Kb mp 3 = some (loc 4) := (hKb.2.1.2.2.2.1 1 (by decide)).1.2.1
    have mC1_10 : mu_i Kb mp 5 = nI (pr 1).length := (hKb.2.1.2.2.2.1 1 (by decide)).1.2.2
    have mN2_10 : mu_r Kb mp 10 = some (loc 5) := (hKb.2.1.2.2.2.1 2 (by decide)).1.1
    have mI2_10 : mu_r Kb mp 11 = some (loc 6) := (hKb.2.1.2.2.2.1 2 (by decide)).1.2.1
    have mC2_10 : mu_i Kb mp 12 = nI (pr 2).length := (hKb.2.1.2.2.2.1 2 (by decide)).1.2.2
    have mN3_10 : mu_r Kb mp 13 = some (loc 7) := (hKb.2.1.2.2.2.1 3 (by decide)).1.1
    have mI3_10 : mu_r Kb mp 14 = some (loc 8) := (hKb.2.1.2.2.2.1 3 (by decide)).1.2.1
    have mC3_10 : mu_i Kb mp 15 = nI (pr 3).length := (hKb.2.1.2.2.2.1 3 (by decide)).1.2.2
    have rz10 := hKb.rz
    refine mw_go mu_g458 (k := 2) (f1 := (172, [(6, .inr (.inr (some p))), (5, .inl (nI k)), (4, .inr (.inr (some ip))), (1, .inr (.inr (some m))), (0, .inr (.inr (some 169)))], [.inr (.inr (some 1000074)), .inr (.inr (some p))], Kb)) (C := []) rfl trivial ?_
    refine mw_cIe (fun _ => rfl) (show mu_is Kb (some p) 18 from ((hKb.2.2.2.1).is is4 (fun z => absurd z.1 (Nat.not_le.mpr is4.2.1)))) (nd.isL (e := d + 3) (j := 74) (hKb.ndk yn3 hF) (by decide)) ?_
    refine mw_if (P := (if tkd (nth (mth ms mi).2.2 k) = 74 then 1 else 0) = 0) (a := 199) (b := 178) (fun _ => rfl) trivial (fun hi11 => ?_) (fun hi11 => ?_)
    · -- 199
      have ek11 : ¬ tkd (nth (mth ms mi).2.2 k) = 74 := fun e => by rw [if_pos e] at hi11; exact absurd hi11 (by decide)
      refine mw_go mu_g458 (k := 2) (f1 := (204, [(6, .inr (.inr (some p))), (5, .inl (nI k)), (4, .inr (.inr (some ip))), (1, .inr (.inr (some m))), (0, .inr (.inr (some 169)))], [.inr (.inr (some 1000073)), .inr (.inr (some p))], Kb)) (C := []) rfl trivial ?_
      refine mw_cIe (fun _ => rfl) (show mu_is Kb (some p) 18 from ((hKb.2.2.2.1).is is4 (fun z => absurd z.1 (Nat.not_le.mpr is4.2.1)))) (nd.isL (e := d + 3) (j := 73) (hKb.ndk yn3 hF) (by decide)) ?_
      refine mw_if (P := (if tkd (nth (mth ms mi).2.2 k) = 73 then 1 else 0) = 0) (a := 210) (b := 213) (fun _ => rfl) trivial (fun hi12 => ?_) (fun hi12 => ?_)
      · -- 210
        have ek12 : ¬ tkd (nth (mth ms mi).2.2 k) = 73 := fun e => by rw [if_pos e] at hi12; exact absurd hi12 (by decide)
        refine mw_go mu_g458 (k := 3) (f1 := (121, [(5, .inl ((nI k) + 1)), (6, .inr (.inr (some p))), (4, .inr (.inr (some ip))), (1, .inr (.inr (some m))), (0, .inr (.inr (some 169)))], [], Kb)) (C := []) rfl trivial ?_
        refine mw_sub (L' := [(5, .inl (nI (k + 1))), (4, .inr (.inr (some ip))), (1, .inr (.inr (some m))), (0, .inr (.inr (some 169)))]) (by intro x hx; simp only [List.mem_cons, List.not_mem_nil, or_false] at hx ⊢; rcases hx with rfl | rfl | rfl | rfl <;> simp [nI_add, show (1 : Int32) = nI 1 from rfl]) ?_
        exact rp_in2 hm0 hw hF ht0 hX hQ hmt hrec hN0 hexc hfin m_ (k + 1) _ _ _ _ _ _ (by omega) hKb hip hj him1 hag (fun s hs => (ivs_ne (by omega)).trans (hgv s hs)) (by have := hiv.1; have := hiv.2; exact ⟨by omega, by omega⟩) (by omega) (by rw [if_neg ek11, if_neg ek12] at hpe; exact hpe)
      · -- 213
        have ek12 : tkd (nth (mth ms mi).2.2 k) = 73 := Decidable.byContradiction (fun e => hi12 (if_neg e))
        refine mw_go mu_g458 (k := 2) (f1 := (218, [(6, .inr (.inr (some p))), (5, .inl (nI k)), (4, .inr (.inr (some ip))), (1, .inr (.inr (some m))), (0, .inr (.inr (some 169)))], [.inr (.inr (mu_r Kb p 1))], Kb)) (C := [mu_is Kb (some p) 18]) rfl (show mu_is Kb (some p) 18 from ((hKb.2.2.2.1).is is4 (fun z => absurd z.1 (Nat.not_le.mpr is4.2.1)))) ?_
        refine mw_fr (f' := (218, [(6, .inr (.inr (some p))), (5, .inl (nI k)), (4, .inr (.inr (some ip))), (1, .inr (.inr (some m))), (0, .inr (.inr (some 169)))], [.inr (.inr (some ar4))], Kb)) (by first | (rw [(((hKb.2.2.2.1).r (p := p) (Or.inl is4.2.1) (fun z => absurd z.1 (Nat.not_le.mpr is4.2.1)) _).trans aq4)]; done) | (rw [(((hKb.2.2.2.1).r (p := p) (Or.inl is4.2.1) (fun z => absurd z.1 (Nat.not_le.mpr is4.2.1)) _).trans aq4)]; rfl)) ?_
        refine mw_go mu_g458 (k := 2) (f1 := (220, [(6, .inr (.inr (some p))), (5, .inl (nI k)), (4, .inr (.inr (some ip))), (1, .inr (.inr (some m))), (0, .inr (.inr (some 169)))], [.inr (.inr (mu_r Kb ar4 (0 : Int32).toNatClampNeg))], Kb)) (C := [mu_is Kb (some ar4) (mu_k Kb ar4), 103 ≤ mu_k Kb ar4 ∧ mu_k Kb ar4 ≤ 110 ∧ mu_k Kb ar4 ≠ 108, vp_in (0 : Int32) (mu_n Kb ar4)]) rfl (show (mu_is Kb (some ar4) (mu_k Kb ar4)) ∧ (103 ≤ mu_k Kb ar4 ∧ mu_k Kb ar4 ≤ 110 ∧ mu_k Kb ar4 ≠ 108) ∧ (vp_in (0 : Int32) (mu_n Kb ar4)) from ⟨⟨rfl, Nat.lt_of_lt_of_le ai4.2.1 (hKb.2.2.2.1).1, rfl⟩, (by rw [(hKb.2.2.2.1).k (p := ar4) (Or.inl ai4.2.1) (fun z => absurd z.1 (Nat.not_le.mpr ai4.2.1))]; exact b2_5), (by rw [(hKb.2.2.2.1).len (p := ar4) (Or.inl ai4.2.1) (fun z => absurd z.1 (Nat.not_le.mpr ai4.2.1))]; exact b3_5)⟩) ?_
        refine mw_fr (f' := (220, [(6, .inr (.inr (some p))), (5, .inl (nI k)), (4, .inr (.inr (some ip))), (1, .inr (.inr (some m))), (0, .inr (.inr (some 169)))], [.inr (.inr (some ty))], Kb)) (by first | (rw [(((hKb.2.2.2.1).r (p := ar4) (Or.inl ai4.2.1) (fun z => absurd z.1 (Nat.not_le.mpr ai4.2.1)) _).trans y2_5)]; done) | (rw [(((hKb.2.2.2.1).r (p := ar4) (Or.inl ai4.2.1) (fun z => absurd z.1 (Nat.not_le.mpr ai4.2.1)) _).trans y2_5)]; rfl)) ?_
        refine mw_go mu_g458 (k := 1) (f1 := (223, [(6, .inr (.inr (some p))), (5, .inl (nI k)), (4, .inr (.inr (some ip))), (1, .inr (.inr (some m))), (0, .inr (.inr (some 169)))], [.inr (.inr (some 1000072)), .inr (.inr (some ty))], Kb)) (C := []) rfl trivial ?_
        refine mw_cIe (fun _ => rfl) (show mu_is Kb (some ty) 18 from ((hKb.2.2.2.1).is is6 (fun z => absurd z.1 (Nat.not_le.mpr is6.2.1)))) (nd.isL (e := d + 3) (j := 72) (hKb.ndk yn5 hF) (by decide)) ?_
        refine mw_if (P := (if tkd (tkk (nth (mth ms mi).2.2 k) 0) = 72 then 1 else 0) = 0) (a := 269) (b := 229) (fun _ => rfl) trivial (fun hi13 => ?_) (fun hi13 => ?_)
        · -- 269
          have ek13 : ¬ tkd (tkk (nth (mth ms mi).2.2 k) 0) = 72 := fun e => by rw [if_pos e] at hi13; exact absurd hi13 (by decide)
          refine mw_sub (L' := [(6, .inr (.inr (some p))), (5, .inl (nI k)), (4, .inr (.inr (some ip))), (1, .inr (.inr (some m))), (0, .inr (.inr (some 169)))]) (by intro x hx; simp only [List.mem_cons, List.not_mem_nil, or_false] at hx ⊢; rcases hx with rfl | rfl | rfl | rfl | rfl <;> simp [nI_add, show (1 : Int32) = nI 1 from rfl]) ?_
          exact rp_inV hm0 hw hF ht0 hX hQ yn3 (by omega) hp2 hl26 hk hKb hip hj him1 (by omega) (by omega) (fun K9 loc9 hb9 ag9 => rp_in2 hm0 hw hF ht0 hX hQ hmt hrec hN0 hexc hfin m_ (k + 1) _ _ _ _ _ _ (by omega) hb9 ((ag9 _ (by omega)).trans hip) hj (ivs_eq.trans him1) (fun s hs hs2 => (ag9 s hs).trans (hag s hs hs2)) (fun s hs => (ivs_ne (by omega)).trans ((ivs_ne (by omega)).trans (hgv s hs))) (by have := hiv.1; have := hiv.2; refine ⟨?_, ?_⟩ <;> simp only [pup, List.length_append, List.length_cons, List.length_nil] <;> simp <;> omega) (by omega) (by rw [if_neg ek11, if_pos ek12, if_neg ek13] at hpe; exact hpe))
        · -- 229
          have ek13 : tkd (tkk (nth (mth ms mi).2.2 k) 0) = 72 := Decidable.byContradiction (fun e => hi13 (if_neg e))
          refine mw_sub (L' := [(6, .inr (.inr (some p))), (5, .inl (nI k)), (4, .inr (.inr (some ip))), (1, .inr (.inr (some m))), (0, .inr (.inr (some 169)))]) (by intro x hx; simp only [List.mem_cons, List.not_mem_nil, or_false] at hx ⊢; rcases hx with rfl | rfl | rfl | rfl | rfl <;> simp [nI_add, show (1 : Int32) = nI 1 from rfl]) ?_
          obtain ⟨i, hi⟩ := hmt k hk ek12 ek13
          obtain ⟨rs, hre, hrn, hrs⟩ := ipl_inst ek11 ek12 ek13 hi hpe0
          exact rp_inX hm0 hw hF ht0 hX hQ yn3 (by omega) hp2 hl26 hk ek12 ek13 hi hrec hexc hKb hip hj him1 (by have := hiv.1; have := hiv.2; exact ⟨by omega, by omega⟩) (by omega) hre hrn (fun n1 Iv2 pr1 en1 loc9 K9 Iv1 ers eI hj9 hb9 hip9 him9 ag9 iv9 hib9 hen9 => rp_in2 hm0 hw hF ht0 hX hQ hmt hrec hN0 hexc hfin m_ (k + 1) _ _ _ _ _ _ (by omega) hb9 hip9 hj9 him9 (fun s hs hs2 => (ag9 s hs (by omega)).trans (hag s hs hs2)) (fun s hs => (iv9 s (by omega) (by omega)).trans ((ivs_ne (by omega)).trans (hgv s hs))) hib9 (by omega) (by have hpe := hrs _ _ _ _ ers; rw [← eI] at hpe; exact hpe))
    · -- 178
      have ek11 : tkd (nth (mth ms mi).2.2 k) = 74 := Decidable.byContradiction (fun e => hi11 (if_neg e))
      have hpl := plx_le (pr := pr) (k := 0) (by decide)
      have hipq : loc (9 + 4 * j) = ip := hip
      have if14 := hKb.2.1.2.2.2.2.1 j hj
      have iw3_14 : mu_r Kb ip 3 = some (loc (10 + 4 * j)) := by rw [← hipq]; exact if14.2.2.2.1.1
      have iw4_14 : mu_r Kb ip 4 = some (loc (11 + 4 * j)) := by rw [← hipq]; exact if14.2.2.2.1.2.1
      have iw5_14 : mu_r Kb ip 5 = some (loc (12 + 4 * j)) := by rw [← hipq]; exact if14.2.2.2.1.2.2
      have iwi_14 : mu_is Kb (some ip) 15 := by rw [← hipq]; exact if14.1
      have imi_14 : ((ivs Iv j k (-1)) j).1 = mi := him1
      have vp10_14 : mu_n Kb (loc (10 + 4 * j)) = (mth ms mi).2.2.length := by have := if14.2.2.2.2.1.2.1; rw [imi_14] at this; exact this
      have vp11_14 : mu_n Kb (loc (11 + 4 * j)) = (mth ms mi).2.2.length := by have := if14.2.2.2.2.2.1.2.1; rw [imi_14] at this; exact this
      have vp12_14 : mu_n Kb (loc (12 + 4 * j)) = (mth ms mi).2.2.length := by have := if14.2.2.2.2.2.2.2.1; rw [imi_14] at this; exact this
      refine mw_go mu_g458 (k := 2) (f1 := (183, [(6, .inr (.inr (some p))), (5, .inl (nI k)), (4, .inr (.inr (some ip))), (1, .inr (.inr (some m))), (0, .inr (.inr (some 169)))], [.inr (.inr (mu_r Kb ip 5))], Kb)) (C := [mu_is Kb (some ip) 15]) rfl (show mu_is Kb (some ip) 15 from iwi_14) ?_
      refine mw_fr (f' := (183, [(6, .inr (.inr (some p))), (5, .inl (nI k)), (4, .inr (.inr (some ip))), (1, .inr (.inr (some m))), (0, .inr (.inr (some 169)))], [.inr (.inr (some (loc (12 + 4 * j))))], Kb)) (by first | (rw [iw5_14]; done) | (rw [iw5_14]; rfl)) ?_
      refine mw_go mu_g458 (k := 4) (f1 := (191, [(6, .inr (.inr (some p))), (5, .inl (nI k)), (4, .inr (.inr (some ip))), (1, .inr (.inr (some m))), (0, .inr (.inr (some 169)))], [.inr (.inr (mu_r Kb p 1)), .inr (.inr (some 169)), .inl (nI k), .inr (.inr (some (loc (12 + 4 * j))))], Kb)) (C := [mu_is Kb (some p) 18]) rfl (show mu_is Kb (some p) 18 from ((hKb.2.2.2.1).is is4 (fun z => absurd z.1 (Nat.not_le.mpr is4.2.1)))) ?_
      refine mw_fr (f' := (191, [(6, .inr (.inr (some p))), (5, .inl (nI k)), (4, .inr (.inr (some ip))), (1, .inr (.inr (some m))), (0, .inr (.inr (some 169)))], [.inr (.inr (some ar4)), .inr (.inr (some 169)), .inl (nI k), .inr (.inr (some (loc (12 + 4 * j))))], Kb)) (by first | (rw [(((hKb.2.2.2.1).r (p := p) (Or.inl is4.2.1) (fun z => absurd z.1 (Nat.not_le.mpr is4.2.1)) _).trans aq4)]; done) | (rw [(((hKb.2.2.2.1).r (p := p) (Or.inl is4.2.1) (fun z => absurd z.1 (Nat.not_le.mpr is4.2.1)) _).trans aq4)]; rfl)) ?_
      refine mw_go mu_g458 (k := 2) (f1 := (193, [(6, .inr (.inr (some p))), (5, .inl (nI k)), (4, .inr (.inr (some ip))), (1, .inr (.inr (some m))), (0, .inr (.inr (some 169)))], [.inr (.inr (mu_r Kb ar4 (0 : Int32).toNatClampNeg)), .inr (.inr (some 169)), .inl (nI k), .inr (.inr (some (loc (12 + 4 * j))))], Kb)) (C := [mu_is Kb (some ar4) (mu_k Kb ar4), 103 ≤ mu_k Kb ar4 ∧ mu_k Kb ar4 ≤ 110 ∧ mu_k Kb ar4 ≠ 108, vp_in (0 : Int32) (mu_n Kb ar4)]) rfl (show (mu_is Kb (some ar4) (mu_k Kb ar4)) ∧ (103 ≤ mu_k Kb ar4 ∧ mu_k Kb ar4 ≤ 110 ∧ mu_k Kb ar4 ≠ 108) ∧ (vp_in (0 : Int32) (mu_n Kb ar4)) from ⟨⟨rfl, Nat.lt_of_lt_of_le ai4.2.1 (hKb.2.2.2.1).1, rfl⟩, (by rw [(hKb.2.2.2.1).k (p := ar4) (Or.inl ai4.2.1) (fun z => absurd z.1 (Nat.not_le.mpr ai4.2.1))]; exact b2_5), (by rw [(hKb.2.2.2.1).len (p := ar4) (Or.inl ai4.2.1) (fun z => absurd z.1 (Nat.not_le.mpr ai4.2.1))]; exact b3_5)⟩) ?_
      refine mw_fr (f' := (193, [(6, .inr (.inr (some p))), (5, .inl (nI k)), (4, .inr (.inr (some ip))), (1, .inr (.inr (some m))), (0, .inr (.inr (some 169)))], [.inr (.inr (some ty)), .inr (.inr (some 169)), .inl (nI k), .inr (.inr (some (loc (12 + 4 * j))))], Kb)) (by first | (rw [(((hKb.2.2.2.1).r (p := ar4) (Or.inl ai4.2.1) (fun z => absurd z.1 (Nat.not_le.mpr ai4.2.1)) _).trans y2_5)]; done) | (rw [(((hKb.2.2.2.1).r (p := ar4) (Or.inl ai4.2.1) (fun z => absurd z.1 (Nat.not_le.mpr ai4.2.1)) _).trans y2_5)]; rfl)) ?_
      refine mw_go mu_g458 (k := 1) (f1 := (195, [(6, .inr (.inr (some p))), (5, .inl (nI k)), (4, .inr (.inr (some ip))), (1, .inr (.inr (some m))), (0, .inr (.inr (some 169)))], [.inr (.inr (some ip)), .inr (.inr (some ty)), .inr (.inr (some 169)), .inl (nI k), .inr (.inr (some (loc (12 + 4 * j))))], Kb)) (C := []) rfl trivial ?_
      rw [show (some ip) = some (loc (9 + 4 * j)) by rw [hip]]
      refine mw_cI (fun _ => rfl) (show mu_is Kb (some 169) 1 from hKb.rz.2.2.2.2) (rp_stand (d := d + 4) hKb (i := j) (q := ty) (c := (tkk (nth (mth ms mi).2.2 k) 0)) hj (fun K hK => by
        obtain ⟨a9, b9, k9⟩ := hK
        exact (nd.kp yn5 k9 (fun p z => ⟨fun y => by have := hF p y; omega, z.2⟩)).le (by omega)) (by have := hKb.rz; have := hKb.cpb; omega) (by omega)) (fun v9 H9 q9 => ?_)
      obtain ⟨rfl, loc1, ag1, h9⟩ := q9
      have hip1 : loc1 (9 + 4 * j) = ip := (ag1 _ (by omega)).trans hip
      rw [show (some (loc (9 + 4 * j))) = some ip by rw [hip], show (some (loc (12 + 4 * j))) = some (loc1 (12 + 4 * j)) by rw [ag1 _ (by omega)]]
      show mu_W _ mu_m458 (198, [(6, .inr (.inr (some p))), (5, .inl (nI k)), (4, .inr (.inr (some ip))), (1, .inr (.inr (some m))), (0, .inr (.inr (some 169)))], [.inl (nI (pr 0).length), .inl (nI k), .inr (.inr (some (loc1 (12 + 4 * j))))], H9) _
      have m18_15 : mu_r H9 169 18 = some mp := h9.2.1.1.2.2
      have m0_15 : mu_r H9 mp 0 = some (loc1 0) := h9.2.1.2.1.1
      have m1_15 : mu_i H9 mp 1 = nI n := h9.2.1.2.1.2.1
      have m2_15 : mu_i H9 mp 2 = nI (en + 1) := h9.2.1.2.1.2.2
      have mN0_15 : mu_r H9 mp 7 = some (loc1 1) := (h9.2.1.2.2.2.1 0 (by decide)).1.1
      have mI0_15 : mu_r H9 mp 8 = some (loc1 2) := (h9.2.1.2.2.2.1 0 (by decide)).1.2.1
      have mC0_15 : mu_i H9 mp 9 = nI ((pup pr 0 (pr 0 ++ [((tkk (nth (mth ms mi).2.2 k) 0), j)])) 0).length := (h9.2.1.2.2.2.1 0 (by decide)).1.2.2
      have mN1_15 : mu_r H9 mp 4 = some (loc1 3) := (h9.2.1.2.2.2.1 1 (by decide)).1.1
      have mI1_15 : mu_r H9 mp 3 = some (loc1 4) := (h9.2.1.2.2.2.1 1 (by decide)).1.2.1
      have mC1_15 : mu_i H9 mp 5 = nI ((pup pr 0 (pr 0 ++ [((tkk (nth (mth ms mi).2.2 k) 0), j)])) 1).length := (h9.2.1.2.2.2.1 1 (by decide)).1.2.2
      have mN2_15 : mu_r H9 mp 10 = some (loc1 5) := (h9.2.1.2.2.2.1 2 (by decide)).1.1
      have mI2_15 : mu_r H9 mp 11 = some (loc1 6) := (h9.2.1.2.2.2.1 2 (by decide)).1.2.1
      have mC2_15 : mu_i H9 mp 12 = nI ((pup pr 0 (pr 0 ++ [((tkk (nth (mth ms mi).2.2 k) 0), j)])) 2).length := (h9.2.1.2.2.2.1 2 (by decide)).1.2.2
      have mN3_15 : mu_r H9 mp 13 = some (loc1 7) := (h9.2.1.2.2.2.1 3 (by decide)).1.1
      have mI3_15 : mu_r H9 mp 14 = some (loc1 8) := (h9.2.1.2.2.2.1 3 (by decide)).1.2.1
      have mC3_15 : mu_i H9 mp 15 = nI ((pup pr 0 (pr 0 ++ [((tkk (nth (mth ms mi).2.2 k) 0), j)])) 3).length := (h9.2.1.2.2.2.1 3 (by decide)).1.2.2
      have rz15 := h9.rz
      have hipq : loc1 (9 + 4 * j) = ip := hip1
      have if16 := h9.2.1.2.2.2.2.1 j hj
      have iw3_16 : mu_r H9 ip 3 = some (loc1 (10 + 4 * j)) := by rw [← hipq]; exact if16.2.2.2.1.1
      have iw4_16 : mu_r H9 ip 4 = some (loc1 (11 + 4 * j)) := by rw [← hipq]; exact if16.2.2.2.1.2.1
      have iw5_16 : mu_r H9 ip 5 = some (loc1 (12 + 4 * j)) := by rw [← hipq]; exact if16.2.2.2.1.2.2
      have iwi_16 : mu_is H9 (some ip) 15 := by rw [← hipq]; exact if16.1
      have imi_16 : ((ivs Iv j k (-1)) j).1 = mi := him1
      have vp10_16 : mu_n H9 (loc1 (10 + 4 * j)) = (mth ms mi).2.2.length := by have := if16.2.2.2.2.1.2.1; rw [imi_16] at this; exact this
      have vp11_16 : mu_n H9 (loc1 (11 + 4 * j)) = (mth ms mi).2.2.length := by have := if16.2.2.2.2.2.1.2.1; rw [imi_16] at this; exact this
      have vp12_16 : mu_n H9 (loc1 (12 + 4 * j)) = (mth ms mi).2.2.length := by have := if16.2.2.2.2.2.2.2.1; rw [imi_16] at this; exact this
      refine mw_go mu_g458 (k := 1) (f1 := (199, [(6, .inr (.inr (some p))), (5, .inl (nI k)), (4, .inr (.inr (some ip))), (1, .inr (.inr (some m))), (0, .inr (.inr (some 169)))], [], (mu_si H9 (loc1 (12 + 4 * j)) (nI k).toNatClampNeg (nI (pr 0).length)))) (C := [mu_is H9 (some (loc1 (12 + 4 * j))) 100, vp_in (nI k) (mu_n H9 (loc1 (12 + 4 * j)))]) rfl (show (mu_is H9 (some (loc1 (12 + 4 * j))) 100) ∧ (vp_in (nI k) (mu_n H9 (loc1 (12 + 4 * j)))) from ⟨if16.2.2.2.2.2.2.1, (by rw [vp12_16]; exact vp_in_nI hk (by omega))⟩) ?_
      refine mw_fr (f' := (199, [(6, .inr (.inr (some p))), (5, .inl (nI k)), (4, .inr (.inr (some ip))), (1, .inr (.inr (some m))), (0, .inr (.inr (some 169)))], [], (mu_si H9 (loc1 (12 + 4 * j)) k (nI (pr 0).length)))) (by first | (rw [(nI_clamp (show k < 2 ^ 31 by omega))]; done) | (rw [(nI_clamp (show k < 2 ^ 31 by omega))]; rfl)) ?_
      have hKc : bmk T n0 t dep F lv r ms cap sy Hb mp (A0 + 4 * n) (B0 + n * SB) loc1 n (ids (ivs Iv j k (-1)) j k (nI (pr 0).length)) (pup pr 0 (pr 0 ++ [((tkk (nth (mth ms mi).2.2 k) 0), j)])) (en + 1) (mu_si H9 (loc1 (12 + 4 * j)) k (nI (pr 0).length)) := h9.dset hj
      obtain ⟨Kc, eKc⟩ : ∃ K, K = (mu_si H9 (loc1 (12 + 4 * j)) k (nI (pr 0).length)) := ⟨_, rfl⟩
      rw [← eKc] at hKc ⊢
      clear eKc
      show mu_W _ mu_m458 (199, [(6, .inr (.inr (some p))), (5, .inl (nI k)), (4, .inr (.inr (some ip))), (1, .inr (.inr (some m))), (0, .inr (.inr (some 169)))], [], Kc) _
      have m18_17 : mu_r Kc 169 18 = some mp := hKc.2.1.1.2.2
      have m0_17 : mu_r Kc mp 0 = some (loc1 0) := hKc.2.1.2.1.1
      have m1_17 : mu_i Kc mp 1 = nI n := hKc.2.1.2.1.2.1
      have m2_17 : mu_i Kc mp 2 = nI (en + 1) := hKc.2.1.2.1.2.2
      have mN0_17 : mu_r Kc mp 7 = some (loc1 1) := (hKc.2.1.2.2.2.1 0 (by decide)).1.1
      have mI0_17 : mu_r Kc mp 8 = some (loc1 2) := (hKc.2.1.2.2.2.1 0 (by decide)).1.2.1
      have mC0_17 : mu_i Kc mp 9 = nI ((pup pr 0 (pr 0 ++ [((tkk (nth (mth ms mi).2.2 k) 0), j)])) 0).length := (hKc.2.1.2.2.2.1 0 (by decide)).1.2.2
      have mN1_17 : mu_r Kc mp 4 = some (loc1 3) := (hKc.2.1.2.2.2.1 1 (by decide)).1.1
      have mI1_17 : mu_r Kc mp 3 = some (loc1 4) := (hKc.2.1.2.2.2.1 1 (by decide)).1.2.1
      have mC1_17 : mu_i Kc mp 5 = nI ((pup pr 0 (pr 0 ++ [((tkk (nth (mth ms mi).2.2 k) 0), j)])) 1).length := (hKc.2.1.2.2.2.1 1 (by decide)).1.2.2
      have mN2_17 : mu_r Kc mp 10 = some (loc1 5) := (hKc.2.1.2.2.2.1 2 (by decide)).1.1
      have mI2_17 : mu_r Kc mp 11 = some (loc1 6) := (hKc.2.1.2.2.2.1 2 (by decide)).1.2.1
      have mC2_17 : mu_i Kc mp 12 = nI ((pup pr 0 (pr 0 ++ [((tkk (nth (mth ms mi).2.2 k) 0), j)])) 2).length := (hKc.2.1.2.2.2.1 2 (by decide)).1.2.2
      have mN3_17 : mu_r Kc mp 13 = some (loc1 7) := (hKc.2.1.2.2.2.1 3 (by decide)).1.1
      have mI3_17 : mu_r Kc mp 14 = some (loc1 8) := (hKc.2.1.2.2.2.1 3 (by decide)).1.2.1
      have mC3_17 : mu_i Kc mp 15 = nI ((pup pr 0 (pr 0 ++ [((tkk (nth (mth ms mi).2.2 k) 0), j)])) 3).length := (hKc.2.1.2.2.2.1 3 (by decide)).1.2.2
      have rz17 := hKc.rz
      refine mw_go mu_g458 (k := 2) (f1 := (204, [(6, .inr (.inr (some p))), (5, .inl (nI k)), (4, .inr (.inr (some ip))), (1, .inr (.inr (some m))), (0, .inr (.inr (some 169)))], [.inr (.inr (some 1000073)), .inr (.inr (some p))], Kc)) (C := []) rfl trivial ?_
      refine mw_cIe (fun _ => rfl) (show mu_is Kc (some p) 18 from ((hKc.2.2.2.1).is is4 (fun z => absurd z.1 (Nat.not_le.mpr is4.2.1)))) (nd.isL (e := d + 3) (j := 73) (hKc.ndk yn3 hF) (by decide)) ?_
      refine mw_if (P := (if tkd (nth (mth ms mi).2.2 k) = 73 then 1 else 0) = 0) (a := 210) (b := 213) (fun _ => rfl) trivial (fun hi18 => ?_) (fun hi18 => ?_)
      · -- 210
        have ek18 : ¬ tkd (nth (mth ms mi).2.2 k) = 73 := fun e => by rw [if_pos e] at hi18; exact absurd hi18 (by decide)
        refine mw_go mu_g458 (k := 3) (f1 := (121, [(5, .inl ((nI k) + 1)), (6, .inr (.inr (some p))), (4, .inr (.inr (some ip))), (1, .inr (.inr (some m))), (0, .inr (.inr (some 169)))], [], Kc)) (C := []) rfl trivial ?_
        refine mw_sub (L' := [(5, .inl (nI (k + 1))), (4, .inr (.inr (some ip))), (1, .inr (.inr (some m))), (0, .inr (.inr (some 169)))]) (by intro x hx; simp only [List.mem_cons, List.not_mem_nil, or_false] at hx ⊢; rcases hx with rfl | rfl | rfl | rfl <;> simp [nI_add, show (1 : Int32) = nI 1 from rfl]) ?_
        exact rp_in2 hm0 hw hF ht0 hX hQ hmt hrec hN0 hexc hfin m_ (k + 1) _ _ _ _ _ _ (by omega) hKc hip1 hj (by unfold ids iup; rw [if_pos rfl]; exact him1) (fun s hs hs2 => (ag1 s hs).trans (hag s hs hs2)) (fun s hs => (ids_ne (by omega)).trans ((ivs_ne (by omega)).trans (hgv s hs))) (by have := hiv.1; have := hiv.2; refine ⟨?_, ?_⟩ <;> simp only [pup, List.length_append, List.length_cons, List.length_nil] <;> simp <;> omega) (by omega) (by rw [if_pos ek11] at hpe; exact hpe)
      · -- 213
        have ek18 : tkd (nth (mth ms mi).2.2 k) = 73 := Decidable.byContradiction (fun e => hi18 (if_neg e))
        exact absurd (ek11.symm.trans ek18) (by decide)
