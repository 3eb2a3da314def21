/-! The reference: find, assigns, named, temporal, param over a MODEL that stands still -/
/-- PathProverModel$Instance.param(Ljava/lang/String;)I -/
abbrev mu_m514 : ev_M := (3, (some .int), [], ev_b514)
theorem mu_g514 : mu_good mu_m514 := mu_goodk ev_k514
/-- the parameter of name b -/
def fpm (ps : List Tre) (b : List Int32) : Option Nat := fio (fun k => decide (nam (nth ps k) = b)) ps.length 0
theorem rq_find0 {d lv m s j : Nat} {Hb H : mu_H} {G : Nat → Prop} {y : Mdl} {b : List Int32} (ha : agr Hb G H) (hm : mdf Hb G lv m y) (hw : alp ptw y.2.2) (hs : stf H G s b) (h79 : j < 79) : ∀ m_ k, k + m_ = y.2.2.length → mu_W (mu_D (d + 3)) mu_m431 (2, [(3, .inl (nI k)), (2, .inr (.inr (some s))), (1, .inr (.inr (some (1000000 + j)))), (0, .inr (.inr (some m)))], [], H) (fun r => ∃ x H1, r = (.inl (some (.inl x)), H1) ∧ x = oI (fio (fun k => decide (tkd (nth y.2.2 k) = j ∧ nam (nth y.2.2 k) = b)) m_ k) ∧ H1 = H)
  | 0, k, hm_ => by
    obtain ⟨mi1, ⟨mw1, mr0_1, ms1⟩, ⟨mp1, mr1_1, mpn1⟩, mq1, mr2_1, mqn1⟩ := mdf.ra (y := y) hm ha
    obtain ⟨kd2, ⟨is2, nF2, lt2⟩, ⟨st2, sr2, sf2⟩, ⟨n2_2, n3_2, n7_2⟩, nm2, ar2, aq2, aF2, ai2, ⟨al2, am2, ax2⟩, ch2, dp2⟩ := nd.ra (c := (tmk 67 0 [] y.2.2)) mqn1 ha
    refine mw_go mu_g431 (k := 3) (f1 := (7, [(3, .inl (nI k)), (2, .inr (.inr (some s))), (1, .inr (.inr (some (1000000 + j)))), (0, .inr (.inr (some m)))], [.inr (.inr (mu_r H m 2)), .inl (nI k)], H)) (C := [mu_is H (some m) 17]) rfl (show mu_is H (some m) 17 from mi1) ?_
    refine mw_fr (f' := (7, [(3, .inl (nI k)), (2, .inr (.inr (some s))), (1, .inr (.inr (some (1000000 + j)))), (0, .inr (.inr (some m)))], [.inr (.inr (some mq1)), .inl (nI k)], H)) (by first | (rw [mr2_1]; done) | (rw [mr2_1]; rfl)) ?_
    refine mw_go mu_g431 (k := 1) (f1 := (10, [(3, .inl (nI k)), (2, .inr (.inr (some s))), (1, .inr (.inr (some (1000000 + j)))), (0, .inr (.inr (some m)))], [.inl (mu_i H mq1 2), .inl (nI k)], H)) (C := [mu_is H (some mq1) 18]) rfl (show mu_is H (some mq1) 18 from is2) ?_
    refine mw_fr (f' := (10, [(3, .inl (nI k)), (2, .inr (.inr (some s))), (1, .inr (.inr (some (1000000 + j)))), (0, .inr (.inr (some m)))], [.inl (nI y.2.2.length), .inl (nI k)], H)) (by first | (rw [n2_2]; done) | (rw [n2_2]; rfl)) ?_
    refine mw_if (P := (nI k) < (nI y.2.2.length)) (a := 13) (b := 58) (fun _ => rfl) trivial (fun h1 => absurd h1 (by rw [show k = y.2.2.length by omega]; exact Int32.lt_irrefl)) (fun h1 => ?_)
    refine mw_go mu_g431 (k := 1) (f1 := (59, [(3, .inl (nI k)), (2, .inr (.inr (some s))), (1, .inr (.inr (some (1000000 + j)))), (0, .inr (.inr (some m)))], [.inl (-1 : Int32)], H)) (C := []) rfl trivial ?_
    exact mw_of (fun _ => mu_ret rfl trivial ⟨_, _, rfl, rfl, rfl⟩)
  | m_ + 1, k, hm_ => by
    obtain ⟨mi1, ⟨mw1, mr0_1, ms1⟩, ⟨mp1, mr1_1, mpn1⟩, mq1, mr2_1, mqn1⟩ := mdf.ra (y := y) hm ha
    obtain ⟨kd2, ⟨is2, nF2, lt2⟩, ⟨st2, sr2, sf2⟩, ⟨n2_2, n3_2, n7_2⟩, nm2, ar2, aq2, aF2, ai2, ⟨al2, am2, ax2⟩, ch2, dp2⟩ := nd.ra (c := (tmk 67 0 [] y.2.2)) mqn1 ha
    have hk : k < y.2.2.length := by omega
    have hl : y.2.2.length ≤ 2 ^ 21 := Nat.le_trans al2 ax2
    have hp := (hw k hk).1.1
    have hp0 : 0 < (tns (nth y.2.2 k)).length := by rw [hp]; exact Nat.one_pos
    refine mw_go mu_g431 (k := 3) (f1 := (7, [(3, .inl (nI k)), (2, .inr (.inr (some s))), (1, .inr (.inr (some (1000000 + j)))), (0, .inr (.inr (some m)))], [.inr (.inr (mu_r H m 2)), .inl (nI k)], H)) (C := [mu_is H (some m) 17]) rfl (show mu_is H (some m) 17 from mi1) ?_
    refine mw_fr (f' := (7, [(3, .inl (nI k)), (2, .inr (.inr (some s))), (1, .inr (.inr (some (1000000 + j)))), (0, .inr (.inr (some m)))], [.inr (.inr (some mq1)), .inl (nI k)], H)) (by first | (rw [mr2_1]; done) | (rw [mr2_1]; rfl)) ?_
    refine mw_go mu_g431 (k := 1) (f1 := (10, [(3, .inl (nI k)), (2, .inr (.inr (some s))), (1, .inr (.inr (some (1000000 + j)))), (0, .inr (.inr (some m)))], [.inl (mu_i H mq1 2), .inl (nI k)], H)) (C := [mu_is H (some mq1) 18]) rfl (show mu_is H (some mq1) 18 from is2) ?_
    refine mw_fr (f' := (10, [(3, .inl (nI k)), (2, .inr (.inr (some s))), (1, .inr (.inr (some (1000000 + j)))), (0, .inr (.inr (some m)))], [.inl (nI y.2.2.length), .inl (nI k)], H)) (by first | (rw [n2_2]; done) | (rw [n2_2]; rfl)) ?_
    refine mw_if (P := (nI k) < (nI y.2.2.length)) (a := 13) (b := 58) (fun _ => rfl) trivial (fun h1 => ?_) (fun h1 => absurd (nI_lt hk (by omega)) h1)
    obtain ⟨p, yr3, yn3⟩ := ch2 k hk
    have yn3 : nd Hb G (lv - 1) p (nth y.2.2 k) := yn3
    obtain ⟨b1_3, b2_3, b3_3, b4_3⟩ := ar_at ai2 (by decide) (Nat.lt_of_lt_of_le hk al2) (Nat.lt_of_le_of_lt ax2 (by decide))
    have y2_3 : mu_r H ar2 (nI k).toNatClampNeg = some p := by rw [b4_3]; exact yr3
    obtain ⟨kd4, ⟨is4, nF4, lt4⟩, ⟨st4, sr4, sf4⟩, ⟨n2_4, n3_4, n7_4⟩, nm4, ar4, aq4, aF4, ai4, ⟨al4, am4, ax4⟩, ch4, dp4⟩ := nd.ra (c := (nth y.2.2 k)) yn3 ha
    obtain ⟨nb5, nr5, nbF5, ni5, nn5, nl5, nk5⟩ := nm4.rd hp0
    obtain ⟨ns5, nz5, nf5⟩ := nk5 0 hp0
    obtain ⟨c1_5, c2_5, c3_5, c4_5⟩ := ar_at (i := 0) ni5 (by decide) (by rw [nn5]; exact hp0) (by rw [nn5]; omega)
    have nx5 : mu_r H nb5 (0 : Int32).toNatClampNeg = some ns5 := nz5
    refine mw_go mu_g431 (k := 2) (f1 := (17, [(3, .inl (nI k)), (2, .inr (.inr (some s))), (1, .inr (.inr (some (1000000 + j)))), (0, .inr (.inr (some m)))], [.inr (.inr (mu_r H m 2))], H)) (C := [mu_is H (some m) 17]) rfl (show mu_is H (some m) 17 from mi1) ?_
    refine mw_fr (f' := (17, [(3, .inl (nI k)), (2, .inr (.inr (some s))), (1, .inr (.inr (some (1000000 + j)))), (0, .inr (.inr (some m)))], [.inr (.inr (some mq1))], H)) (by first | (rw [mr2_1]; done) | (rw [mr2_1]; rfl)) ?_
    refine mw_go mu_g431 (k := 1) (f1 := (20, [(3, .inl (nI k)), (2, .inr (.inr (some s))), (1, .inr (.inr (some (1000000 + j)))), (0, .inr (.inr (some m)))], [.inr (.inr (mu_r H mq1 1))], H)) (C := [mu_is H (some mq1) 18]) rfl (show mu_is H (some mq1) 18 from is2) ?_
    refine mw_fr (f' := (20, [(3, .inl (nI k)), (2, .inr (.inr (some s))), (1, .inr (.inr (some (1000000 + j)))), (0, .inr (.inr (some m)))], [.inr (.inr (some ar2))], H)) (by first | (rw [aq2]; done) | (rw [aq2]; rfl)) ?_
    refine mw_go mu_g431 (k := 2) (f1 := (22, [(3, .inl (nI k)), (2, .inr (.inr (some s))), (1, .inr (.inr (some (1000000 + j)))), (0, .inr (.inr (some m)))], [.inr (.inr (mu_r H ar2 (nI k).toNatClampNeg))], H)) (C := [mu_is H (some ar2) (mu_k H ar2), 103 ≤ mu_k H ar2 ∧ mu_k H ar2 ≤ 110 ∧ mu_k H ar2 ≠ 108, vp_in (nI k) (mu_n H ar2)]) rfl (show (mu_is H (some ar2) (mu_k H ar2)) ∧ (103 ≤ mu_k H ar2 ∧ mu_k H ar2 ≤ 110 ∧ mu_k H ar2 ≠ 108) ∧ (vp_in (nI k) (mu_n H ar2)) from ⟨b1_3, b2_3, b3_3⟩) ?_
    refine mw_fr (f' := (22, [(3, .inl (nI k)), (2, .inr (.inr (some s))), (1, .inr (.inr (some (1000000 + j)))), (0, .inr (.inr (some m)))], [.inr (.inr (some p))], H)) (by first | (rw [y2_3]; done) | (rw [y2_3]; rfl)) ?_
    refine mw_go mu_g431 (k := 1) (f1 := (23, [(3, .inl (nI k)), (2, .inr (.inr (some s))), (1, .inr (.inr (some (1000000 + j)))), (0, .inr (.inr (some m)))], [.inr (.inr (some (1000000 + j))), .inr (.inr (some p))], H)) (C := []) rfl trivial ?_
    refine mw_cIe (fun _ => rfl) (show mu_is H (some p) 18 from is4) (agr.isL (e := d) (j := j) yn3 ha h79) ?_
    refine mw_if (P := (if tkd (nth y.2.2 k) = j then 1 else 0) = 0) (a := 52) (b := 29) (fun _ => rfl) trivial (fun hi6 => ?_) (fun hi6 => ?_)
    · -- 52
      have ek6 : ¬ tkd (nth y.2.2 k) = j := fun e => by rw [if_pos e] at hi6; exact absurd hi6 (by decide)
      refine mw_go mu_g431 (k := 2) (f1 := (2, [(3, .inl ((nI k) + 1)), (2, .inr (.inr (some s))), (1, .inr (.inr (some (1000000 + j)))), (0, .inr (.inr (some m)))], [], H)) (C := []) rfl trivial ?_
      refine mw_sub (L' := [(3, .inl (nI (k + 1))), (2, .inr (.inr (some s))), (1, .inr (.inr (some (1000000 + j)))), (0, .inr (.inr (some m)))]) (by intro x hx; simp only [List.mem_cons, List.not_mem_nil, or_false] at hx ⊢; rcases hx with rfl | rfl | rfl | rfl <;> simp [nI_add, show (1 : Int32) = nI 1 from rfl]) ?_
      rw [fio, if_neg (show ¬ decide (tkd (nth y.2.2 k) = j ∧ nam (nth y.2.2 k) = b) = true by rw [decide_eq_true_iff]; exact fun z => ek6 z.1)]
      exact rq_find0 ha hm hw hs h79 m_ (k + 1) (by omega)
    · -- 29
      have ek6 : tkd (nth y.2.2 k) = j := Decidable.byContradiction (fun e => hi6 (if_neg e))
      refine mw_go mu_g431 (k := 2) (f1 := (33, [(3, .inl (nI k)), (2, .inr (.inr (some s))), (1, .inr (.inr (some (1000000 + j)))), (0, .inr (.inr (some m)))], [.inr (.inr (mu_r H m 2))], H)) (C := [mu_is H (some m) 17]) rfl (show mu_is H (some m) 17 from mi1) ?_
      refine mw_fr (f' := (33, [(3, .inl (nI k)), (2, .inr (.inr (some s))), (1, .inr (.inr (some (1000000 + j)))), (0, .inr (.inr (some m)))], [.inr (.inr (some mq1))], H)) (by first | (rw [mr2_1]; done) | (rw [mr2_1]; rfl)) ?_
      refine mw_go mu_g431 (k := 1) (f1 := (36, [(3, .inl (nI k)), (2, .inr (.inr (some s))), (1, .inr (.inr (some (1000000 + j)))), (0, .inr (.inr (some m)))], [.inr (.inr (mu_r H mq1 1))], H)) (C := [mu_is H (some mq1) 18]) rfl (show mu_is H (some mq1) 18 from is2) ?_
      refine mw_fr (f' := (36, [(3, .inl (nI k)), (2, .inr (.inr (some s))), (1, .inr (.inr (some (1000000 + j)))), (0, .inr (.inr (some m)))], [.inr (.inr (some ar2))], H)) (by first | (rw [aq2]; done) | (rw [aq2]; rfl)) ?_
      refine mw_go mu_g431 (k := 2) (f1 := (38, [(3, .inl (nI k)), (2, .inr (.inr (some s))), (1, .inr (.inr (some (1000000 + j)))), (0, .inr (.inr (some m)))], [.inr (.inr (mu_r H ar2 (nI k).toNatClampNeg))], H)) (C := [mu_is H (some ar2) (mu_k H ar2), 103 ≤ mu_k H ar2 ∧ mu_k H ar2 ≤ 110 ∧ mu_k H ar2 ≠ 108, vp_in (nI k) (mu_n H ar2)]) rfl (show (mu_is H (some ar2) (mu_k H ar2)) ∧ (103 ≤ mu_k H ar2 ∧ mu_k H ar2 ≤ 110 ∧ mu_k H ar2 ≠ 108) ∧ (vp_in (nI k) (mu_n H ar2)) from ⟨b1_3, b2_3, b3_3⟩) ?_
      refine mw_fr (f' := (38, [(3, .inl (nI k)), (2, .inr (.inr (some s))), (1, .inr (.inr (some (1000000 + j)))), (0, .inr (.inr (some m)))], [.inr (.inr (some p))], H)) (by first | (rw [y2_3]; done) | (rw [y2_3]; rfl)) ?_
      refine mw_go mu_g431 (k := 1) (f1 := (41, [(3, .inl (nI k)), (2, .inr (.inr (some s))), (1, .inr (.inr (some (1000000 + j)))), (0, .inr (.inr (some m)))], [.inr (.inr (mu_r H p 4))], H)) (C := [mu_is H (some p) 18]) rfl (show mu_is H (some p) 18 from is4) ?_
      refine mw_fr (f' := (41, [(3, .inl (nI k)), (2, .inr (.inr (some s))), (1, .inr (.inr (some (1000000 + j)))), (0, .inr (.inr (some m)))], [.inr (.inr (some nb5))], H)) (by first | (rw [nr5]; done) | (rw [nr5]; rfl)) ?_
      refine mw_go mu_g431 (k := 2) (f1 := (43, [(3, .inl (nI k)), (2, .inr (.inr (some s))), (1, .inr (.inr (some (1000000 + j)))), (0, .inr (.inr (some m)))], [.inr (.inr (mu_r H nb5 (0 : Int32).toNatClampNeg))], H)) (C := [mu_is H (some nb5) (mu_k H nb5), 103 ≤ mu_k H nb5 ∧ mu_k H nb5 ≤ 110 ∧ mu_k H nb5 ≠ 108, vp_in (0 : Int32) (mu_n H nb5)]) rfl (show (mu_is H (some nb5) (mu_k H nb5)) ∧ (103 ≤ mu_k H nb5 ∧ mu_k H nb5 ≤ 110 ∧ mu_k H nb5 ≠ 108) ∧ (vp_in (0 : Int32) (mu_n H nb5)) from ⟨c1_5, c2_5, c3_5⟩) ?_
      refine mw_fr (f' := (43, [(3, .inl (nI k)), (2, .inr (.inr (some s))), (1, .inr (.inr (some (1000000 + j)))), (0, .inr (.inr (some m)))], [.inr (.inr (some ns5))], H)) (by first | (rw [nx5]; done) | (rw [nx5]; rfl)) ?_
      refine mw_go mu_g431 (k := 1) (f1 := (44, [(3, .inl (nI k)), (2, .inr (.inr (some s))), (1, .inr (.inr (some (1000000 + j)))), (0, .inr (.inr (some m)))], [.inr (.inr (some s)), .inr (.inr (some ns5))], H)) (C := []) rfl trivial ?_
      refine mw_cS rfl (by decide) nf5.1.1 (sb_equals (d := d + 1) nf5.1 hs.1 (Nat.lt_trans nf5.2.2 (by decide)) (Nat.lt_trans hs.2.2 (by decide))) (fun x9 H9 q9 => ?_)
      rw [q9.1, q9.2]
      clear q9 H9 x9
      show mu_W _ mu_m431 (47, [(3, .inl (nI k)), (2, .inr (.inr (some s))), (1, .inr (.inr (some (1000000 + j)))), (0, .inr (.inr (some m)))], [.inl (if (nam (nth y.2.2 k)) = b then 1 else 0)], H) _
      refine mw_if (P := (if (nam (nth y.2.2 k)) = b then 1 else 0) = 0) (a := 52) (b := 50) (fun _ => rfl) trivial (fun hi7 => ?_) (fun hi7 => ?_)
      · -- 52
        have ek7 : ¬ (nam (nth y.2.2 k)) = b := fun e => by rw [if_pos e] at hi7; exact absurd hi7 (by decide)
        refine mw_go mu_g431 (k := 2) (f1 := (2, [(3, .inl ((nI k) + 1)), (2, .inr (.inr (some s))), (1, .inr (.inr (some (1000000 + j)))), (0, .inr (.inr (some m)))], [], H)) (C := []) rfl trivial ?_
        refine mw_sub (L' := [(3, .inl (nI (k + 1))), (2, .inr (.inr (some s))), (1, .inr (.inr (some (1000000 + j)))), (0, .inr (.inr (some m)))]) (by intro x hx; simp only [List.mem_cons, List.not_mem_nil, or_false] at hx ⊢; rcases hx with rfl | rfl | rfl | rfl <;> simp [nI_add, show (1 : Int32) = nI 1 from rfl]) ?_
        rw [fio, if_neg (show ¬ decide (tkd (nth y.2.2 k) = j ∧ nam (nth y.2.2 k) = b) = true by rw [decide_eq_true_iff]; exact fun z => ek7 z.2)]
        exact rq_find0 ha hm hw hs h79 m_ (k + 1) (by omega)
      · -- 50
        have ek7 : (nam (nth y.2.2 k)) = b := Decidable.byContradiction (fun e => hi7 (if_neg e))
        refine mw_go mu_g431 (k := 1) (f1 := (51, [(3, .inl (nI k)), (2, .inr (.inr (some s))), (1, .inr (.inr (some (1000000 + j)))), (0, .inr (.inr (some m)))], [.inl (nI k)], H)) (C := []) rfl trivial ?_
        exact mw_of (fun _ => mu_ret rfl trivial ⟨_, _, rfl, (by rw [fio, if_pos (show decide (tkd (nth y.2.2 k) = j ∧ nam (nth y.2.2 k) = b) = true by rw [decide_eq_true_iff]; exact ⟨ek6, ek7⟩)]; rfl), rfl⟩)
theorem rq_find {d lv m s j : Nat} {Hb H : mu_H} {G : Nat → Prop} {y : Mdl} {b : List Int32} (ha : agr Hb G H) (hm : mdf Hb G lv m y) (hw : alp ptw y.2.2) (hs : stf H G s b) (h79 : j < 79) : mu_TI (mu_D (d + 4)) 431 [.inr (.inr (some m)), .inr (.inr (some (1000000 + j))), .inr (.inr (some s))] H (fun x H1 => x = oI (fnd y.2.2 j b) ∧ H1 = H) := by
  refine mu_meth (M := mu_m431) rfl rfl ?_
  refine mw_ht (mu_fn_of (show [0, 1, 2].Nodup by decide)) ?_
  refine mw_go mu_g431 (k := 2) (f1 := (2, [(3, .inl (0 : Int32)), (0, .inr (.inr (some m))), (1, .inr (.inr (some (1000000 + j)))), (2, .inr (.inr (some s)))], [], H)) (C := []) rfl trivial ?_
  refine mw_sub (L' := [(3, .inl (nI 0)), (2, .inr (.inr (some s))), (1, .inr (.inr (some (1000000 + j)))), (0, .inr (.inr (some m)))]) (by simp [nI]) ?_
  exact rq_find0 ha hm hw hs h79 y.2.2.length 0 (Nat.zero_add _)
theorem rq_assigns {d dd p : Nat} {Hb H : mu_H} {G : Nat → Prop} {c : Tre} (hp : nd Hb G dd p c) (ha : agr Hb G H) : mu_TI (mu_D (d + 4)) 468 [.inr (.inr (some 169)), .inr (.inr (some p))] H (fun x H1 => x = (if tkd c ∈ [32, 33, 75] then 1 else 0) ∧ H1 = H) := by
  refine mu_meth (M := mu_m468) rfl rfl ?_
  refine mw_ht (mu_fn_of (show [0, 1].Nodup by decide)) ?_
  obtain ⟨kd1, ⟨is1, nF1, lt1⟩, ⟨st1, sr1, sf1⟩, ⟨n2_1, n3_1, n7_1⟩, nm1, ar1, aq1, aF1, ai1, ⟨al1, am1, ax1⟩, ch1, dp1⟩ := nd.ra (c := c) hp ha
  refine mw_go mu_g468 (k := 2) (f1 := (3, [(0, .inr (.inr (some 169))), (1, .inr (.inr (some p)))], [.inr (.inr (some 1000032)), .inr (.inr (some p))], H)) (C := []) rfl trivial ?_
  refine mw_cIe (fun _ => rfl) (show mu_is H (some p) 18 from is1) (agr.isL (e := d) (j := 32) hp ha (by decide)) ?_
  refine mw_if (P := (if tkd c = 32 then 1 else 0) = 0) (a := 9) (b := 28) (fun _ => rfl) trivial (fun hi2 => ?_) (fun hi2 => ?_)
  · -- 9
    have ek2 : ¬ tkd c = 32 := fun e => by rw [if_pos e] at hi2; exact absurd hi2 (by decide)
    refine mw_go mu_g468 (k := 2) (f1 := (12, [(0, .inr (.inr (some 169))), (1, .inr (.inr (some p)))], [.inr (.inr (some 1000033)), .inr (.inr (some p))], H)) (C := []) rfl trivial ?_
    refine mw_cIe (fun _ => rfl) (show mu_is H (some p) 18 from is1) (agr.isL (e := d) (j := 33) hp ha (by decide)) ?_
    refine mw_if (P := (if tkd c = 33 then 1 else 0) = 0) (a := 18) (b := 28) (fun _ => rfl) trivial (fun hi3 => ?_) (fun hi3 => ?_)
    · -- 18
      have ek3 : ¬ tkd c = 33 := fun e => by rw [if_pos e] at hi3; exact absurd hi3 (by decide)
      refine mw_go mu_g468 (k := 2) (f1 := (22, [(0, .inr (.inr (some 169))), (1, .inr (.inr (some p)))], [.inr (.inr (some 1000075)), .inr (.inr (some p))], H)) (C := []) rfl trivial ?_
      refine mw_cIe (fun _ => rfl) (show mu_is H (some p) 18 from is1) (agr.isL (e := d) (j := 75) hp ha (by decide)) ?_
      refine mw_if (P := (if tkd c = 75 then 1 else 0) = 0) (a := 32) (b := 28) (fun _ => rfl) trivial (fun hi4 => ?_) (fun hi4 => ?_)
      · -- 32
        have ek4 : ¬ tkd c = 75 := fun e => by rw [if_pos e] at hi4; exact absurd hi4 (by decide)
        refine mw_go mu_g468 (k := 1) (f1 := (33, [(0, .inr (.inr (some 169))), (1, .inr (.inr (some p)))], [.inl (0 : Int32)], H)) (C := []) rfl trivial ?_
        exact mw_of (fun _ => mu_ret rfl (Or.inl rfl) ⟨_, _, rfl, (by rw [if_neg (show ¬ tkd c ∈ [32, 33, 75] by simp only [List.mem_cons, List.not_mem_nil, or_false, not_or]; exact ⟨ek2, ek3, ek4⟩)]), rfl⟩)
      · -- 28
        have ek4 : tkd c = 75 := Decidable.byContradiction (fun e => hi4 (if_neg e))
        refine mw_go mu_g468 (k := 2) (f1 := (33, [(0, .inr (.inr (some 169))), (1, .inr (.inr (some p)))], [.inl (1 : Int32)], H)) (C := []) rfl trivial ?_
        exact mw_of (fun _ => mu_ret rfl (Or.inr rfl) ⟨_, _, rfl, (by rw [if_pos (show tkd c ∈ [32, 33, 75] by rw [ek4]; decide)]), rfl⟩)
    · -- 28
      have ek3 : tkd c = 33 := Decidable.byContradiction (fun e => hi3 (if_neg e))
      refine mw_go mu_g468 (k := 2) (f1 := (33, [(0, .inr (.inr (some 169))), (1, .inr (.inr (some p)))], [.inl (1 : Int32)], H)) (C := []) rfl trivial ?_
      exact mw_of (fun _ => mu_ret rfl (Or.inr rfl) ⟨_, _, rfl, (by rw [if_pos (show tkd c ∈ [32, 33, 75] by rw [ek3]; decide)]), rfl⟩)
  · -- 28
    have ek2 : tkd c = 32 := Decidable.byContradiction (fun e => hi2 (if_neg e))
    refine mw_go mu_g468 (k := 2) (f1 := (33, [(0, .inr (.inr (some 169))), (1, .inr (.inr (some p)))], [.inl (1 : Int32)], H)) (C := []) rfl trivial ?_
    exact mw_of (fun _ => mu_ret rfl (Or.inr rfl) ⟨_, _, rfl, (by rw [if_pos (show tkd c ∈ [32, 33, 75] by rw [ek2]; decide)]), rfl⟩)
theorem rq_named {d dd p : Nat} {Hb H : mu_H} {G : Nat → Prop} {c : Tre} (hp : nd Hb G dd p c) (ha : agr Hb G H) : mu_TI (mu_D (d + 4)) 477 [.inr (.inr (some 169)), .inr (.inr (some p))] H (fun x H1 => x = (if tkd c ∈ [64, 33] then 1 else 0) ∧ H1 = H) := by
  refine mu_meth (M := mu_m477) rfl rfl ?_
  refine mw_ht (mu_fn_of (show [0, 1].Nodup by decide)) ?_
  obtain ⟨kd1, ⟨is1, nF1, lt1⟩, ⟨st1, sr1, sf1⟩, ⟨n2_1, n3_1, n7_1⟩, nm1, ar1, aq1, aF1, ai1, ⟨al1, am1, ax1⟩, ch1, dp1⟩ := nd.ra (c := c) hp ha
  refine mw_go mu_g477 (k := 2) (f1 := (4, [(0, .inr (.inr (some 169))), (1, .inr (.inr (some p)))], [.inr (.inr (some 1000064)), .inr (.inr (some p))], H)) (C := []) rfl trivial ?_
  refine mw_cIe (fun _ => rfl) (show mu_is H (some p) 18 from is1) (agr.isL (e := d) (j := 64) hp ha (by decide)) ?_
  refine mw_if (P := (if tkd c = 64 then 1 else 0) = 0) (a := 10) (b := 19) (fun _ => rfl) trivial (fun hi2 => ?_) (fun hi2 => ?_)
  · -- 10
    have ek2 : ¬ tkd c = 64 := fun e => by rw [if_pos e] at hi2; exact absurd hi2 (by decide)
    refine mw_go mu_g477 (k := 2) (f1 := (13, [(0, .inr (.inr (some 169))), (1, .inr (.inr (some p)))], [.inr (.inr (some 1000033)), .inr (.inr (some p))], H)) (C := []) rfl trivial ?_
    refine mw_cIe (fun _ => rfl) (show mu_is H (some p) 18 from is1) (agr.isL (e := d) (j := 33) hp ha (by decide)) ?_
    refine mw_if (P := (if tkd c = 33 then 1 else 0) = 0) (a := 23) (b := 19) (fun _ => rfl) trivial (fun hi3 => ?_) (fun hi3 => ?_)
    · -- 23
      have ek3 : ¬ tkd c = 33 := fun e => by rw [if_pos e] at hi3; exact absurd hi3 (by decide)
      refine mw_go mu_g477 (k := 1) (f1 := (24, [(0, .inr (.inr (some 169))), (1, .inr (.inr (some p)))], [.inl (0 : Int32)], H)) (C := []) rfl trivial ?_
      exact mw_of (fun _ => mu_ret rfl (Or.inl rfl) ⟨_, _, rfl, (by rw [if_neg (show ¬ tkd c ∈ [64, 33] by simp only [List.mem_cons, List.not_mem_nil, or_false, not_or]; exact ⟨ek2, ek3⟩)]), rfl⟩)
    · -- 19
      have ek3 : tkd c = 33 := Decidable.byContradiction (fun e => hi3 (if_neg e))
      refine mw_go mu_g477 (k := 2) (f1 := (24, [(0, .inr (.inr (some 169))), (1, .inr (.inr (some p)))], [.inl (1 : Int32)], H)) (C := []) rfl trivial ?_
      exact mw_of (fun _ => mu_ret rfl (Or.inr rfl) ⟨_, _, rfl, (by rw [if_pos (show tkd c ∈ [64, 33] by rw [ek3]; decide)]), rfl⟩)
  · -- 19
    have ek2 : tkd c = 64 := Decidable.byContradiction (fun e => hi2 (if_neg e))
    refine mw_go mu_g477 (k := 2) (f1 := (24, [(0, .inr (.inr (some 169))), (1, .inr (.inr (some p)))], [.inl (1 : Int32)], H)) (C := []) rfl trivial ?_
    exact mw_of (fun _ => mu_ret rfl (Or.inr rfl) ⟨_, _, rfl, (by rw [if_pos (show tkd c ∈ [64, 33] by rw [ek2]; decide)]), rfl⟩)
theorem rq_temporal {d dd p : Nat} {Hb H : mu_H} {G : Nat → Prop} {c : Tre} (hp : nd Hb G dd p c) (ha : agr Hb G H) : mu_TI (mu_D (d + 4)) 443 [.inr (.inr (some 169)), .inr (.inr (some p))] H (fun x H1 => x = (if tkd c ∈ [41, 42, 43, 44, 45, 46, 47, 48] then 1 else 0) ∧ H1 = H) := by
  refine mu_meth (M := mu_m443) rfl rfl ?_
  refine mw_ht (mu_fn_of (show [0, 1].Nodup by decide)) ?_
  obtain ⟨kd1, ⟨is1, nF1, lt1⟩, ⟨st1, sr1, sf1⟩, ⟨n2_1, n3_1, n7_1⟩, nm1, ar1, aq1, aF1, ai1, ⟨al1, am1, ax1⟩, ch1, dp1⟩ := nd.ra (c := c) hp ha
  refine mw_go mu_g443 (k := 2) (f1 := (3, [(0, .inr (.inr (some 169))), (1, .inr (.inr (some p)))], [.inr (.inr (some 1000041)), .inr (.inr (some p))], H)) (C := []) rfl trivial ?_
  refine mw_cIe (fun _ => rfl) (show mu_is H (some p) 18 from is1) (agr.isL (e := d) (j := 41) hp ha (by decide)) ?_
  refine mw_if (P := (if tkd c = 41 then 1 else 0) = 0) (a := 9) (b := 72) (fun _ => rfl) trivial (fun hi2 => ?_) (fun hi2 => ?_)
  · -- 9
    have ek2 : ¬ tkd c = 41 := fun e => by rw [if_pos e] at hi2; exact absurd hi2 (by decide)
    refine mw_go mu_g443 (k := 2) (f1 := (12, [(0, .inr (.inr (some 169))), (1, .inr (.inr (some p)))], [.inr (.inr (some 1000042)), .inr (.inr (some p))], H)) (C := []) rfl trivial ?_
    refine mw_cIe (fun _ => rfl) (show mu_is H (some p) 18 from is1) (agr.isL (e := d) (j := 42) hp ha (by decide)) ?_
    refine mw_if (P := (if tkd c = 42 then 1 else 0) = 0) (a := 18) (b := 72) (fun _ => rfl) trivial (fun hi3 => ?_) (fun hi3 => ?_)
    · -- 18
      have ek3 : ¬ tkd c = 42 := fun e => by rw [if_pos e] at hi3; exact absurd hi3 (by decide)
      refine mw_go mu_g443 (k := 2) (f1 := (21, [(0, .inr (.inr (some 169))), (1, .inr (.inr (some p)))], [.inr (.inr (some 1000043)), .inr (.inr (some p))], H)) (C := []) rfl trivial ?_
      refine mw_cIe (fun _ => rfl) (show mu_is H (some p) 18 from is1) (agr.isL (e := d) (j := 43) hp ha (by decide)) ?_
      refine mw_if (P := (if tkd c = 43 then 1 else 0) = 0) (a := 27) (b := 72) (fun _ => rfl) trivial (fun hi4 => ?_) (fun hi4 => ?_)
      · -- 27
        have ek4 : ¬ tkd c = 43 := fun e => by rw [if_pos e] at hi4; exact absurd hi4 (by decide)
        refine mw_go mu_g443 (k := 2) (f1 := (30, [(0, .inr (.inr (some 169))), (1, .inr (.inr (some p)))], [.inr (.inr (some 1000044)), .inr (.inr (some p))], H)) (C := []) rfl trivial ?_
        refine mw_cIe (fun _ => rfl) (show mu_is H (some p) 18 from is1) (agr.isL (e := d) (j := 44) hp ha (by decide)) ?_
        refine mw_if (P := (if tkd c = 44 then 1 else 0) = 0) (a := 36) (b := 72) (fun _ => rfl) trivial (fun hi5 => ?_) (fun hi5 => ?_)
        · -- 36
          have ek5 : ¬ tkd c = 44 := fun e => by rw [if_pos e] at hi5; exact absurd hi5 (by decide)
          refine mw_go mu_g443 (k := 2) (f1 := (39, [(0, .inr (.inr (some 169))), (1, .inr (.inr (some p)))], [.inr (.inr (some 1000045)), .inr (.inr (some p))], H)) (C := []) rfl trivial ?_
          refine mw_cIe (fun _ => rfl) (show mu_is H (some p) 18 from is1) (agr.isL (e := d) (j := 45) hp ha (by decide)) ?_
          refine mw_if (P := (if tkd c = 45 then 1 else 0) = 0) (a := 45) (b := 72) (fun _ => rfl) trivial (fun hi6 => ?_) (fun hi6 => ?_)
          · -- 45
            have ek6 : ¬ tkd c = 45 := fun e => by rw [if_pos e] at hi6; exact absurd hi6 (by decide)
            refine mw_go mu_g443 (k := 2) (f1 := (48, [(0, .inr (.inr (some 169))), (1, .inr (.inr (some p)))], [.inr (.inr (some 1000046)), .inr (.inr (some p))], H)) (C := []) rfl trivial ?_
            refine mw_cIe (fun _ => rfl) (show mu_is H (some p) 18 from is1) (agr.isL (e := d) (j := 46) hp ha (by decide)) ?_
            refine mw_if (P := (if tkd c = 46 then 1 else 0) = 0) (a := 54) (b := 72) (fun _ => rfl) trivial (fun hi7 => ?_) (fun hi7 => ?_)
            · -- 54
              have ek7 : ¬ tkd c = 46 := fun e => by rw [if_pos e] at hi7; exact absurd hi7 (by decide)
              refine mw_go mu_g443 (k := 2) (f1 := (57, [(0, .inr (.inr (some 169))), (1, .inr (.inr (some p)))], [.inr (.inr (some 1000047)), .inr (.inr (some p))], H)) (C := []) rfl trivial ?_
              refine mw_cIe (fun _ => rfl) (show mu_is H (some p) 18 from is1) (agr.isL (e := d) (j := 47) hp ha (by decide)) ?_
              refine mw_if (P := (if tkd c = 47 then 1 else 0) = 0) (a := 63) (b := 72) (fun _ => rfl) trivial (fun hi8 => ?_) (fun hi8 => ?_)
              · -- 63
                have ek8 : ¬ tkd c = 47 := fun e => by rw [if_pos e] at hi8; exact absurd hi8 (by decide)
                refine mw_go mu_g443 (k := 2) (f1 := (66, [(0, .inr (.inr (some 169))), (1, .inr (.inr (some p)))], [.inr (.inr (some 1000048)), .inr (.inr (some p))], H)) (C := []) rfl trivial ?_
                refine mw_cIe (fun _ => rfl) (show mu_is H (some p) 18 from is1) (agr.isL (e := d) (j := 48) hp ha (by decide)) ?_
                refine mw_if (P := (if tkd c = 48 then 1 else 0) = 0) (a := 76) (b := 72) (fun _ => rfl) trivial (fun hi9 => ?_) (fun hi9 => ?_)
                · -- 76
                  have ek9 : ¬ tkd c = 48 := fun e => by rw [if_pos e] at hi9; exact absurd hi9 (by decide)
                  refine mw_go mu_g443 (k := 1) (f1 := (77, [(0, .inr (.inr (some 169))), (1, .inr (.inr (some p)))], [.inl (0 : Int32)], H)) (C := []) rfl trivial ?_
                  exact mw_of (fun _ => mu_ret rfl (Or.inl rfl) ⟨_, _, rfl, (by rw [if_neg (show ¬ tkd c ∈ [41, 42, 43, 44, 45, 46, 47, 48] by simp only [List.mem_cons, List.not_mem_nil, or_false, not_or]; exact ⟨ek2, ek3, ek4, ek5, ek6, ek7, ek8, ek9⟩)]), rfl⟩)
                · -- 72
                  have ek9 : tkd c = 48 := Decidable.byContradiction (fun e => hi9 (if_neg e))
                  refine mw_go mu_g443 (k := 2) (f1 := (77, [(0, .inr (.inr (some 169))), (1, .inr (.inr (some p)))], [.inl (1 : Int32)], H)) (C := []) rfl trivial ?_
                  exact mw_of (fun _ => mu_ret rfl (Or.inr rfl) ⟨_, _, rfl, (by rw [if_pos (show tkd c ∈ [41, 42, 43, 44, 45, 46, 47, 48] by rw [ek9]; decide)]), rfl⟩)
              · -- 72
                have ek8 : tkd c = 47 := Decidable.byContradiction (fun e => hi8 (if_neg e))
                refine mw_go mu_g443 (k := 2) (f1 := (77, [(0, .inr (.inr (some 169))), (1, .inr (.inr (some p)))], [.inl (1 : Int32)], H)) (C := []) rfl trivial ?_
                exact mw_of (fun _ => mu_ret rfl (Or.inr rfl) ⟨_, _, rfl, (by rw [if_pos (show tkd c ∈ [41, 42, 43, 44, 45, 46, 47, 48] by rw [ek8]; decide)]), rfl⟩)
            · -- 72
              have ek7 : tkd c = 46 := Decidable.byContradiction (fun e => hi7 (if_neg e))
              refine mw_go mu_g443 (k := 2) (f1 := (77, [(0, .inr (.inr (some 169))), (1, .inr (.inr (some p)))], [.inl (1 : Int32)], H)) (C := []) rfl trivial ?_
              exact mw_of (fun _ => mu_ret rfl (Or.inr rfl) ⟨_, _, rfl, (by rw [if_pos (show tkd c ∈ [41, 42, 43, 44, 45, 46, 47, 48] by rw [ek7]; decide)]), rfl⟩)
          · -- 72
            have ek6 : tkd c = 45 := Decidable.byContradiction (fun e => hi6 (if_neg e))
            refine mw_go mu_g443 (k := 2) (f1 := (77, [(0, .inr (.inr (some 169))), (1, .inr (.inr (some p)))], [.inl (1 : Int32)], H)) (C := []) rfl trivial ?_
            exact mw_of (fun _ => mu_ret rfl (Or.inr rfl) ⟨_, _, rfl, (by rw [if_pos (show tkd c ∈ [41, 42, 43, 44, 45, 46, 47, 48] by rw [ek6]; decide)]), rfl⟩)
        · -- 72
          have ek5 : tkd c = 44 := Decidable.byContradiction (fun e => hi5 (if_neg e))
          refine mw_go mu_g443 (k := 2) (f1 := (77, [(0, .inr (.inr (some 169))), (1, .inr (.inr (some p)))], [.inl (1 : Int32)], H)) (C := []) rfl trivial ?_
          exact mw_of (fun _ => mu_ret rfl (Or.inr rfl) ⟨_, _, rfl, (by rw [if_pos (show tkd c ∈ [41, 42, 43, 44, 45, 46, 47, 48] by rw [ek5]; decide)]), rfl⟩)
      · -- 72
        have ek4 : tkd c = 43 := Decidable.byContradiction (fun e => hi4 (if_neg e))
        refine mw_go mu_g443 (k := 2) (f1 := (77, [(0, .inr (.inr (some 169))), (1, .inr (.inr (some p)))], [.inl (1 : Int32)], H)) (C := []) rfl trivial ?_
        exact mw_of (fun _ => mu_ret rfl (Or.inr rfl) ⟨_, _, rfl, (by rw [if_pos (show tkd c ∈ [41, 42, 43, 44, 45, 46, 47, 48] by rw [ek4]; decide)]), rfl⟩)
    · -- 72
      have ek3 : tkd c = 42 := Decidable.byContradiction (fun e => hi3 (if_neg e))
      refine mw_go mu_g443 (k := 2) (f1 := (77, [(0, .inr (.inr (some 169))), (1, .inr (.inr (some p)))], [.inl (1 : Int32)], H)) (C := []) rfl trivial ?_
      exact mw_of (fun _ => mu_ret rfl (Or.inr rfl) ⟨_, _, rfl, (by rw [if_pos (show tkd c ∈ [41, 42, 43, 44, 45, 46, 47, 48] by rw [ek3]; decide)]), rfl⟩)
  · -- 72
    have ek2 : tkd c = 41 := Decidable.byContradiction (fun e => hi2 (if_neg e))
    refine mw_go mu_g443 (k := 2) (f1 := (77, [(0, .inr (.inr (some 169))), (1, .inr (.inr (some p)))], [.inl (1 : Int32)], H)) (C := []) rfl trivial ?_
    exact mw_of (fun _ => mu_ret rfl (Or.inr rfl) ⟨_, _, rfl, (by rw [if_pos (show tkd c ∈ [41, 42, 43, 44, 45, 46, 47, 48] by rw [ek2]; decide)]), rfl⟩)
theorem rq_param0 {d lv m s ip : Nat} {Hb H : mu_H} {G : Nat → Prop} {y : Mdl} {b : List Int32} (ha : agr Hb G H) (hi15 : mu_is H (some ip) 15) (hi0 : mu_r H ip 0 = some m) (hm : mdf Hb G lv m y) (hw : alp prw y.2.1) (hs : stf H G s b) : ∀ m_ k, k + m_ = y.2.1.length → mu_W (mu_D (d + 3)) mu_m514 (2, [(2, .inl (nI k)), (1, .inr (.inr (some s))), (0, .inr (.inr (some ip)))], [], H) (fun r => ∃ x H1, r = (.inl (some (.inl x)), H1) ∧ x = oI (fio (fun k => decide (nam (nth y.2.1 k) = b)) m_ k) ∧ H1 = H)
  | 0, k, hm_ => by
    obtain ⟨mi1, ⟨mw1, mr0_1, ms1⟩, ⟨mp1, mr1_1, mpn1⟩, mq1, mr2_1, mqn1⟩ := mdf.ra (y := y) hm ha
    obtain ⟨kd2, ⟨is2, nF2, lt2⟩, ⟨st2, sr2, sf2⟩, ⟨n2_2, n3_2, n7_2⟩, nm2, ar2, aq2, aF2, ai2, ⟨al2, am2, ax2⟩, ch2, dp2⟩ := nd.ra (c := (tmk 62 0 [] y.2.1)) mpn1 ha
    refine mw_go mu_g514 (k := 3) (f1 := (7, [(2, .inl (nI k)), (1, .inr (.inr (some s))), (0, .inr (.inr (some ip)))], [.inr (.inr (mu_r H ip 0)), .inl (nI k)], H)) (C := [mu_is H (some ip) 15]) rfl (show mu_is H (some ip) 15 from hi15) ?_
    refine mw_fr (f' := (7, [(2, .inl (nI k)), (1, .inr (.inr (some s))), (0, .inr (.inr (some ip)))], [.inr (.inr (some m)), .inl (nI k)], H)) (by first | (rw [hi0]; done) | (rw [hi0]; rfl)) ?_
    refine mw_go mu_g514 (k := 1) (f1 := (10, [(2, .inl (nI k)), (1, .inr (.inr (some s))), (0, .inr (.inr (some ip)))], [.inr (.inr (mu_r H m 1)), .inl (nI k)], H)) (C := [mu_is H (some m) 17]) rfl (show mu_is H (some m) 17 from mi1) ?_
    refine mw_fr (f' := (10, [(2, .inl (nI k)), (1, .inr (.inr (some s))), (0, .inr (.inr (some ip)))], [.inr (.inr (some mp1)), .inl (nI k)], H)) (by first | (rw [mr1_1]; done) | (rw [mr1_1]; rfl)) ?_
    refine mw_go mu_g514 (k := 1) (f1 := (13, [(2, .inl (nI k)), (1, .inr (.inr (some s))), (0, .inr (.inr (some ip)))], [.inl (mu_i H mp1 2), .inl (nI k)], H)) (C := [mu_is H (some mp1) 18]) rfl (show mu_is H (some mp1) 18 from is2) ?_
    refine mw_fr (f' := (13, [(2, .inl (nI k)), (1, .inr (.inr (some s))), (0, .inr (.inr (some ip)))], [.inl (nI y.2.1.length), .inl (nI k)], H)) (by first | (rw [n2_2]; done) | (rw [n2_2]; rfl)) ?_
    refine mw_if (P := (nI k) < (nI y.2.1.length)) (a := 16) (b := 48) (fun _ => rfl) trivial (fun h1 => absurd h1 (by rw [show k = y.2.1.length by omega]; exact Int32.lt_irrefl)) (fun h1 => ?_)
    refine mw_go mu_g514 (k := 1) (f1 := (49, [(2, .inl (nI k)), (1, .inr (.inr (some s))), (0, .inr (.inr (some ip)))], [.inl (-1 : Int32)], H)) (C := []) rfl trivial ?_
    exact mw_of (fun _ => mu_ret rfl trivial ⟨_, _, rfl, rfl, rfl⟩)
  | m_ + 1, k, hm_ => by
    obtain ⟨mi1, ⟨mw1, mr0_1, ms1⟩, ⟨mp1, mr1_1, mpn1⟩, mq1, mr2_1, mqn1⟩ := mdf.ra (y := y) hm ha
    obtain ⟨kd2, ⟨is2, nF2, lt2⟩, ⟨st2, sr2, sf2⟩, ⟨n2_2, n3_2, n7_2⟩, nm2, ar2, aq2, aF2, ai2, ⟨al2, am2, ax2⟩, ch2, dp2⟩ := nd.ra (c := (tmk 62 0 [] y.2.1)) mpn1 ha
    have hk : k < y.2.1.length := by omega
    have hl : y.2.1.length ≤ 2 ^ 21 := Nat.le_trans al2 ax2
    have hp := (hw k hk).2.1
    have hp0 : 0 < (tns (nth y.2.1 k)).length := by rw [hp]; exact Nat.one_pos
    refine mw_go mu_g514 (k := 3) (f1 := (7, [(2, .inl (nI k)), (1, .inr (.inr (some s))), (0, .inr (.inr (some ip)))], [.inr (.inr (mu_r H ip 0)), .inl (nI k)], H)) (C := [mu_is H (some ip) 15]) rfl (show mu_is H (some ip) 15 from hi15) ?_
    refine mw_fr (f' := (7, [(2, .inl (nI k)), (1, .inr (.inr (some s))), (0, .inr (.inr (some ip)))], [.inr (.inr (some m)), .inl (nI k)], H)) (by first | (rw [hi0]; done) | (rw [hi0]; rfl)) ?_
    refine mw_go mu_g514 (k := 1) (f1 := (10, [(2, .inl (nI k)), (1, .inr (.inr (some s))), (0, .inr (.inr (some ip)))], [.inr (.inr (mu_r H m 1)), .inl (nI k)], H)) (C := [mu_is H (some m) 17]) rfl (show mu_is H (some m) 17 from mi1) ?_
    refine mw_fr (f' := (10, [(2, .inl (nI k)), (1, .inr (.inr (some s))), (0, .inr (.inr (some ip)))], [.inr (.inr (some mp1)), .inl (nI k)], H)) (by first | (rw [mr1_1]; done) | (rw [mr1_1]; rfl)) ?_
    refine mw_go mu_g514 (k := 1) (f1 := (13, [(2, .inl (nI k)), (1, .inr (.inr (some s))), (0, .inr (.inr (some ip)))], [.inl (mu_i H mp1 2), .inl (nI k)], H)) (C := [mu_is H (some mp1) 18]) rfl (show mu_is H (some mp1) 18 from is2) ?_
    refine mw_fr (f' := (13, [(2, .inl (nI k)), (1, .inr (.inr (some s))), (0, .inr (.inr (some ip)))], [.inl (nI y.2.1.length), .inl (nI k)], H)) (by first | (rw [n2_2]; done) | (rw [n2_2]; rfl)) ?_
    refine mw_if (P := (nI k) < (nI y.2.1.length)) (a := 16) (b := 48) (fun _ => rfl) trivial (fun h1 => ?_) (fun h1 => absurd (nI_lt hk (by omega)) h1)
    obtain ⟨p, yr3, yn3⟩ := ch2 k hk
    have yn3 : nd Hb G (lv - 1) p (nth y.2.1 k) := yn3
    obtain ⟨b1_3, b2_3, b3_3, b4_3⟩ := ar_at ai2 (by decide) (Nat.lt_of_lt_of_le hk al2) (Nat.lt_of_le_of_lt ax2 (by decide))
    have y2_3 : mu_r H ar2 (nI k).toNatClampNeg = some p := by rw [b4_3]; exact yr3
    obtain ⟨kd4, ⟨is4, nF4, lt4⟩, ⟨st4, sr4, sf4⟩, ⟨n2_4, n3_4, n7_4⟩, nm4, ar4, aq4, aF4, ai4, ⟨al4, am4, ax4⟩, ch4, dp4⟩ := nd.ra (c := (nth y.2.1 k)) yn3 ha
    obtain ⟨nb5, nr5, nbF5, ni5, nn5, nl5, nk5⟩ := nm4.rd hp0
    obtain ⟨ns5, nz5, nf5⟩ := nk5 0 hp0
    obtain ⟨c1_5, c2_5, c3_5, c4_5⟩ := ar_at (i := 0) ni5 (by decide) (by rw [nn5]; exact hp0) (by rw [nn5]; omega)
    have nx5 : mu_r H nb5 (0 : Int32).toNatClampNeg = some ns5 := nz5
    refine mw_go mu_g514 (k := 2) (f1 := (20, [(2, .inl (nI k)), (1, .inr (.inr (some s))), (0, .inr (.inr (some ip)))], [.inr (.inr (mu_r H ip 0))], H)) (C := [mu_is H (some ip) 15]) rfl (show mu_is H (some ip) 15 from hi15) ?_
    refine mw_fr (f' := (20, [(2, .inl (nI k)), (1, .inr (.inr (some s))), (0, .inr (.inr (some ip)))], [.inr (.inr (some m))], H)) (by first | (rw [hi0]; done) | (rw [hi0]; rfl)) ?_
    refine mw_go mu_g514 (k := 1) (f1 := (23, [(2, .inl (nI k)), (1, .inr (.inr (some s))), (0, .inr (.inr (some ip)))], [.inr (.inr (mu_r H m 1))], H)) (C := [mu_is H (some m) 17]) rfl (show mu_is H (some m) 17 from mi1) ?_
    refine mw_fr (f' := (23, [(2, .inl (nI k)), (1, .inr (.inr (some s))), (0, .inr (.inr (some ip)))], [.inr (.inr (some mp1))], H)) (by first | (rw [mr1_1]; done) | (rw [mr1_1]; rfl)) ?_
    refine mw_go mu_g514 (k := 1) (f1 := (26, [(2, .inl (nI k)), (1, .inr (.inr (some s))), (0, .inr (.inr (some ip)))], [.inr (.inr (mu_r H mp1 1))], H)) (C := [mu_is H (some mp1) 18]) rfl (show mu_is H (some mp1) 18 from is2) ?_
    refine mw_fr (f' := (26, [(2, .inl (nI k)), (1, .inr (.inr (some s))), (0, .inr (.inr (some ip)))], [.inr (.inr (some ar2))], H)) (by first | (rw [aq2]; done) | (rw [aq2]; rfl)) ?_
    refine mw_go mu_g514 (k := 2) (f1 := (28, [(2, .inl (nI k)), (1, .inr (.inr (some s))), (0, .inr (.inr (some ip)))], [.inr (.inr (mu_r H ar2 (nI k).toNatClampNeg))], H)) (C := [mu_is H (some ar2) (mu_k H ar2), 103 ≤ mu_k H ar2 ∧ mu_k H ar2 ≤ 110 ∧ mu_k H ar2 ≠ 108, vp_in (nI k) (mu_n H ar2)]) rfl (show (mu_is H (some ar2) (mu_k H ar2)) ∧ (103 ≤ mu_k H ar2 ∧ mu_k H ar2 ≤ 110 ∧ mu_k H ar2 ≠ 108) ∧ (vp_in (nI k) (mu_n H ar2)) from ⟨b1_3, b2_3, b3_3⟩) ?_
    refine mw_fr (f' := (28, [(2, .inl (nI k)), (1, .inr (.inr (some s))), (0, .inr (.inr (some ip)))], [.inr (.inr (some p))], H)) (by first | (rw [y2_3]; done) | (rw [y2_3]; rfl)) ?_
    refine mw_go mu_g514 (k := 1) (f1 := (31, [(2, .inl (nI k)), (1, .inr (.inr (some s))), (0, .inr (.inr (some ip)))], [.inr (.inr (mu_r H p 4))], H)) (C := [mu_is H (some p) 18]) rfl (show mu_is H (some p) 18 from is4) ?_
    refine mw_fr (f' := (31, [(2, .inl (nI k)), (1, .inr (.inr (some s))), (0, .inr (.inr (some ip)))], [.inr (.inr (some nb5))], H)) (by first | (rw [nr5]; done) | (rw [nr5]; rfl)) ?_
    refine mw_go mu_g514 (k := 2) (f1 := (33, [(2, .inl (nI k)), (1, .inr (.inr (some s))), (0, .inr (.inr (some ip)))], [.inr (.inr (mu_r H nb5 (0 : Int32).toNatClampNeg))], H)) (C := [mu_is H (some nb5) (mu_k H nb5), 103 ≤ mu_k H nb5 ∧ mu_k H nb5 ≤ 110 ∧ mu_k H nb5 ≠ 108, vp_in (0 : Int32) (mu_n H nb5)]) rfl (show (mu_is H (some nb5) (mu_k H nb5)) ∧ (103 ≤ mu_k H nb5 ∧ mu_k H nb5 ≤ 110 ∧ mu_k H nb5 ≠ 108) ∧ (vp_in (0 : Int32) (mu_n H nb5)) from ⟨c1_5, c2_5, c3_5⟩) ?_
    refine mw_fr (f' := (33, [(2, .inl (nI k)), (1, .inr (.inr (some s))), (0, .inr (.inr (some ip)))], [.inr (.inr (some ns5))], H)) (by first | (rw [nx5]; done) | (rw [nx5]; rfl)) ?_
    refine mw_go mu_g514 (k := 1) (f1 := (34, [(2, .inl (nI k)), (1, .inr (.inr (some s))), (0, .inr (.inr (some ip)))], [.inr (.inr (some s)), .inr (.inr (some ns5))], H)) (C := []) rfl trivial ?_
    refine mw_cS rfl (by decide) nf5.1.1 (sb_equals (d := d + 1) nf5.1 hs.1 (Nat.lt_trans nf5.2.2 (by decide)) (Nat.lt_trans hs.2.2 (by decide))) (fun x9 H9 q9 => ?_)
    rw [q9.1, q9.2]
    clear q9 H9 x9
    show mu_W _ mu_m514 (37, [(2, .inl (nI k)), (1, .inr (.inr (some s))), (0, .inr (.inr (some ip)))], [.inl (if (nam (nth y.2.1 k)) = b then 1 else 0)], H) _
    refine mw_if (P := (if (nam (nth y.2.1 k)) = b then 1 else 0) = 0) (a := 42) (b := 40) (fun _ => rfl) trivial (fun hi6 => ?_) (fun hi6 => ?_)
    · -- 42
      have ek6 : ¬ (nam (nth y.2.1 k)) = b := fun e => by rw [if_pos e] at hi6; exact absurd hi6 (by decide)
      refine mw_go mu_g514 (k := 2) (f1 := (2, [(2, .inl ((nI k) + 1)), (1, .inr (.inr (some s))), (0, .inr (.inr (some ip)))], [], H)) (C := []) rfl trivial ?_
      refine mw_sub (L' := [(2, .inl (nI (k + 1))), (1, .inr (.inr (some s))), (0, .inr (.inr (some ip)))]) (by intro x hx; simp only [List.mem_cons, List.not_mem_nil, or_false] at hx ⊢; rcases hx with rfl | rfl | rfl <;> simp [nI_add, show (1 : Int32) = nI 1 from rfl]) ?_
      rw [fio, if_neg (show ¬ decide (nam (nth y.2.1 k) = b) = true by rw [decide_eq_true_iff]; exact ek6)]
      exact rq_param0 ha hi15 hi0 hm hw hs m_ (k + 1) (by omega)
    · -- 40
      have ek6 : (nam (nth y.2.1 k)) = b := Decidable.byContradiction (fun e => hi6 (if_neg e))
      refine mw_go mu_g514 (k := 1) (f1 := (41, [(2, .inl (nI k)), (1, .inr (.inr (some s))), (0, .inr (.inr (some ip)))], [.inl (nI k)], H)) (C := []) rfl trivial ?_
      exact mw_of (fun _ => mu_ret rfl trivial ⟨_, _, rfl, (by rw [fio, if_pos (show decide (nam (nth y.2.1 k) = b) = true by rw [decide_eq_true_iff]; exact ek6)]; rfl), rfl⟩)
theorem rq_param {d lv m s ip : Nat} {Hb H : mu_H} {G : Nat → Prop} {y : Mdl} {b : List Int32} (ha : agr Hb G H) (hi15 : mu_is H (some ip) 15) (hi0 : mu_r H ip 0 = some m) (hm : mdf Hb G lv m y) (hw : alp prw y.2.1) (hs : stf H G s b) : mu_TI (mu_D (d + 4)) 514 [.inr (.inr (some ip)), .inr (.inr (some s))] H (fun x H1 => x = oI (fpm y.2.1 b) ∧ H1 = H) := by
  refine mu_meth (M := mu_m514) rfl rfl ?_
  refine mw_ht (mu_fn_of (show [0, 1].Nodup by decide)) ?_
  refine mw_go mu_g514 (k := 2) (f1 := (2, [(2, .inl (0 : Int32)), (0, .inr (.inr (some ip))), (1, .inr (.inr (some s)))], [], H)) (C := []) rfl trivial ?_
  refine mw_sub (L' := [(2, .inl (nI 0)), (1, .inr (.inr (some s))), (0, .inr (.inr (some ip)))]) (by simp [nI]) ?_
  exact rq_param0 ha hi15 hi0 hm hw hs y.2.1.length 0 (Nat.zero_add _)
