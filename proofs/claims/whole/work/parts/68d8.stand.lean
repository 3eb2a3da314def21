/-! The reference: stand -/
/-- PathProverModel.stand(LPathProverModel$Node;LPathProverModel$Instance;)I -/
abbrev mu_m479 : ev_M := (3, (some .int), [], ev_b479)
theorem mu_g479 : mu_good mu_m479 := mu_goodk ev_k479
theorem rp_stand {T : Nat → Int32} {n0 dep lv r cap mp A B n en d : Nat} {t : Tok} {F : Nat → Prop} {ms : List Mdl} {sy : List (List Int32)} {Hb H : mu_H} {loc : Nat → Nat} {Iv : Nat → Ins} {pr : Nat → List (Tre × Nat)} {q i : Nat} {c : Tre} (h : bmk T n0 t dep F lv r ms cap sy Hb mp A B loc n Iv pr en H) (hi : i < n) (hk : ∀ K : mu_H, (∃ a b, kep (fun p => mu_z Hb ≤ p ∧ p < 1000000) a b Hb K) → nd K F lv q c) (hz : mu_z H + 5 ≤ 1000000) (hlen : (pr 0).length ≤ 1000000) : mu_TI (mu_D (d + 2)) 479 [.inr (.inr (some 169)), .inr (.inr (some q)), .inr (.inr (some (loc (9 + 4 * i))))] H (fun v H1 => v = nI (pr 0).length ∧ ∃ loc1, (∀ s, 9 ≤ s → loc1 s = loc s) ∧ bmk T n0 t dep F lv r ms cap sy Hb mp A B loc1 n Iv (pup pr 0 (pr 0 ++ [(c, i)])) en H1) := by
  refine mu_meth (M := mu_m479) rfl rfl ?_
  refine mw_ht (mu_fn_of (show [0, 1, 2].Nodup by decide)) ?_
  have m18_1 : mu_r H 169 18 = some mp := h.2.1.1.2.2
  have m0_1 : mu_r H mp 0 = some (loc 0) := h.2.1.2.1.1
  have m1_1 : mu_i H mp 1 = nI n := h.2.1.2.1.2.1
  have m2_1 : mu_i H mp 2 = nI en := h.2.1.2.1.2.2
  have mN0_1 : mu_r H mp 7 = some (loc 1) := (h.2.1.2.2.2.1 0 (by decide)).1.1
  have mI0_1 : mu_r H mp 8 = some (loc 2) := (h.2.1.2.2.2.1 0 (by decide)).1.2.1
  have mC0_1 : mu_i H mp 9 = nI (pr 0).length := (h.2.1.2.2.2.1 0 (by decide)).1.2.2
  have mN1_1 : mu_r H mp 4 = some (loc 3) := (h.2.1.2.2.2.1 1 (by decide)).1.1
  have mI1_1 : mu_r H mp 3 = some (loc 4) := (h.2.1.2.2.2.1 1 (by decide)).1.2.1
  have mC1_1 : mu_i H mp 5 = nI (pr 1).length := (h.2.1.2.2.2.1 1 (by decide)).1.2.2
  have mN2_1 : mu_r H mp 10 = some (loc 5) := (h.2.1.2.2.2.1 2 (by decide)).1.1
  have mI2_1 : mu_r H mp 11 = some (loc 6) := (h.2.1.2.2.2.1 2 (by decide)).1.2.1
  have mC2_1 : mu_i H mp 12 = nI (pr 2).length := (h.2.1.2.2.2.1 2 (by decide)).1.2.2
  have mN3_1 : mu_r H mp 13 = some (loc 7) := (h.2.1.2.2.2.1 3 (by decide)).1.1
  have mI3_1 : mu_r H mp 14 = some (loc 8) := (h.2.1.2.2.2.1 3 (by decide)).1.2.1
  have mC3_1 : mu_i H mp 15 = nI (pr 3).length := (h.2.1.2.2.2.1 3 (by decide)).1.2.2
  have rz1 := h.rz
  refine mw_go mu_g479 (k := 2) (f1 := (4, [(0, .inr (.inr (some 169))), (1, .inr (.inr (some q))), (2, .inr (.inr (some (loc (9 + 4 * i)))))], [.inr (.inr (mu_r H 169 18))], H)) (C := [mu_is H (some 169) 1]) rfl (show mu_is H (some 169) 1 from h.rz.2.2.2.2) ?_
  refine mw_fr (f' := (4, [(0, .inr (.inr (some 169))), (1, .inr (.inr (some q))), (2, .inr (.inr (some (loc (9 + 4 * i)))))], [.inr (.inr (some mp))], H)) (by first | (rw [m18_1]; done) | (rw [m18_1]; rfl)) ?_
  refine mw_go mu_g479 (k := 2) (f1 := (8, [(0, .inr (.inr (some 169))), (1, .inr (.inr (some q))), (2, .inr (.inr (some (loc (9 + 4 * i)))))], [.inr (.inr (mu_r H 169 18)), .inr (.inr (some mp))], H)) (C := [mu_is H (some 169) 1]) rfl (show mu_is H (some 169) 1 from h.rz.2.2.2.2) ?_
  refine mw_fr (f' := (8, [(0, .inr (.inr (some 169))), (1, .inr (.inr (some q))), (2, .inr (.inr (some (loc (9 + 4 * i)))))], [.inr (.inr (some mp)), .inr (.inr (some mp))], H)) (by first | (rw [m18_1]; done) | (rw [m18_1]; rfl)) ?_
  refine mw_go mu_g479 (k := 1) (f1 := (11, [(0, .inr (.inr (some 169))), (1, .inr (.inr (some q))), (2, .inr (.inr (some (loc (9 + 4 * i)))))], [.inr (.inr (mu_r H mp 7)), .inr (.inr (some mp))], H)) (C := [mu_is H (some mp) 16]) rfl (show mu_is H (some mp) 16 from h.2.1.1.1) ?_
  refine mw_fr (f' := (11, [(0, .inr (.inr (some 169))), (1, .inr (.inr (some q))), (2, .inr (.inr (some (loc (9 + 4 * i)))))], [.inr (.inr (some (loc 1))), .inr (.inr (some mp))], H)) (by first | (rw [mN0_1]; done) | (rw [mN0_1]; rfl)) ?_
  refine mw_go mu_g479 (k := 2) (f1 := (15, [(0, .inr (.inr (some 169))), (1, .inr (.inr (some q))), (2, .inr (.inr (some (loc (9 + 4 * i)))))], [.inr (.inr (mu_r H 169 18)), .inr (.inr (some (loc 1))), .inr (.inr (some mp))], H)) (C := [mu_is H (some 169) 1]) rfl (show mu_is H (some 169) 1 from h.rz.2.2.2.2) ?_
  refine mw_fr (f' := (15, [(0, .inr (.inr (some 169))), (1, .inr (.inr (some q))), (2, .inr (.inr (some (loc (9 + 4 * i)))))], [.inr (.inr (some mp)), .inr (.inr (some (loc 1))), .inr (.inr (some mp))], H)) (by first | (rw [m18_1]; done) | (rw [m18_1]; rfl)) ?_
  refine mw_go mu_g479 (k := 1) (f1 := (18, [(0, .inr (.inr (some 169))), (1, .inr (.inr (some q))), (2, .inr (.inr (some (loc (9 + 4 * i)))))], [.inl (mu_i H mp 9), .inr (.inr (some (loc 1))), .inr (.inr (some mp))], H)) (C := [mu_is H (some mp) 16]) rfl (show mu_is H (some mp) 16 from h.2.1.1.1) ?_
  refine mw_fr (f' := (18, [(0, .inr (.inr (some 169))), (1, .inr (.inr (some q))), (2, .inr (.inr (some (loc (9 + 4 * i)))))], [.inl (nI (pr 0).length), .inr (.inr (some (loc 1))), .inr (.inr (some mp))], H)) (by first | (rw [mC0_1]; done) | (rw [mC0_1]; rfl)) ?_
  have wr2 := (h.2.1.2.2.2.1 0 (by decide)).2.1
  have wl2 : (pr 0).length ≤ mu_n H (loc 1) ∧ 16 ≤ mu_n H (loc 1) ∧ mu_n H (loc 1) ≤ 2 * (pr 0).length + 64 := wr2.2.1
  have el2 : (pr 0).length = mu_n H (loc 1) → ∀ i, i < mu_n H (loc 1) → mu_is H (mu_r H (loc 1) i) 18 := fun e i hi => by
      obtain ⟨q9, q1, q2⟩ := wr2.2.2 i (by rw [e]; exact hi)
      rw [show mu_r H (loc 1) i = some q9 from q1]
      exact q2.is.1
  refine mw_cA (fun _ => rfl) trivial (rp_moreN (cap := mu_n H (loc 1)) wr2.1 rfl (by omega) wl2.1 el2 (by omega)) (fun y2 H2 q2 => ?_)
  obtain ⟨loc2, pp2, rfl, e2, ag2, hb2, ll2, nl2, zl2⟩ := h.mrN (k := 0) (by decide) (by omega) q2
  have e2 : loc2 1 = pp2 := e2
  subst e2
  have hb2 : bmk T n0 t dep F lv r ms cap sy Hb mp A B loc2 n Iv pr en (mu_sr H2 mp 7 (some (loc2 1))) := hb2
  have ll2 : (pr 0).length < mu_n (mu_sr H2 mp 7 (some (loc2 1))) (loc2 1) := ll2
  have nl2 : ∀ s, s < 9 + 4 * n → mu_n (mu_sr H2 mp 7 (some (loc2 1))) (loc s) = mu_n H (loc s) := nl2
  have zl2 : mu_z (mu_sr H2 mp 7 (some (loc2 1))) ≤ mu_z H + 1 := zl2
  show mu_W _ mu_m479 (21, [(0, .inr (.inr (some 169))), (1, .inr (.inr (some q))), (2, .inr (.inr (some (loc (9 + 4 * i)))))], [.inr (.inr (some (loc2 1))), .inr (.inr (some mp))], H2) _
  refine mw_go mu_g479 (k := 1) (f1 := (24, [(0, .inr (.inr (some 169))), (1, .inr (.inr (some q))), (2, .inr (.inr (some (loc (9 + 4 * i)))))], [], (mu_sr H2 mp 7 (some (loc2 1))))) (C := [mu_is H2 (some mp) 16]) rfl (show mu_is H2 (some mp) 16 from (show mu_is H2 (some mp) 16 from hb2.2.1.1.1)) ?_
  obtain ⟨K2, eK2⟩ : ∃ K, K = (mu_sr H2 mp 7 (some (loc2 1))) := ⟨_, rfl⟩
  rw [← eK2] at hb2 ll2 nl2 zl2 ⊢
  clear eK2
  have m18_3 : mu_r K2 169 18 = some mp := hb2.2.1.1.2.2
  have m0_3 : mu_r K2 mp 0 = some (loc2 0) := hb2.2.1.2.1.1
  have m1_3 : mu_i K2 mp 1 = nI n := hb2.2.1.2.1.2.1
  have m2_3 : mu_i K2 mp 2 = nI en := hb2.2.1.2.1.2.2
  have mN0_3 : mu_r K2 mp 7 = some (loc2 1) := (hb2.2.1.2.2.2.1 0 (by decide)).1.1
  have mI0_3 : mu_r K2 mp 8 = some (loc2 2) := (hb2.2.1.2.2.2.1 0 (by decide)).1.2.1
  have mC0_3 : mu_i K2 mp 9 = nI (pr 0).length := (hb2.2.1.2.2.2.1 0 (by decide)).1.2.2
  have mN1_3 : mu_r K2 mp 4 = some (loc2 3) := (hb2.2.1.2.2.2.1 1 (by decide)).1.1
  have mI1_3 : mu_r K2 mp 3 = some (loc2 4) := (hb2.2.1.2.2.2.1 1 (by decide)).1.2.1
  have mC1_3 : mu_i K2 mp 5 = nI (pr 1).length := (hb2.2.1.2.2.2.1 1 (by decide)).1.2.2
  have mN2_3 : mu_r K2 mp 10 = some (loc2 5) := (hb2.2.1.2.2.2.1 2 (by decide)).1.1
  have mI2_3 : mu_r K2 mp 11 = some (loc2 6) := (hb2.2.1.2.2.2.1 2 (by decide)).1.2.1
  have mC2_3 : mu_i K2 mp 12 = nI (pr 2).length := (hb2.2.1.2.2.2.1 2 (by decide)).1.2.2
  have mN3_3 : mu_r K2 mp 13 = some (loc2 7) := (hb2.2.1.2.2.2.1 3 (by decide)).1.1
  have mI3_3 : mu_r K2 mp 14 = some (loc2 8) := (hb2.2.1.2.2.2.1 3 (by decide)).1.2.1
  have mC3_3 : mu_i K2 mp 15 = nI (pr 3).length := (hb2.2.1.2.2.2.1 3 (by decide)).1.2.2
  have rz3 := hb2.rz
  refine mw_go mu_g479 (k := 2) (f1 := (28, [(0, .inr (.inr (some 169))), (1, .inr (.inr (some q))), (2, .inr (.inr (some (loc (9 + 4 * i)))))], [.inr (.inr (mu_r K2 169 18))], K2)) (C := [mu_is K2 (some 169) 1]) rfl (show mu_is K2 (some 169) 1 from hb2.rz.2.2.2.2) ?_
  refine mw_fr (f' := (28, [(0, .inr (.inr (some 169))), (1, .inr (.inr (some q))), (2, .inr (.inr (some (loc (9 + 4 * i)))))], [.inr (.inr (some mp))], K2)) (by first | (rw [m18_3]; done) | (rw [m18_3]; rfl)) ?_
  refine mw_go mu_g479 (k := 2) (f1 := (32, [(0, .inr (.inr (some 169))), (1, .inr (.inr (some q))), (2, .inr (.inr (some (loc (9 + 4 * i)))))], [.inr (.inr (mu_r K2 169 18)), .inr (.inr (some mp))], K2)) (C := [mu_is K2 (some 169) 1]) rfl (show mu_is K2 (some 169) 1 from hb2.rz.2.2.2.2) ?_
  refine mw_fr (f' := (32, [(0, .inr (.inr (some 169))), (1, .inr (.inr (some q))), (2, .inr (.inr (some (loc (9 + 4 * i)))))], [.inr (.inr (some mp)), .inr (.inr (some mp))], K2)) (by first | (rw [m18_3]; done) | (rw [m18_3]; rfl)) ?_
  refine mw_go mu_g479 (k := 1) (f1 := (35, [(0, .inr (.inr (some 169))), (1, .inr (.inr (some q))), (2, .inr (.inr (some (loc (9 + 4 * i)))))], [.inr (.inr (mu_r K2 mp 8)), .inr (.inr (some mp))], K2)) (C := [mu_is K2 (some mp) 16]) rfl (show mu_is K2 (some mp) 16 from hb2.2.1.1.1) ?_
  refine mw_fr (f' := (35, [(0, .inr (.inr (some 169))), (1, .inr (.inr (some q))), (2, .inr (.inr (some (loc (9 + 4 * i)))))], [.inr (.inr (some (loc2 2))), .inr (.inr (some mp))], K2)) (by first | (rw [mI0_3]; done) | (rw [mI0_3]; rfl)) ?_
  refine mw_go mu_g479 (k := 2) (f1 := (39, [(0, .inr (.inr (some 169))), (1, .inr (.inr (some q))), (2, .inr (.inr (some (loc (9 + 4 * i)))))], [.inr (.inr (mu_r K2 169 18)), .inr (.inr (some (loc2 2))), .inr (.inr (some mp))], K2)) (C := [mu_is K2 (some 169) 1]) rfl (show mu_is K2 (some 169) 1 from hb2.rz.2.2.2.2) ?_
  refine mw_fr (f' := (39, [(0, .inr (.inr (some 169))), (1, .inr (.inr (some q))), (2, .inr (.inr (some (loc (9 + 4 * i)))))], [.inr (.inr (some mp)), .inr (.inr (some (loc2 2))), .inr (.inr (some mp))], K2)) (by first | (rw [m18_3]; done) | (rw [m18_3]; rfl)) ?_
  refine mw_go mu_g479 (k := 1) (f1 := (42, [(0, .inr (.inr (some 169))), (1, .inr (.inr (some q))), (2, .inr (.inr (some (loc (9 + 4 * i)))))], [.inl (mu_i K2 mp 9), .inr (.inr (some (loc2 2))), .inr (.inr (some mp))], K2)) (C := [mu_is K2 (some mp) 16]) rfl (show mu_is K2 (some mp) 16 from hb2.2.1.1.1) ?_
  refine mw_fr (f' := (42, [(0, .inr (.inr (some 169))), (1, .inr (.inr (some q))), (2, .inr (.inr (some (loc (9 + 4 * i)))))], [.inl (nI (pr 0).length), .inr (.inr (some (loc2 2))), .inr (.inr (some mp))], K2)) (by first | (rw [mC0_3]; done) | (rw [mC0_3]; rfl)) ?_
  have wr4 := (hb2.2.1.2.2.2.1 0 (by decide)).2.2
  have wl4 : (pr 0).length ≤ mu_n K2 (loc2 2) ∧ 16 ≤ mu_n K2 (loc2 2) ∧ mu_n K2 (loc2 2) ≤ 2 * (pr 0).length + 64 := wr4.2.1
  have el4 : (pr 0).length = mu_n K2 (loc2 2) → ∀ i, i < mu_n K2 (loc2 2) → mu_is K2 (mu_r K2 (loc2 2) i) 15 := fun e i hi => by
      have z9 := wr4.2.2 i (by rw [e]; exact hi)
      rw [show mu_r K2 (loc2 2) i = _ from z9.1]
      exact (hb2.2.1.2.2.2.2.1 _ z9.2).1
  refine mw_cA (fun _ => rfl) trivial (rp_moreI (cap := mu_n K2 (loc2 2)) wr4.1 rfl (by omega) wl4.1 el4 (by omega)) (fun y4 H4 q4 => ?_)
  obtain ⟨loc4, pp4, rfl, e4, ag4, hb4, ll4, nl4, zl4⟩ := hb2.mrI (k := 0) (by decide) (by omega) q4
  have e4 : loc4 2 = pp4 := e4
  subst e4
  have hb4 : bmk T n0 t dep F lv r ms cap sy Hb mp A B loc4 n Iv pr en (mu_sr H4 mp 8 (some (loc4 2))) := hb4
  have ll4 : (pr 0).length < mu_n (mu_sr H4 mp 8 (some (loc4 2))) (loc4 2) := ll4
  have nl4 : ∀ s, s < 9 + 4 * n → mu_n (mu_sr H4 mp 8 (some (loc4 2))) (loc2 s) = mu_n K2 (loc2 s) := nl4
  have zl4 : mu_z (mu_sr H4 mp 8 (some (loc4 2))) ≤ mu_z K2 + 1 := zl4
  show mu_W _ mu_m479 (45, [(0, .inr (.inr (some 169))), (1, .inr (.inr (some q))), (2, .inr (.inr (some (loc (9 + 4 * i)))))], [.inr (.inr (some (loc4 2))), .inr (.inr (some mp))], H4) _
  refine mw_go mu_g479 (k := 1) (f1 := (48, [(0, .inr (.inr (some 169))), (1, .inr (.inr (some q))), (2, .inr (.inr (some (loc (9 + 4 * i)))))], [], (mu_sr H4 mp 8 (some (loc4 2))))) (C := [mu_is H4 (some mp) 16]) rfl (show mu_is H4 (some mp) 16 from (show mu_is H4 (some mp) 16 from hb4.2.1.1.1)) ?_
  obtain ⟨K4, eK4⟩ : ∃ K, K = (mu_sr H4 mp 8 (some (loc4 2))) := ⟨_, rfl⟩
  rw [← eK4] at hb4 ll4 nl4 zl4 ⊢
  clear eK4
  have m18_5 : mu_r K4 169 18 = some mp := hb4.2.1.1.2.2
  have m0_5 : mu_r K4 mp 0 = some (loc4 0) := hb4.2.1.2.1.1
  have m1_5 : mu_i K4 mp 1 = nI n := hb4.2.1.2.1.2.1
  have m2_5 : mu_i K4 mp 2 = nI en := hb4.2.1.2.1.2.2
  have mN0_5 : mu_r K4 mp 7 = some (loc4 1) := (hb4.2.1.2.2.2.1 0 (by decide)).1.1
  have mI0_5 : mu_r K4 mp 8 = some (loc4 2) := (hb4.2.1.2.2.2.1 0 (by decide)).1.2.1
  have mC0_5 : mu_i K4 mp 9 = nI (pr 0).length := (hb4.2.1.2.2.2.1 0 (by decide)).1.2.2
  have mN1_5 : mu_r K4 mp 4 = some (loc4 3) := (hb4.2.1.2.2.2.1 1 (by decide)).1.1
  have mI1_5 : mu_r K4 mp 3 = some (loc4 4) := (hb4.2.1.2.2.2.1 1 (by decide)).1.2.1
  have mC1_5 : mu_i K4 mp 5 = nI (pr 1).length := (hb4.2.1.2.2.2.1 1 (by decide)).1.2.2
  have mN2_5 : mu_r K4 mp 10 = some (loc4 5) := (hb4.2.1.2.2.2.1 2 (by decide)).1.1
  have mI2_5 : mu_r K4 mp 11 = some (loc4 6) := (hb4.2.1.2.2.2.1 2 (by decide)).1.2.1
  have mC2_5 : mu_i K4 mp 12 = nI (pr 2).length := (hb4.2.1.2.2.2.1 2 (by decide)).1.2.2
  have mN3_5 : mu_r K4 mp 13 = some (loc4 7) := (hb4.2.1.2.2.2.1 3 (by decide)).1.1
  have mI3_5 : mu_r K4 mp 14 = some (loc4 8) := (hb4.2.1.2.2.2.1 3 (by decide)).1.2.1
  have mC3_5 : mu_i K4 mp 15 = nI (pr 3).length := (hb4.2.1.2.2.2.1 3 (by decide)).1.2.2
  have rz5 := hb4.rz
  have dif := hb4.dif (k := 0) (by decide)
  have hlN : (pr 0).length < mu_n K4 (loc4 1) := by
    have e1 : loc4 1 = loc2 1 := ag4 1 (by decide)
    rw [e1, nl4 1 (by omega)]; exact ll2
  have hlI : (pr 0).length < mu_n K4 (loc4 2) := ll4
  have bN : _ ∧ _ ∧ mu_n K4 (loc4 1) ≤ 2 * (pr 0).length + 64 := (hb4.2.1.2.2.2.1 0 (by decide)).2.1.2.1
  have bI2 : _ ∧ _ ∧ mu_n K4 (loc4 2) ≤ 2 * (pr 0).length + 64 := (hb4.2.1.2.2.2.1 0 (by decide)).2.2.2.1
  have ei : loc4 (9 + 4 * i) = loc (9 + 4 * i) := (ag4 _ (by omega)).trans (ag2 _ (by omega))
  have hq4 : nd K4 F lv q c := hk K4 ⟨_, _, hb4.2.2.2.1⟩
  refine mw_go mu_g479 (k := 2) (f1 := (52, [(0, .inr (.inr (some 169))), (1, .inr (.inr (some q))), (2, .inr (.inr (some (loc (9 + 4 * i)))))], [.inr (.inr (mu_r K4 169 18))], K4)) (C := [mu_is K4 (some 169) 1]) rfl (show mu_is K4 (some 169) 1 from hb4.rz.2.2.2.2) ?_
  refine mw_fr (f' := (52, [(0, .inr (.inr (some 169))), (1, .inr (.inr (some q))), (2, .inr (.inr (some (loc (9 + 4 * i)))))], [.inr (.inr (some mp))], K4)) (by first | (rw [m18_5]; done) | (rw [m18_5]; rfl)) ?_
  refine mw_go mu_g479 (k := 1) (f1 := (55, [(0, .inr (.inr (some 169))), (1, .inr (.inr (some q))), (2, .inr (.inr (some (loc (9 + 4 * i)))))], [.inr (.inr (mu_r K4 mp 7))], K4)) (C := [mu_is K4 (some mp) 16]) rfl (show mu_is K4 (some mp) 16 from hb4.2.1.1.1) ?_
  refine mw_fr (f' := (55, [(0, .inr (.inr (some 169))), (1, .inr (.inr (some q))), (2, .inr (.inr (some (loc (9 + 4 * i)))))], [.inr (.inr (some (loc4 1)))], K4)) (by first | (rw [mN0_5]; done) | (rw [mN0_5]; rfl)) ?_
  refine mw_go mu_g479 (k := 2) (f1 := (59, [(0, .inr (.inr (some 169))), (1, .inr (.inr (some q))), (2, .inr (.inr (some (loc (9 + 4 * i)))))], [.inr (.inr (mu_r K4 169 18)), .inr (.inr (some (loc4 1)))], K4)) (C := [mu_is K4 (some 169) 1]) rfl (show mu_is K4 (some 169) 1 from hb4.rz.2.2.2.2) ?_
  refine mw_fr (f' := (59, [(0, .inr (.inr (some 169))), (1, .inr (.inr (some q))), (2, .inr (.inr (some (loc (9 + 4 * i)))))], [.inr (.inr (some mp)), .inr (.inr (some (loc4 1)))], K4)) (by first | (rw [m18_5]; done) | (rw [m18_5]; rfl)) ?_
  refine mw_go mu_g479 (k := 1) (f1 := (62, [(0, .inr (.inr (some 169))), (1, .inr (.inr (some q))), (2, .inr (.inr (some (loc (9 + 4 * i)))))], [.inl (mu_i K4 mp 9), .inr (.inr (some (loc4 1)))], K4)) (C := [mu_is K4 (some mp) 16]) rfl (show mu_is K4 (some mp) 16 from hb4.2.1.1.1) ?_
  refine mw_fr (f' := (62, [(0, .inr (.inr (some 169))), (1, .inr (.inr (some q))), (2, .inr (.inr (some (loc (9 + 4 * i)))))], [.inl (nI (pr 0).length), .inr (.inr (some (loc4 1)))], K4)) (by first | (rw [mC0_5]; done) | (rw [mC0_5]; rfl)) ?_
  refine mw_go mu_g479 (k := 1) (f1 := (63, [(0, .inr (.inr (some 169))), (1, .inr (.inr (some q))), (2, .inr (.inr (some (loc (9 + 4 * i)))))], [.inr (.inr (some q)), .inl (nI (pr 0).length), .inr (.inr (some (loc4 1)))], K4)) (C := []) rfl trivial ?_
  refine mw_aastO (t := 9) (ct := 18) rfl (hb4.2.1.2.2.2.1 0 (by decide)).2.1.1 hq4.is.1 (by decide) (show vp_in (nI (pr 0).length) (mu_n K4 (loc4 1)) from vp_in_nI hlN (by omega)) ?_
  rw [show mu_p (some (loc4 1)) = loc4 1 from rfl, nI_clamp (show (pr 0).length < 2 ^ 31 by omega)]
  show mu_W _ mu_m479 (64, [(0, .inr (.inr (some 169))), (1, .inr (.inr (some q))), (2, .inr (.inr (some (loc (9 + 4 * i)))))], [], (mu_sr K4 (loc4 1) (pr 0).length (some q))) _
  have a18 : mu_r (mu_sr K4 (loc4 1) (pr 0).length (some q)) 169 18 = some mp := by rw [mu_r_sr, if_neg (fun z => dif.2.2.2.1 z.1.symm)]; exact hb4.2.1.1.2.2
  have a8 : mu_r (mu_sr K4 (loc4 1) (pr 0).length (some q)) mp 8 = some (loc4 2) := by rw [mu_r_sr, if_neg (fun z => dif.2.1 z.1.symm)]; exact (hb4.2.1.2.2.2.1 0 (by decide)).1.2.1
  have a9 : mu_i K4 mp 9 = nI (pr 0).length := (hb4.2.1.2.2.2.1 0 (by decide)).1.2.2
  refine mw_go mu_g479 (k := 2) (f1 := (68, [(0, .inr (.inr (some 169))), (1, .inr (.inr (some q))), (2, .inr (.inr (some (loc (9 + 4 * i)))))], [.inr (.inr (mu_r (mu_sr K4 (loc4 1) (pr 0).length (some q)) 169 18))], (mu_sr K4 (loc4 1) (pr 0).length (some q)))) (C := [mu_is K4 (some 169) 1]) rfl (show mu_is K4 (some 169) 1 from hb4.rz.2.2.2.2) ?_
  refine mw_fr (f' := (68, [(0, .inr (.inr (some 169))), (1, .inr (.inr (some q))), (2, .inr (.inr (some (loc (9 + 4 * i)))))], [.inr (.inr (some mp))], (mu_sr K4 (loc4 1) (pr 0).length (some q)))) (by first | (rw [a18]; done) | (rw [a18]; rfl)) ?_
  refine mw_go mu_g479 (k := 1) (f1 := (71, [(0, .inr (.inr (some 169))), (1, .inr (.inr (some q))), (2, .inr (.inr (some (loc (9 + 4 * i)))))], [.inr (.inr (mu_r (mu_sr K4 (loc4 1) (pr 0).length (some q)) mp 8))], (mu_sr K4 (loc4 1) (pr 0).length (some q)))) (C := [mu_is K4 (some mp) 16]) rfl (show mu_is K4 (some mp) 16 from hb4.2.1.1.1) ?_
  refine mw_fr (f' := (71, [(0, .inr (.inr (some 169))), (1, .inr (.inr (some q))), (2, .inr (.inr (some (loc (9 + 4 * i)))))], [.inr (.inr (some (loc4 2)))], (mu_sr K4 (loc4 1) (pr 0).length (some q)))) (by first | (rw [a8]; done) | (rw [a8]; rfl)) ?_
  refine mw_go mu_g479 (k := 2) (f1 := (75, [(0, .inr (.inr (some 169))), (1, .inr (.inr (some q))), (2, .inr (.inr (some (loc (9 + 4 * i)))))], [.inr (.inr (mu_r (mu_sr K4 (loc4 1) (pr 0).length (some q)) 169 18)), .inr (.inr (some (loc4 2)))], (mu_sr K4 (loc4 1) (pr 0).length (some q)))) (C := [mu_is K4 (some 169) 1]) rfl (show mu_is K4 (some 169) 1 from hb4.rz.2.2.2.2) ?_
  refine mw_fr (f' := (75, [(0, .inr (.inr (some 169))), (1, .inr (.inr (some q))), (2, .inr (.inr (some (loc (9 + 4 * i)))))], [.inr (.inr (some mp)), .inr (.inr (some (loc4 2)))], (mu_sr K4 (loc4 1) (pr 0).length (some q)))) (by first | (rw [a18]; done) | (rw [a18]; rfl)) ?_
  refine mw_go mu_g479 (k := 1) (f1 := (78, [(0, .inr (.inr (some 169))), (1, .inr (.inr (some q))), (2, .inr (.inr (some (loc (9 + 4 * i)))))], [.inl (mu_i K4 mp 9), .inr (.inr (some (loc4 2)))], (mu_sr K4 (loc4 1) (pr 0).length (some q)))) (C := [mu_is K4 (some mp) 16]) rfl (show mu_is K4 (some mp) 16 from hb4.2.1.1.1) ?_
  refine mw_fr (f' := (78, [(0, .inr (.inr (some 169))), (1, .inr (.inr (some q))), (2, .inr (.inr (some (loc (9 + 4 * i)))))], [.inl (nI (pr 0).length), .inr (.inr (some (loc4 2)))], (mu_sr K4 (loc4 1) (pr 0).length (some q)))) (by first | (rw [a9]; done) | (rw [a9]; rfl)) ?_
  refine mw_go mu_g479 (k := 1) (f1 := (79, [(0, .inr (.inr (some 169))), (1, .inr (.inr (some q))), (2, .inr (.inr (some (loc (9 + 4 * i)))))], [.inr (.inr (some (loc (9 + 4 * i)))), .inl (nI (pr 0).length), .inr (.inr (some (loc4 2)))], (mu_sr K4 (loc4 1) (pr 0).length (some q)))) (C := []) rfl trivial ?_
  rw [← ei]
  refine mw_aastO (t := 10) (ct := 15) rfl (show mu_is K4 (some (loc4 2)) 110 from (hb4.2.1.2.2.2.1 0 (by decide)).2.2.1) (show mu_is K4 (some (loc4 (9 + 4 * i))) 15 from (hb4.2.1.2.2.2.2.1 i hi).1) (by decide) (show vp_in (nI (pr 0).length) (mu_n K4 (loc4 2)) from vp_in_nI hlI (by omega)) ?_
  rw [show mu_p (some (loc4 2)) = loc4 2 from rfl, nI_clamp (show (pr 0).length < 2 ^ 31 by omega)]
  show mu_W _ mu_m479 (80, [(0, .inr (.inr (some 169))), (1, .inr (.inr (some q))), (2, .inr (.inr (some (loc4 (9 + 4 * i)))))], [], (mu_sr (mu_sr K4 (loc4 1) (pr 0).length (some q)) (loc4 2) (pr 0).length (some (loc4 (9 + 4 * i))))) _
  have c18 : mu_r (mu_sr (mu_sr K4 (loc4 1) (pr 0).length (some q)) (loc4 2) (pr 0).length (some (loc4 (9 + 4 * i)))) 169 18 = some mp := by rw [mu_r_sr, if_neg (fun z => dif.2.2.2.2.1 z.1.symm)]; exact a18
  have e1 : nI (pr 0).length + (1 : Int32) = nI ((pr 0).length + 1) := nI_add _ _
  refine mw_go mu_g479 (k := 2) (f1 := (84, [(0, .inr (.inr (some 169))), (1, .inr (.inr (some q))), (2, .inr (.inr (some (loc4 (9 + 4 * i)))))], [.inr (.inr (mu_r (mu_sr (mu_sr K4 (loc4 1) (pr 0).length (some q)) (loc4 2) (pr 0).length (some (loc4 (9 + 4 * i)))) 169 18))], (mu_sr (mu_sr K4 (loc4 1) (pr 0).length (some q)) (loc4 2) (pr 0).length (some (loc4 (9 + 4 * i)))))) (C := [mu_is K4 (some 169) 1]) rfl (show mu_is K4 (some 169) 1 from hb4.rz.2.2.2.2) ?_
  refine mw_fr (f' := (84, [(0, .inr (.inr (some 169))), (1, .inr (.inr (some q))), (2, .inr (.inr (some (loc4 (9 + 4 * i)))))], [.inr (.inr (some mp))], (mu_sr (mu_sr K4 (loc4 1) (pr 0).length (some q)) (loc4 2) (pr 0).length (some (loc4 (9 + 4 * i)))))) (by first | (rw [c18]; done) | (rw [c18]; rfl)) ?_
  refine mw_go mu_g479 (k := 2) (f1 := (88, [(0, .inr (.inr (some 169))), (1, .inr (.inr (some q))), (2, .inr (.inr (some (loc4 (9 + 4 * i)))))], [.inl (mu_i K4 mp 9), .inr (.inr (some mp))], (mu_sr (mu_sr K4 (loc4 1) (pr 0).length (some q)) (loc4 2) (pr 0).length (some (loc4 (9 + 4 * i)))))) (C := [mu_is K4 (some mp) 16]) rfl (show mu_is K4 (some mp) 16 from hb4.2.1.1.1) ?_
  refine mw_fr (f' := (88, [(0, .inr (.inr (some 169))), (1, .inr (.inr (some q))), (2, .inr (.inr (some (loc4 (9 + 4 * i)))))], [.inl (nI (pr 0).length), .inr (.inr (some mp))], (mu_sr (mu_sr K4 (loc4 1) (pr 0).length (some q)) (loc4 2) (pr 0).length (some (loc4 (9 + 4 * i)))))) (by first | (rw [a9]; done) | (rw [a9]; rfl)) ?_
  refine mw_go mu_g479 (k := 3) (f1 := (91, [(0, .inr (.inr (some 169))), (1, .inr (.inr (some q))), (2, .inr (.inr (some (loc4 (9 + 4 * i)))))], [.inl ((nI (pr 0).length) + (1 : Int32)), .inr (.inr (some mp)), .inl (nI (pr 0).length)], (mu_sr (mu_sr K4 (loc4 1) (pr 0).length (some q)) (loc4 2) (pr 0).length (some (loc4 (9 + 4 * i)))))) (C := []) rfl trivial ?_
  refine mw_fr (f' := (91, [(0, .inr (.inr (some 169))), (1, .inr (.inr (some q))), (2, .inr (.inr (some (loc4 (9 + 4 * i)))))], [.inl (nI ((pr 0).length + 1)), .inr (.inr (some mp)), .inl (nI (pr 0).length)], (mu_sr (mu_sr K4 (loc4 1) (pr 0).length (some q)) (loc4 2) (pr 0).length (some (loc4 (9 + 4 * i)))))) (by first | (rw [e1]; done) | (rw [e1]; rfl)) ?_
  refine mw_go mu_g479 (k := 1) (f1 := (94, [(0, .inr (.inr (some 169))), (1, .inr (.inr (some q))), (2, .inr (.inr (some (loc4 (9 + 4 * i)))))], [.inl (nI (pr 0).length)], (mu_si (mu_sr (mu_sr K4 (loc4 1) (pr 0).length (some q)) (loc4 2) (pr 0).length (some (loc4 (9 + 4 * i)))) mp 9 (nI ((pr 0).length + 1))))) (C := [mu_is K4 (some mp) 16]) rfl (show mu_is K4 (some mp) 16 from hb4.2.1.1.1) ?_
  have hfin := hb4.pushG (k := 0) (q := q) (i := i) (c := c) (by decide) hlN hlI hq4 hi (psd.nic (H := K4) ⟨dif.1, dif.2.1, dif.2.2.1⟩)
  exact mw_of (fun _ => mu_ret rfl trivial ⟨_, _, rfl, rfl, loc4, fun s hs => (ag4 s (by omega)).trans (ag2 s (by omega)), hfin⟩)
