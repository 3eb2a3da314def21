/-! Machine.turn -/
section Turn
variable {H : mu_H} {m d A W l k n P S0 at0 tot : Nat} {C : Nat → Nat} {U V V1 : Ud} {f sd wt : Nat → Nat} {mk : Int32}
/-- PathProver$Machine.turn()V -/
abbrev mu_m211 : ev_M := (1, none, [], ev_b211)
theorem mu_g211 : mu_good mu_m211 := mu_goodk ev_k211
theorem mc_turn0 (h : um m H) (e : ud m H = U) (hat : U.2.1 100 19 = nI at0) (hl : U.2.1 100 18 = nI l) (htot : U.2.1 100 20 = nI tot) (hend : tot ≤ at0 + l) (hb : at0 + l < 2147483648) : mu_TV (mu_D (d + 5)) 211 [.inr (.inr (some 100))] H (fun H1 => um m H1 ∧ ur m C H H1 ∧ ud m H1 = upI U 100 19 (nI (at0 + l))) := by
  refine mu_meth (M := mu_m211) rfl rfl ?_
  refine mw_ht (mu_fn_of (show [0].Nodup by decide)) ?_
  refine mw_go mu_g211 (k := 3) (f1 := (5, [(0, .inr (.inr (some 100)))], [.inl (mu_i H 100 19), .inr (.inr (some 100))], H)) (C := [mu_is H (some 100) 5]) rfl (show mu_is H (some 100) 5 from (h.1.1.is rfl)) ?_
  rw [(show mu_i H 100 19 = (nI at0) from (ud_i (U := U) (m := m) (P := 100) (j := 19) e rfl).trans hat)]
  refine mw_go mu_g211 (k := 2) (f1 := (9, [(0, .inr (.inr (some 100)))], [.inl (mu_i H 100 18), .inl (nI at0), .inr (.inr (some 100))], H)) (C := [mu_is H (some 100) 5]) rfl (show mu_is H (some 100) 5 from (h.1.1.is rfl)) ?_
  rw [(show mu_i H 100 18 = (nI l) from (ud_i (U := U) (m := m) (P := 100) (j := 18) e rfl).trans hl)]
  refine mw_go mu_g211 (k := 1) (f1 := (10, [(0, .inr (.inr (some 100)))], [.inl ((nI at0) + (nI l)), .inr (.inr (some 100))], H)) (C := []) rfl trivial ?_
  rw [(show ((nI at0) + (nI l)) = (nI (at0 + l)) from (nI_add at0 l))]
  refine mw_go mu_g211 (k := 1) (f1 := (13, [(0, .inr (.inr (some 100)))], [], (mu_si H 100 19 (nI (at0 + l))))) (C := [mu_is H (some 100) 5]) rfl (show mu_is H (some 100) 5 from (h.1.1.is rfl)) ?_
  obtain ⟨u1, r1, d1⟩ : um m (mu_si H 100 19 (nI (at0 + l))) ∧ ur m C H (mu_si H 100 19 (nI (at0 + l))) ∧ ud m (mu_si H 100 19 (nI (at0 + l))) = (upI U 100 19 (nI (at0 + l))) := h.sI (C := C) e rfl
  generalize (mu_si H 100 19 (nI (at0 + l))) = Q1 at u1 r1 d1 ⊢
  have ht1 : ur m C H Q1 := (ur.refl m C H).trans r1
  refine mw_go mu_g211 (k := 2) (f1 := (17, [(0, .inr (.inr (some 100)))], [.inl (mu_i Q1 100 19)], Q1)) (C := [mu_is Q1 (some 100) 5]) rfl (show mu_is Q1 (some 100) 5 from (u1.1.1.is rfl)) ?_
  rw [(show mu_i Q1 100 19 = (nI (at0 + l)) from (ud_i (U := (upI U 100 19 (nI (at0 + l)))) (m := m) (P := 100) (j := 19) d1 rfl))]
  refine mw_go mu_g211 (k := 2) (f1 := (21, [(0, .inr (.inr (some 100)))], [.inl (mu_i Q1 100 20), .inl (nI (at0 + l))], Q1)) (C := [mu_is Q1 (some 100) 5]) rfl (show mu_is Q1 (some 100) 5 from (u1.1.1.is rfl)) ?_
  rw [(show mu_i Q1 100 20 = (nI tot) from (ud_i (U := (upI U 100 19 (nI (at0 + l)))) (m := m) (P := 100) (j := 20) d1 rfl).trans htot)]
  refine mw_if (P := (nI (at0 + l)) < (nI tot)) (a := 24) (b := 28) (fun _ => rfl) trivial (fun h2 => absurd h2 (nI_nlt hend (by omega))) (fun h2 => ?_)
  exact mw_of (fun _ => mu_ret rfl trivial ⟨Q1, rfl, u1, ht1, d1⟩)
def F211 : Uf := ⟨[22], [(100, 18), (100, 21), (100, 19)], [(100, 8), (100, 12)], [], [], false⟩
theorem mc_turn1 (h : um m H) (e : ud m H = U) (hS : spx m U P f) (hW : U.2.1 100 17 = nI W) (hW1 : 1 ≤ W) (hW2 : W ≤ 1024) (hA8 : A * W ≤ (U.2.2.1 100 8).1) (c8 : (U.2.2.1 100 8).1 ≤ 16777216) (hA12 : A ≤ (U.2.2.1 100 12).1) (c12 : (U.2.2.1 100 12).1 ≤ 16777216) (hmk : U.2.1 100 4 = mk) (hsd : sds U W P S0 f mk sd wt) (hSA : S0 ≤ A) (hat : U.2.1 100 19 = nI at0) (hl : U.2.1 100 18 = nI l) (htot : U.2.1 100 20 = nI tot) (hend : at0 + l < tot) (hb : tot ≤ 268435456) : mu_TV (mu_D (d + 5)) 211 [.inr (.inr (some 100))] H (fun H1 => um m H1 ∧ ur m C H H1 ∧ uq F211 U (ud m H1) ∧ (ud m H1).2.1 100 18 = nI (min W (tot - (at0 + l))) ∧ (ud m H1).2.1 100 21 = 1 ∧ (ud m H1).2.1 100 19 = nI (at0 + l) ∧ (ud m H1).2.1 100 20 = nI tot ∧ sdi (upI U 100 19 (nI (at0 + l))) (ud m H1) W (min W (tot - (at0 + l))) P S0 f mk sd wt (at0 + l) (fun q => q < 28)) := by
  refine mu_meth (M := mu_m211) rfl rfl ?_
  refine mw_ht (mu_fn_of (show [0].Nodup by decide)) ?_
  refine mw_go mu_g211 (k := 3) (f1 := (5, [(0, .inr (.inr (some 100)))], [.inl (mu_i H 100 19), .inr (.inr (some 100))], H)) (C := [mu_is H (some 100) 5]) rfl (show mu_is H (some 100) 5 from (h.1.1.is rfl)) ?_
  rw [(show mu_i H 100 19 = (nI at0) from (ud_i (U := U) (m := m) (P := 100) (j := 19) e rfl).trans hat)]
  refine mw_go mu_g211 (k := 2) (f1 := (9, [(0, .inr (.inr (some 100)))], [.inl (mu_i H 100 18), .inl (nI at0), .inr (.inr (some 100))], H)) (C := [mu_is H (some 100) 5]) rfl (show mu_is H (some 100) 5 from (h.1.1.is rfl)) ?_
  rw [(show mu_i H 100 18 = (nI l) from (ud_i (U := U) (m := m) (P := 100) (j := 18) e rfl).trans hl)]
  refine mw_go mu_g211 (k := 1) (f1 := (10, [(0, .inr (.inr (some 100)))], [.inl ((nI at0) + (nI l)), .inr (.inr (some 100))], H)) (C := []) rfl trivial ?_
  rw [(show ((nI at0) + (nI l)) = (nI (at0 + l)) from (nI_add at0 l))]
  refine mw_go mu_g211 (k := 1) (f1 := (13, [(0, .inr (.inr (some 100)))], [], (mu_si H 100 19 (nI (at0 + l))))) (C := [mu_is H (some 100) 5]) rfl (show mu_is H (some 100) 5 from (h.1.1.is rfl)) ?_
  obtain ⟨u1, r1, d1⟩ : um m (mu_si H 100 19 (nI (at0 + l))) ∧ ur m C H (mu_si H 100 19 (nI (at0 + l))) ∧ ud m (mu_si H 100 19 (nI (at0 + l))) = (upI U 100 19 (nI (at0 + l))) := h.sI (C := C) e rfl
  generalize (mu_si H 100 19 (nI (at0 + l))) = Q1 at u1 r1 d1 ⊢
  have qf1 : uq F211 U (upI U 100 19 (nI (at0 + l))) := (uq.refl F211 U).I rfl
  have ht1 : ur m C H Q1 := (ur.refl m C H).trans r1
  refine mw_go mu_g211 (k := 2) (f1 := (17, [(0, .inr (.inr (some 100)))], [.inl (mu_i Q1 100 19)], Q1)) (C := [mu_is Q1 (some 100) 5]) rfl (show mu_is Q1 (some 100) 5 from (u1.1.1.is rfl)) ?_
  rw [(show mu_i Q1 100 19 = (nI (at0 + l)) from (ud_i (U := (upI U 100 19 (nI (at0 + l)))) (m := m) (P := 100) (j := 19) d1 rfl))]
  refine mw_go mu_g211 (k := 2) (f1 := (21, [(0, .inr (.inr (some 100)))], [.inl (mu_i Q1 100 20), .inl (nI (at0 + l))], Q1)) (C := [mu_is Q1 (some 100) 5]) rfl (show mu_is Q1 (some 100) 5 from (u1.1.1.is rfl)) ?_
  rw [(show mu_i Q1 100 20 = (nI tot) from (ud_i (U := (upI U 100 19 (nI (at0 + l)))) (m := m) (P := 100) (j := 20) d1 rfl).trans htot)]
  refine mw_if (P := (nI (at0 + l)) < (nI tot)) (a := 24) (b := 28) (fun _ => rfl) trivial (fun h2 => ?_) (fun h2 => absurd (nI_lt hend (by omega)) h2)
  refine mw_go mu_g211 (k := 1) (f1 := (25, [(0, .inr (.inr (some 100)))], [.inr (.inr (some 100))], Q1)) (C := []) rfl trivial ?_
  have hsd2 : sds (upI U 100 19 (nI (at0 + l))) W P S0 f mk sd wt := hsd
  refine mw_cV (fun _ => rfl) (show mu_is Q1 (some 100) 5 from (u1.1.1.is rfl)) (mc_fillAll (d := d) (C := C) (at0 := at0 + l) (tot := tot) (l := min W (tot - (at0 + l))) (A := A) u1 d1 (spx_keep hS rfl rfl rfl rfl rfl rfl rfl rfl rfl rfl rfl) (show (upI U 100 19 (nI (at0 + l))).2.1 100 17 = nI W from hW) hW1 hW2 (by rw [(show ((upI U 100 19 (nI (at0 + l))).2.2.1 100 8).1 = (U.2.2.1 100 8).1 from rfl)]; exact hA8) (by rw [(show ((upI U 100 19 (nI (at0 + l))).2.2.1 100 8).1 = (U.2.2.1 100 8).1 from rfl)]; exact c8) (by rw [(show ((upI U 100 19 (nI (at0 + l))).2.2.1 100 12).1 = (U.2.2.1 100 12).1 from rfl)]; exact hA12) (by rw [(show ((upI U 100 19 (nI (at0 + l))).2.2.1 100 12).1 = (U.2.2.1 100 12).1 from rfl)]; exact c12) (show (upI U 100 19 (nI (at0 + l))).2.1 100 4 = mk from hmk) hsd2 hSA (show (upI U 100 19 (nI (at0 + l))).2.1 100 20 = nI tot from htot) (show (upI U 100 19 (nI (at0 + l))).2.1 100 19 = nI (at0 + l) from rfl) (by omega) (by omega) rfl) (fun Q3 q3 => ?_)
  obtain ⟨u3, r3, z3, l18, l21, hsi⟩ := q3
  have ht3 : ur m C H Q3 := ht1.trans r3
  obtain ⟨V3, d3⟩ : ∃ V, ud m Q3 = V := ⟨_, rfl⟩
  rw [d3] at z3 l18 l21 hsi
  have qf3 : uq F211 U V3 := qf1.tr z3 rfl
  exact mw_of (fun _ => mu_ret rfl trivial ⟨Q3, rfl, u3, ht3, (by rw [d3]; exact qf3), (by rw [d3]; exact ⟨l18, l21, (z3.i 100 19 rfl), ((z3.i 100 20 rfl).trans htot), hsi⟩)⟩)
end Turn
