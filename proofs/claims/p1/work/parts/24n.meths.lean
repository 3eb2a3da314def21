/-! Printed by wip/whole/gen8.py: all methods of the list -/
theorem ev_ma25 : ∀ j, 0 < j → j < 25 → ev_Mok j := (ev_upto (ev_upto (ev_upto (ev_upto (ev_upto (ev_upto (ev_upto (ev_upto (ev_upto (ev_upto (ev_upto (ev_upto (ev_upto (ev_upto (ev_upto (ev_upto (ev_upto (ev_upto (ev_upto (ev_upto (ev_upto (ev_upto (ev_upto (ev_upto (fun j h1 h2 => absurd h1 (by omega)) ev_m1) ev_m2) ev_m3) ev_m4) ev_m5) ev_m6) ev_m7) ev_m8) ev_m9) ev_m10) ev_m11) ev_m12) ev_m13) ev_m14) ev_m15) ev_m16) ev_m17) ev_m18) ev_m19) ev_m20) ev_m21) ev_m22) ev_m23) ev_m24)
theorem ev_ma49 : ∀ j, 0 < j → j < 49 → ev_Mok j := (ev_upto (ev_upto (ev_upto (ev_upto (ev_upto (ev_upto (ev_upto (ev_upto (ev_upto (ev_upto (ev_upto (ev_upto (ev_upto (ev_upto (ev_upto (ev_upto (ev_upto (ev_upto (ev_upto (ev_upto (ev_upto (ev_upto (ev_upto (ev_upto ev_ma25 ev_m25) ev_m26) ev_m27) ev_m28) ev_m29) ev_m30) ev_m31) ev_m32) ev_m33) ev_m34) ev_m35) ev_m36) ev_m37) ev_m38) ev_m39) ev_m40) ev_m41) ev_m42) ev_m43) ev_m44) ev_m45) ev_m46) ev_m47) ev_m48)
theorem ev_ma73 : ∀ j, 0 < j → j < 73 → ev_Mok j := (ev_upto (ev_upto (ev_upto (ev_upto (ev_upto (ev_upto (ev_upto (ev_upto (ev_upto (ev_upto (ev_upto (ev_upto (ev_upto (ev_upto (ev_upto (ev_upto (ev_upto (ev_upto (ev_upto (ev_upto (ev_upto (ev_upto (ev_upto (ev_upto ev_ma49 ev_m49) ev_m50) ev_m51) ev_m52) ev_m53) ev_m54) ev_m55) ev_m56) ev_m57) ev_m58) ev_m59) ev_m60) ev_m61) ev_m62) ev_m63) ev_m64) ev_m65) ev_m66) ev_m67) ev_m68) ev_m69) ev_m70) ev_m71) ev_m72)
theorem ev_ma97 : ∀ j, 0 < j → j < 97 → ev_Mok j := (ev_upto (ev_upto (ev_upto (ev_upto (ev_upto (ev_upto (ev_upto (ev_upto (ev_upto (ev_upto (ev_upto (ev_upto (ev_upto (ev_upto (ev_upto (ev_upto (ev_upto (ev_upto (ev_upto (ev_upto (ev_upto (ev_upto (ev_upto (ev_upto ev_ma73 ev_m73) ev_m74) ev_m75) ev_m76) ev_m77) ev_m78) ev_m79) ev_m80) ev_m81) ev_m82) ev_m83) ev_m84) ev_m85) ev_m86) ev_m87) ev_m88) ev_m89) ev_m90) ev_m91) ev_m92) ev_m93) ev_m94) ev_m95) ev_m96)
theorem ev_mz : ∀ j, 0 < j → j < 115 → ev_Mok j := (ev_upto (ev_upto (ev_upto (ev_upto (ev_upto (ev_upto (ev_upto (ev_upto (ev_upto (ev_upto (ev_upto (ev_upto (ev_upto (ev_upto (ev_upto (ev_upto (ev_upto (ev_upto ev_ma97 ev_m97) ev_m98) ev_m99) ev_m100) ev_m101) ev_m102) ev_m103) ev_m104) ev_m105) ev_m106) ev_m107) ev_m108) ev_m109) ev_m110) ev_m111) ev_m112) ev_m113) ev_m114)
theorem ev_inf_some (j : Nat) (h : 115 ≤ j) : ev_inf j = none := by
  unfold ev_inf
  by_cases h2 : j < 120
  · have hc : j = 115 ∨ j = 116 ∨ j = 117 ∨ j = 118 ∨ j = 119 := by omega
    rcases hc with rfl | rfl | rfl | rfl | rfl <;> rfl
  · have e : ev_infs[j / 24]? = none := by
      apply List.getElem?_eq_none
      show 5 ≤ j / 24
      omega
    rw [e]
theorem ev_ms_some : ∀ j, j < 115 → (ev_ms j).isSome = true := by decide +kernel
theorem ev_mok (j : Nat) (hj : 0 < j) : ev_Mok j := by
  by_cases h : j < 115
  · exact ev_mz j hj h
  · intro N nL ret hh code h1 h2
    rw [ev_inf_some j (by omega)] at h1
    cases h1
theorem ev_inf_ok (j : Nat) (N : ev_N) (h : ev_inf j = some N) (hj : 0 < j) : ev_nok N := by
  have hl : j < 115 := by
    by_cases q : j < 115
    · exact q
    · rw [ev_inf_some j (by omega)] at h
      cases h
  obtain ⟨⟨nL, ret, hh, code⟩, hM⟩ := Option.isSome_iff_exists.mp (ev_ms_some j hl)
  obtain ⟨k1, k2, k3, k4, k5, k6, k7, ps, k8⟩ := ev_mok j hj N nL ret hh code h hM
  exact ⟨k3, by omega⟩
def ev_atc (own : String) (ic x : Nat) (pls dps : List Nat) : Bool := (Bundle.ownAtoms0 own ic (ev_xn x) ev_chain).all fun w => decide (w = .castable (ev_xn x) (ev_xn x)) || decide (w = ev_ref1) || decide (w = ev_ref2) || decide (w = ev_lay1) || decide (w = ev_lay2) || (match w with | .declares _ => dps.any fun pl => decide (ev_pl pl = some w) | _ => pls.any fun pl => ev_hw pl w)
theorem ev_atc_ok {own : String} {ic x : Nat} {pls dps : List Nat} (h : ev_atc own ic x pls dps = true) : ev_atoms own ic x := by
  intro w hw
  have z := List.all_eq_true.mp h w hw
  simp only [Bool.or_eq_true, decide_eq_true_eq] at z
  rcases z with ((((z | z) | z) | z) | z) | z
  · exact Or.inr (Or.inl z)
  · exact Or.inr (Or.inr (Or.inl z))
  · exact Or.inr (Or.inr (Or.inr (Or.inl z)))
  · exact Or.inr (Or.inr (Or.inr (Or.inr (Or.inl z))))
  · exact Or.inr (Or.inr (Or.inr (Or.inr (Or.inr (Or.inl z)))))
  · split at z
    · obtain ⟨pl, -, h2⟩ := List.any_eq_true.mp z
      rw [decide_eq_true_eq] at h2
      exact Or.inr (Or.inr (Or.inr (Or.inr (Or.inr (Or.inr ⟨ev_pl_mem h2, _, rfl⟩)))))
    · obtain ⟨pl, -, h2⟩ := List.any_eq_true.mp z
      exact Or.inl (ev_hw_mem h2)
set_option maxRecDepth 100000 in
theorem ev_at0 : ev_atoms "PathProver" 84 3 ∧ Cond.castable (ev_xn 3) (ev_xn 3) ∈ lw_tbl := ⟨ev_atc_ok (pls := [1023, 1026, 1047, 1048, 4208, 4209, 4216, 4217, 4218, 4219, 4220, 4221, 4222, 4223, 4224, 4225, 4226, 4227, 4228, 4229, 4230, 4231, 4232, 4233, 4235, 4237, 4238, 5001, 5002, 5004, 5005, 5007, 5009, 5010, 5011, 5012, 5013, 5014, 5015, 5016, 5017, 5018, 5019, 5022, 5023, 5024, 5029, 5032, 8176, 8177, 8178, 8185, 17042]) (dps := [4210, 4212, 4214]) (by decide +kernel), (ev_nw_mem (pl := 4209) (by decide +kernel)).1⟩
set_option maxRecDepth 100000 in
theorem ev_at1 : ev_atoms "PathProver" 103 0 ∧ Cond.castable (ev_xn 0) (ev_xn 0) ∈ lw_tbl := ⟨ev_atc_ok (pls := [1023, 1027, 1047, 1048, 4219, 4221, 4223, 4225, 4227, 4228, 4229, 4230, 4231, 4232, 4233, 4235, 4237, 4238, 5001, 5002, 5004, 5005, 5007, 5009, 5014, 5015, 5016, 5017, 5018, 5019, 5022, 5023, 5024, 5055, 5056, 5057, 5058, 5059, 5060, 5061, 5062, 5063, 5064, 5065, 5066, 5067, 5068, 8132, 8133, 8134]) (dps := [4210, 4212, 4214]) (by decide +kernel), (ev_nw_mem (pl := 5056) (by decide +kernel)).1⟩
set_option maxRecDepth 100000 in
theorem ev_at2 : ev_atoms "PathProver" 114 2 ∧ Cond.castable (ev_xn 2) (ev_xn 2) ∈ lw_tbl := ⟨ev_atc_ok (pls := [1023, 1030, 1047, 1048, 4219, 4221, 4223, 4225, 4227, 4228, 4229, 4230, 4231, 4232, 4233, 4235, 4237, 4238, 5001, 5002, 5003, 5004, 5005, 5007, 5009, 5014, 5015, 5016, 5017, 5018, 5019, 5022, 5023, 5024, 7101, 7102, 7103, 7104, 7105, 7106, 7107, 7108, 7109, 7110, 7111, 7112, 7113, 7114]) (dps := [4210, 4212, 4214]) (by decide +kernel), (ev_nw_mem (pl := 7102) (by decide +kernel)).1⟩
set_option maxRecDepth 100000 in
theorem ev_at3 : ev_atoms "PathProverModel" 293 0 ∧ Cond.castable (ev_xn 0) (ev_xn 0) ∈ lw_tbl := ⟨ev_atc_ok (pls := [1023, 1027, 1047, 1048, 4219, 4221, 4223, 4225, 4227, 4228, 4229, 4230, 4231, 4232, 4233, 4235, 4237, 4238, 5001, 5002, 5004, 5005, 5007, 5009, 5014, 5015, 5016, 5017, 5018, 5019, 5022, 5023, 5024, 5055, 5056, 5057, 5058, 5059, 5060, 5061, 5062, 5064, 5065, 5066, 5067, 5068, 8132, 8133, 8134, 14031]) (dps := [4210, 4212, 4214]) (by decide +kernel), (ev_nw_mem (pl := 5056) (by decide +kernel)).1⟩
set_option maxRecDepth 100000 in
theorem ev_at4 : ev_atoms "PathProver" 340 1 ∧ Cond.castable (ev_xn 1) (ev_xn 1) ∈ lw_tbl := ⟨ev_atc_ok (pls := [1023, 1038, 1047, 1048, 4219, 4221, 4223, 4225, 4227, 4228, 4229, 4230, 4231, 4232, 4233, 4235, 4237, 4238, 5001, 5002, 5004, 5005, 5007, 5009, 5014, 5015, 5016, 5017, 5018, 5019, 5022, 5023, 5024, 7156, 7157, 7158, 7159, 7160, 7161, 7162, 7163, 7164, 7165, 7166, 7167, 7168, 7169]) (dps := [4210, 4212, 4214]) (by decide +kernel), (ev_nw_mem (pl := 7157) (by decide +kernel)).1⟩
theorem ev_at_all : ∀ q ∈ ev_atl, ev_atoms q.1 q.2.1 q.2.2 ∧ Cond.castable (ev_xn q.2.2) (ev_xn q.2.2) ∈ lw_tbl := by
  intro q hq
  simp only [ev_atl, List.mem_cons, List.not_mem_nil, or_false] at hq
  rcases hq with rfl | rfl | rfl | rfl | rfl
  · exact ev_at0
  · exact ev_at1
  · exact ev_at2
  · exact ev_at3
  · exact ev_at4
