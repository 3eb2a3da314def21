/-! The reference: allValues whole -/
theorem rp_allValues {Hb H : mu_H} {D : MD} {d : Nat} (hb : mdb D) (hy : mdy D) (hm : mdn D) (hr : rms Hb D H) : mu_TE 3 (mu_D (d + 5)) 462 [.inr (.inr (some 169))] H (fun H1 => 14 < bsm D (D.pr 1).length ∧ kep (fun p => D.G p) 1 10 H H1) (fun v H1 => v = none ∧ bsm D (D.pr 1).length ≤ 14 ∧ rms Hb D H1 ∧ mu_i H1 D.mp 6 = nI (bsm D (D.pr 1).length) ∧ (∀ v, v < (D.pr 1).length → ∀ k, k < tsn (typ D v) → tvo Hb D H1 v k) ∧ vfr D H H1) := by
  refine mu_meth (M := mu_m462) rfl rfl ?_
  refine mw_ht (mu_fn_of (show [0].Nodup by decide)) ?_
  have b5 := hb.2.2.1
  have bl := bsm_le (D := D) (D.pr 1).length
  obtain ⟨om1, ⟨om0_1, om1_1⟩, ol1, on1, oc1, oj1⟩ := hr.mod
  refine mw_go mu_g462 (k := 2) (f1 := (4, [(0, .inr (.inr (some 169)))], [.inr (.inr (mu_r H 169 18))], H)) (C := [mu_is H (some 169) 1]) rfl (show mu_is H (some 169) 1 from hr.2.2.1.1) ?_
  refine mw_fr (f' := (4, [(0, .inr (.inr (some 169)))], [.inr (.inr (some D.mp))], H)) (by first | (rw [hr.2.2.1.2]; done) | (rw [hr.2.2.1.2]; rfl)) ?_
  refine mw_go mu_g462 (k := 2) (f1 := (8, [(0, .inr (.inr (some 169)))], [], (mu_si H D.mp 6 (0 : Int32)))) (C := [mu_is H (some D.mp) 16]) rfl (show mu_is H (some D.mp) 16 from om1) ?_
  have hG := hr.1.1.1.2
  have hr2 := hr.wr (q := D.mp) (j := 6) (x := 0) hG (Or.inl ⟨hr.1.1.1.1.2.2, Or.inl rfl⟩)
  have h62 : mu_i (mu_si H D.mp 6 (0 : Int32)) D.mp 6 = nI (bsm D 0) := by rw [mu_i_si, if_pos ⟨rfl, rfl⟩]; rfl
  have hf2 := (vfr.rf (D := D) (H := H)).si (q := D.mp) (j := 6) (x := 0) hG
  refine mw_go mu_g462 (k := 2) (f1 := (10, [(1, .inl (0 : Int32)), (0, .inr (.inr (some 169)))], [], (mu_si H D.mp 6 (0 : Int32)))) (C := []) rfl trivial ?_
  refine mw_sub (L' := [(1, .inl (nI 0)), (0, .inr (.inr (some 169)))]) (by intro x hx; simp only [List.mem_cons, List.not_mem_nil, or_false] at hx ⊢; rcases hx with rfl | rfl <;> simp [nI]) ?_
  refine rp_avS (H0 := H) hb hy hm (fun K r1 k6 f1 => ?_) (D.pr 1).length 0 _ (Nat.zero_add _) hr2 h62 hf2
  clear hr2 h62 hf2
  obtain ⟨om2, ⟨om0_2, om1_2⟩, ol2, on2, oc2, oj2⟩ := r1.mod
  refine mw_go mu_g462 (k := 3) (f1 := (72, [(0, .inr (.inr (some 169)))], [.inr (.inr (mu_r K 169 18)), .inr (.inr (some 169))], K)) (C := [mu_is K (some 169) 1]) rfl (show mu_is K (some 169) 1 from r1.2.2.1.1) ?_
  refine mw_fr (f' := (72, [(0, .inr (.inr (some 169)))], [.inr (.inr (some D.mp)), .inr (.inr (some 169))], K)) (by first | (rw [r1.2.2.1.2]; done) | (rw [r1.2.2.1.2]; rfl)) ?_
  refine mw_go mu_g462 (k := 1) (f1 := (75, [(0, .inr (.inr (some 169)))], [.inl (mu_i K D.mp 6), .inr (.inr (some 169))], K)) (C := [mu_is K (some D.mp) 16]) rfl (show mu_is K (some D.mp) 16 from om2) ?_
  refine mw_fr (f' := (75, [(0, .inr (.inr (some 169)))], [.inl (nI (bsm D (D.pr 1).length)), .inr (.inr (some 169))], K)) (by first | (rw [k6]; done) | (rw [k6]; rfl)) ?_
  refine mw_go mu_g462 (k := 1) (f1 := (77, [(0, .inr (.inr (some 169)))], [.inl (14 : Int32), .inl (nI (bsm D (D.pr 1).length)), .inr (.inr (some 169))], K)) (C := []) rfl trivial ?_
  refine mw_if (P := (14 : Int32) < (nI (bsm D (D.pr 1).length))) (a := 84) (b := 80) (fun _ => rfl) trivial (fun h1 => ?_) (fun h1 => ?_)
  · -- 84
    have lt : 14 < bsm D (D.pr 1).length := nI_below (a := 14) (by omega) (by omega) h1
    refine mw_go mu_g462 (k := 1) (f1 := (85, [(0, .inr (.inr (some 169)))], [.inl (0 : Int32), .inr (.inr (some 169))], K)) (C := []) rfl trivial ?_
    exact mw_cE (as := [.inl (0 : Int32)]) (o := some 169) (S1 := []) rfl rfl rfl rfl (Nat.le_of_ble_eq_true rfl) (by decide) r1.2.2.1.1 rfl (by decide) (rp_small (x := 0)) (fun H9 e9 => by rw [e9.2]; exact Or.inl ⟨_, rfl, lt, (f1.exc).wk (fun _ _ z => z) (by decide) (by decide)⟩) (fun v9 H9 e9 => absurd rfl e9.1)
  · -- 80
    have le : bsm D (D.pr 1).length ≤ 14 := by
      by_cases z : 14 < bsm D (D.pr 1).length
      · exact absurd (show (14 : Int32) < nI (bsm D (D.pr 1).length) from nI_lt (a := 14) z (by omega)) h1
      · omega
    refine mw_go mu_g462 (k := 2) (f1 := (85, [(0, .inr (.inr (some 169)))], [.inl (1 : Int32), .inr (.inr (some 169))], K)) (C := []) rfl trivial ?_
    refine mw_cE (as := [.inl (1 : Int32)]) (o := some 169) (S1 := []) rfl rfl rfl rfl (Nat.le_of_ble_eq_true rfl) (by decide) r1.2.2.1.1 rfl (by decide) (rp_small (x := 1)) (fun H9 e9 => absurd e9.1 (by decide)) (fun v9 H9 e9 => ?_)
    obtain ⟨_, rfl, e9⟩ := e9
    rw [e9]
    clear e9 H9
    show mu_W _ mu_m462 (88, [(0, .inr (.inr (some 169)))], [], K) _
    refine mw_go mu_g462 (k := 2) (f1 := (90, [(1, .inl (0 : Int32)), (0, .inr (.inr (some 169)))], [], K)) (C := []) rfl trivial ?_
    refine mw_sub (L' := [(1, .inl (nI 0)), (0, .inr (.inr (some 169)))]) (by intro x hx; simp only [List.mem_cons, List.not_mem_nil, or_false] at hx ⊢; rcases hx with rfl | rfl <;> simp [nI]) ?_
    exact rp_avO (H0 := H) hb hy (fun H1 z1 z2 z3 z4 => Or.inr ⟨_, H1, rfl, rfl, le, z1, z3, z4, z2⟩) (D.pr 1).length 0 _ (Nat.zero_add _) r1 f1 k6 (fun v2 hv2 => absurd hv2 (Nat.not_lt_zero _))
