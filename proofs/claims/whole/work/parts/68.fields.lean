/-! Rows in fields of objects; the first methods of Model and Parser that only read them -/
/-- the field j of the object q holds Rows of width W -/
def rf (H : mu_H) (q j W : Nat) : Prop := mu_r H q j = some (mu_p (mu_r H q j)) ∧ ∃ n c, rw_ok H (mu_p (mu_r H q j)) W n c
/-- what a row has in a column -/
def rf_get (H : mu_H) (q j W : Nat) (row : Int32) (k : Nat) : Int32 := rw_get H (mu_p (mu_r H q j)) W (mu_i H (mu_p (mu_r H q j)) 2).toNatClampNeg row k
theorem rf.is {H : mu_H} {q j W : Nat} (h : rf H q j W) : mu_is H (mu_r H q j) 10 := by
  obtain ⟨h1, n, c, h2⟩ := h
  rw [h1]
  exact h2.1
theorem rf_get_ok {d q j W : Nat} {H : mu_H} (h : rf H q j W) (row : Int32) {k : Nat} (hk : k < 2 ^ 31) : mu_TI (mu_D (d + 1)) 46 [.inr (.inr (mu_r H q j)), .inl row, .inl (nI k)] H (fun x H1 => x = rf_get H q j W row k ∧ H1 = H) := by
  obtain ⟨h1, n, c, h2⟩ := h
  have hn : (mu_i H (mu_p (mu_r H q j)) 2).toNatClampNeg = n := by
    have := rw_n h2
    rw [h2.2.2.2.1, nI_clamp (by omega)]
  unfold rf_get
  rw [hn]
  have z := rw_get_ok (d := d) h2 row hk
  rw [← h1] at z
  exact z
/-- PathProver$Model.sortOf(I)I -/
abbrev mu_m126 : ev_M := (3, (some .int), [], ev_b126)
theorem mu_g126 : mu_good mu_m126 := mu_goodk ev_k126
def md_sortOf (H : mu_H) (q : Nat) (x : Int32) : Int32 := (if (rf_get H q 3 6 x 1) = 0 then (1 : Int32) else (if (rf_get H q 3 6 x 1) = (2 : Int32) then (if (rf_get H q 4 2 (rf_get H q 3 6 x 2) 1) = 0 then (2 : Int32) else (3 : Int32)) else (2 : Int32)))
theorem md_sortOf_ok {d q : Nat} {H : mu_H} (hq : mu_is H (some q) 6) (hm_3 : rf H q 3 6) (hm_4 : rf H q 4 2) (x : Int32) : mu_TI (mu_D (d + 2)) 126 [.inr (.inr (some q)), .inl x] H (fun r H1 => r = md_sortOf H q x ∧ H1 = H) := by
  refine mu_meth (M := mu_m126) rfl rfl ?_
  refine mu_go mu_g126 (k := 4) (f1 := (6, [(0, .inr (.inr (some q))), (1, .inl x)], [.inl (1 : Int32), .inl x, .inr (.inr (mu_r H q 3))], H)) (C := [mu_is H (some q) 6]) rfl (show mu_is H (some q) 6 from hq) ?_
  refine mu_cIe rfl (show mu_is H (mu_r H q 3) 10 from hm_3.is) (rf_get_ok (d := d) hm_3 x (k := 1) (by decide)) ?_
  refine mu_go mu_g126 (k := 2) (f1 := (11, [(2, .inl (rf_get H q 3 6 x 1)), (0, .inr (.inr (some q))), (1, .inl x)], [.inl (rf_get H q 3 6 x 1)], H)) (C := []) rfl trivial ?_
  refine mu_if (P := (rf_get H q 3 6 x 1) = 0) (a := 14) (b := 16) rfl trivial (fun h2 => ?_) (fun h2 => ?_)
  · -- 14: (rf_get H q 3 6 x 1) = 0
    refine mu_go mu_g126 (k := 1) (f1 := (15, [(2, .inl (rf_get H q 3 6 x 1)), (0, .inr (.inr (some q))), (1, .inl x)], [.inl (1 : Int32)], H)) (C := []) rfl trivial ?_
    exact mu_ret rfl trivial ⟨_, _, rfl, (by unfold md_sortOf; rw [if_pos h2]), rfl⟩
  · -- 16: not (rf_get H q 3 6 x 1) = 0
    refine mu_go mu_g126 (k := 2) (f1 := (18, [(2, .inl (rf_get H q 3 6 x 1)), (0, .inr (.inr (some q))), (1, .inl x)], [.inl (2 : Int32), .inl (rf_get H q 3 6 x 1)], H)) (C := []) rfl trivial ?_
    refine mu_if (P := (rf_get H q 3 6 x 1) = (2 : Int32)) (a := 21) (b := 45) rfl trivial (fun h3 => ?_) (fun h3 => ?_)
    · -- 21: (rf_get H q 3 6 x 1) = (2 : Int32)
      refine mu_go mu_g126 (k := 6) (f1 := (31, [(2, .inl (rf_get H q 3 6 x 1)), (0, .inr (.inr (some q))), (1, .inl x)], [.inl (2 : Int32), .inl x, .inr (.inr (mu_r H q 3)), .inr (.inr (mu_r H q 4))], H)) (C := [mu_is H (some q) 6, mu_is H (some q) 6]) rfl (show (mu_is H (some q) 6) ∧ (mu_is H (some q) 6) from ⟨hq, hq⟩) ?_
      refine mu_cIe rfl (show mu_is H (mu_r H q 3) 10 from hm_3.is) (rf_get_ok (d := d) hm_3 x (k := 2) (by decide)) ?_
      refine mu_go mu_g126 (k := 1) (f1 := (35, [(2, .inl (rf_get H q 3 6 x 1)), (0, .inr (.inr (some q))), (1, .inl x)], [.inl (1 : Int32), .inl (rf_get H q 3 6 x 2), .inr (.inr (mu_r H q 4))], H)) (C := []) rfl trivial ?_
      refine mu_cIe rfl (show mu_is H (mu_r H q 4) 10 from hm_4.is) (rf_get_ok (d := d) hm_4 (rf_get H q 3 6 x 2) (k := 1) (by decide)) ?_
      refine mu_if (P := (rf_get H q 4 2 (rf_get H q 3 6 x 2) 1) = 0) (a := 45) (b := 41) rfl trivial (fun h6 => ?_) (fun h6 => ?_)
      · -- 45: (rf_get H q 4 2 (rf_get H q 3 6 x 2) 1) = 0
        refine mu_go mu_g126 (k := 1) (f1 := (46, [(2, .inl (rf_get H q 3 6 x 1)), (0, .inr (.inr (some q))), (1, .inl x)], [.inl (2 : Int32)], H)) (C := []) rfl trivial ?_
        exact mu_ret rfl trivial ⟨_, _, rfl, (by unfold md_sortOf; rw [if_neg h2, if_pos h3, if_pos h6]), rfl⟩
      · -- 41: not (rf_get H q 4 2 (rf_get H q 3 6 x 2) 1) = 0
        refine mu_go mu_g126 (k := 2) (f1 := (46, [(2, .inl (rf_get H q 3 6 x 1)), (0, .inr (.inr (some q))), (1, .inl x)], [.inl (3 : Int32)], H)) (C := []) rfl trivial ?_
        exact mu_ret rfl trivial ⟨_, _, rfl, (by unfold md_sortOf; rw [if_neg h2, if_pos h3, if_neg h6]), rfl⟩
    · -- 45: not (rf_get H q 3 6 x 1) = (2 : Int32)
      refine mu_go mu_g126 (k := 1) (f1 := (46, [(2, .inl (rf_get H q 3 6 x 1)), (0, .inr (.inr (some q))), (1, .inl x)], [.inl (2 : Int32)], H)) (C := []) rfl trivial ?_
      exact mu_ret rfl trivial ⟨_, _, rfl, (by unfold md_sortOf; rw [if_neg h2, if_neg h3]), rfl⟩
/-- PathProver$Model.valuesOf(I)I -/
abbrev mu_m136 : ev_M := (4, (some .int), [], ev_b136)
theorem mu_g136 : mu_good mu_m136 := mu_goodk ev_k136
def md_valuesOf (H : mu_H) (q : Nat) (x : Int32) : Int32 := (if (rf_get H q 3 6 x 1) = 0 then (2 : Int32) else (if (rf_get H q 3 6 x 1) = (1 : Int32) then (((rf_get H q 3 6 x 3) - (rf_get H q 3 6 x 2)) + (1 : Int32)) else (rf_get H q 3 6 x 3)))
theorem md_valuesOf_ok {d q : Nat} {H : mu_H} (hq : mu_is H (some q) 6) (hm_3 : rf H q 3 6) (x : Int32) : mu_TI (mu_D (d + 2)) 136 [.inr (.inr (some q)), .inl x] H (fun r H1 => r = md_valuesOf H q x ∧ H1 = H) := by
  refine mu_meth (M := mu_m136) rfl rfl ?_
  refine mu_go mu_g136 (k := 4) (f1 := (6, [(0, .inr (.inr (some q))), (1, .inl x)], [.inl (1 : Int32), .inl x, .inr (.inr (mu_r H q 3))], H)) (C := [mu_is H (some q) 6]) rfl (show mu_is H (some q) 6 from hq) ?_
  refine mu_cIe rfl (show mu_is H (mu_r H q 3) 10 from hm_3.is) (rf_get_ok (d := d) hm_3 x (k := 1) (by decide)) ?_
  refine mu_go mu_g136 (k := 2) (f1 := (11, [(2, .inl (rf_get H q 3 6 x 1)), (0, .inr (.inr (some q))), (1, .inl x)], [.inl (rf_get H q 3 6 x 1)], H)) (C := []) rfl trivial ?_
  refine mu_if (P := (rf_get H q 3 6 x 1) = 0) (a := 14) (b := 16) rfl trivial (fun h2 => ?_) (fun h2 => ?_)
  · -- 14: (rf_get H q 3 6 x 1) = 0
    refine mu_go mu_g136 (k := 1) (f1 := (15, [(2, .inl (rf_get H q 3 6 x 1)), (0, .inr (.inr (some q))), (1, .inl x)], [.inl (2 : Int32)], H)) (C := []) rfl trivial ?_
    exact mu_ret rfl trivial ⟨_, _, rfl, (by unfold md_valuesOf; rw [if_pos h2]), rfl⟩
  · -- 16: not (rf_get H q 3 6 x 1) = 0
    refine mu_go mu_g136 (k := 4) (f1 := (22, [(2, .inl (rf_get H q 3 6 x 1)), (0, .inr (.inr (some q))), (1, .inl x)], [.inl (3 : Int32), .inl x, .inr (.inr (mu_r H q 3))], H)) (C := [mu_is H (some q) 6]) rfl (show mu_is H (some q) 6 from hq) ?_
    refine mu_cIe rfl (show mu_is H (mu_r H q 3) 10 from hm_3.is) (rf_get_ok (d := d) hm_3 x (k := 3) (by decide)) ?_
    refine mu_go mu_g136 (k := 3) (f1 := (28, [(3, .inl (rf_get H q 3 6 x 3)), (2, .inl (rf_get H q 3 6 x 1)), (0, .inr (.inr (some q))), (1, .inl x)], [.inl (1 : Int32), .inl (rf_get H q 3 6 x 1)], H)) (C := []) rfl trivial ?_
    refine mu_if (P := (rf_get H q 3 6 x 1) = (1 : Int32)) (a := 31) (b := 47) rfl trivial (fun h4 => ?_) (fun h4 => ?_)
    · -- 31: (rf_get H q 3 6 x 1) = (1 : Int32)
      refine mu_go mu_g136 (k := 5) (f1 := (38, [(3, .inl (rf_get H q 3 6 x 3)), (2, .inl (rf_get H q 3 6 x 1)), (0, .inr (.inr (some q))), (1, .inl x)], [.inl (2 : Int32), .inl x, .inr (.inr (mu_r H q 3)), .inl (rf_get H q 3 6 x 3)], H)) (C := [mu_is H (some q) 6]) rfl (show mu_is H (some q) 6 from hq) ?_
      refine mu_cIe rfl (show mu_is H (mu_r H q 3) 10 from hm_3.is) (rf_get_ok (d := d) hm_3 x (k := 2) (by decide)) ?_
      refine mu_go mu_g136 (k := 4) (f1 := (48, [(3, .inl (rf_get H q 3 6 x 3)), (2, .inl (rf_get H q 3 6 x 1)), (0, .inr (.inr (some q))), (1, .inl x)], [.inl (((rf_get H q 3 6 x 3) - (rf_get H q 3 6 x 2)) + (1 : Int32))], H)) (C := []) rfl trivial ?_
      exact mu_ret rfl trivial ⟨_, _, rfl, (by unfold md_valuesOf; rw [if_neg h2, if_pos h4]), rfl⟩
    · -- 47: not (rf_get H q 3 6 x 1) = (1 : Int32)
      refine mu_go mu_g136 (k := 1) (f1 := (48, [(3, .inl (rf_get H q 3 6 x 3)), (2, .inl (rf_get H q 3 6 x 1)), (0, .inr (.inr (some q))), (1, .inl x)], [.inl (rf_get H q 3 6 x 3)], H)) (C := []) rfl trivial ?_
      exact mu_ret rfl trivial ⟨_, _, rfl, (by unfold md_valuesOf; rw [if_neg h2, if_neg h4]), rfl⟩
