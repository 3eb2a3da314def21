/-! JUDGE: SORTS on its stack -/
/-- the length of the Judge's stack -/
def jn (H : mu_H) : Nat := mu_n H (mu_p (mu_r H 91 2))
theorem jn_le {H : mu_H} (hg : gi H) : jn H ≤ 16777216 := (hg.2.2.2.2.2.2.2.2.1 (91, 2) (List.mem_cons_of_mem _ (List.mem_cons_of_mem _ (gi_two rfl)))).2
section JudgeReads
variable {H : mu_H} {d m b p : Nat}
/-- PathProver$Judge.areTruths(II)Z -/
abbrev mu_m195 : ev_M := (4, (some .boolean), [], ev_b195)
theorem mu_g195 : mu_good mu_m195 := mu_goodk ev_k195
theorem jg_truths (hg : gi H) (hbp : b + p < jn H) : mu_TI (mu_D (d + 1)) 195 [.inr (.inr (some 91)), .inl (nI b), .inl (nI p)] H (fun x H1 => H = H1 ∧ (x = 0 ∨ x = 1)) := by
  have hjn := jn_le hg
  refine mu_meth (M := mu_m195) rfl rfl ?_
  refine mw_ht (mu_fn_of (show [0, 1, 2].Nodup by decide)) ?_
  refine mw_go mu_g195 (k := 2) (f1 := (2, [(3, .inl (nI b)), (0, .inr (.inr (some 91))), (1, .inl (nI b)), (2, .inl (nI p))], [], H)) (C := []) rfl trivial ?_
  refine mw_sub (L' := [(3, .inl (nI b)), (0, .inr (.inr (some 91))), (1, .inl (nI b)), (2, .inl (nI p))]) (by simp) ?_
  refine mw_down (α := Nat) (fun zs => (2, [(3, .inl (nI zs)), (0, .inr (.inr (some 91))), (1, .inl (nI b)), (2, .inl (nI p))], [], H)) (fun zs => b + p + 2 - zs) (fun zs => (b ≤ zs) ∧ (zs ≤ b + p)) (fun zs hs ih => ?_) b ⟨(show b ≤ b from by omega), (show b ≤ b + p from by omega)⟩
  obtain ⟨k, rfl⟩ : ∃ y, y = zs := ⟨zs, rfl⟩
  obtain ⟨hk1, hk2⟩ := hs
  have hk1 : b ≤ k := hk1
  have hk2 : k ≤ b + p := hk2
  show mu_W _ _ (2, [(3, .inl (nI k)), (0, .inr (.inr (some 91))), (1, .inl (nI b)), (2, .inl (nI p))], [], H) _
  refine mw_go mu_g195 (k := 4) (f1 := (6, [(3, .inl (nI k)), (0, .inr (.inr (some 91))), (1, .inl (nI b)), (2, .inl (nI p))], [.inl ((nI b) + (nI p)), .inl (nI k)], H)) (C := []) rfl trivial ?_
  rw [nI_add]
  refine mw_if (P := (nI k) < (nI (b + p))) (a := 9) (b := 38) (fun _ => rfl) trivial (fun h1 => ?_) (fun h1 => ?_)
  · -- 9: (nI k) < (nI (b + p))
    have hkb : k < b + p := (nI_ltI (by omega) (by omega)).mp h1
    refine mw_go mu_g195 (k := 5) (f1 := (16, [(3, .inl (nI k)), (0, .inr (.inr (some 91))), (1, .inl (nI b)), (2, .inl (nI p))], [.inl (1 : Int32), .inl (mu_i H (mu_p (mu_r H 91 2)) (nI k).toNatClampNeg)], H)) (C := [mu_is H (some 91) 3, mu_isr H (mu_r H 91 2) 100, vp_in (nI k) (mu_n H (mu_p (mu_r H 91 2)))]) rfl (show (mu_is H (some 91) 3) ∧ (mu_isr H (mu_r H 91 2) 100) ∧ (vp_in (nI k) (mu_n H (mu_p (mu_r H 91 2)))) from ⟨hg.is rfl, (hg.o (p := 91) (j := 2) rfl).r, (show vp_in _ (jn H) from vp_in_nI (by omega) (by omega))⟩) ?_
    refine mw_if (P := (mu_i H (mu_p (mu_r H 91 2)) (nI k).toNatClampNeg) = (1 : Int32)) (a := 32) (b := 19) (fun _ => rfl) trivial (fun h2 => ?_) (fun h2 => ?_)
    · -- 32: (mu_i H (mu_p (mu_r H 91 2)) (nI k).toNatClampNeg) = (1 : Int32)
      refine mw_go mu_g195 (k := 2) (f1 := (2, [(3, .inl ((nI k) + 1)), (0, .inr (.inr (some 91))), (1, .inl (nI b)), (2, .inl (nI p))], [], H)) (C := []) rfl trivial ?_
      rw [nI_1]
      exact mw_sub (by simp) (ih (k + 1) ⟨(show b ≤ (k + 1) from by omega), (show (k + 1) ≤ b + p from by omega)⟩ (by show b + p + 2 - (k + 1) < b + p + 2 - k; omega))
    · -- 19: not (mu_i H (mu_p (mu_r H 91 2)) (nI k).toNatClampNeg) = (1 : Int32)
      refine mw_go mu_g195 (k := 5) (f1 := (27, [(3, .inl (nI k)), (0, .inr (.inr (some 91))), (1, .inl (nI b)), (2, .inl (nI p))], [.inl (9 : Int32), .inl (mu_i H (mu_p (mu_r H 91 2)) (nI k).toNatClampNeg)], H)) (C := [mu_is H (some 91) 3, mu_isr H (mu_r H 91 2) 100, vp_in (nI k) (mu_n H (mu_p (mu_r H 91 2)))]) rfl (show (mu_is H (some 91) 3) ∧ (mu_isr H (mu_r H 91 2) 100) ∧ (vp_in (nI k) (mu_n H (mu_p (mu_r H 91 2)))) from ⟨hg.is rfl, (hg.o (p := 91) (j := 2) rfl).r, (show vp_in _ (jn H) from vp_in_nI (by omega) (by omega))⟩) ?_
      refine mw_if (P := (mu_i H (mu_p (mu_r H 91 2)) (nI k).toNatClampNeg) = (9 : Int32)) (a := 32) (b := 30) (fun _ => rfl) trivial (fun h3 => ?_) (fun h3 => ?_)
      · -- 32: (mu_i H (mu_p (mu_r H 91 2)) (nI k).toNatClampNeg) = (9 : Int32)
        refine mw_go mu_g195 (k := 2) (f1 := (2, [(3, .inl ((nI k) + 1)), (0, .inr (.inr (some 91))), (1, .inl (nI b)), (2, .inl (nI p))], [], H)) (C := []) rfl trivial ?_
        rw [nI_1]
        exact mw_sub (by simp) (ih (k + 1) ⟨(show b ≤ (k + 1) from by omega), (show (k + 1) ≤ b + p from by omega)⟩ (by show b + p + 2 - (k + 1) < b + p + 2 - k; omega))
      · -- 30: not (mu_i H (mu_p (mu_r H 91 2)) (nI k).toNatClampNeg) = (9 : Int32)
        refine mw_go mu_g195 (k := 1) (f1 := (31, [(3, .inl (nI k)), (0, .inr (.inr (some 91))), (1, .inl (nI b)), (2, .inl (nI p))], [.inl (0 : Int32)], H)) (C := []) rfl trivial ?_
        exact mw_of (fun _ => mu_ret rfl (Or.inl rfl) ⟨_, _, rfl, rfl, Or.inl rfl⟩)
  · -- 38: not (nI k) < (nI (b + p))
    refine mw_go mu_g195 (k := 1) (f1 := (39, [(3, .inl (nI k)), (0, .inr (.inr (some 91))), (1, .inl (nI b)), (2, .inl (nI p))], [.inl (1 : Int32)], H)) (C := []) rfl trivial ?_
    exact mw_of (fun _ => mu_ret rfl (Or.inr rfl) ⟨_, _, rfl, rfl, Or.inr rfl⟩)
/-- PathProver$Judge.areAll(III)Z -/
abbrev mu_m196 : ev_M := (5, (some .boolean), [], ev_b196)
theorem mu_g196 : mu_good mu_m196 := mu_goodk ev_k196
theorem jg_all (hg : gi H) (hbp : b + p < jn H) (w : Int32) : mu_TI (mu_D (d + 1)) 196 [.inr (.inr (some 91)), .inl (nI b), .inl (nI p), .inl w] H (fun x H1 => H = H1 ∧ (x = 0 ∨ x = 1)) := by
  have hjn := jn_le hg
  refine mu_meth (M := mu_m196) rfl rfl ?_
  refine mw_ht (mu_fn_of (show [0, 1, 2, 3].Nodup by decide)) ?_
  refine mw_go mu_g196 (k := 2) (f1 := (3, [(4, .inl (nI b)), (0, .inr (.inr (some 91))), (1, .inl (nI b)), (2, .inl (nI p)), (3, .inl w)], [], H)) (C := []) rfl trivial ?_
  refine mw_sub (L' := [(4, .inl (nI b)), (0, .inr (.inr (some 91))), (1, .inl (nI b)), (2, .inl (nI p)), (3, .inl w)]) (by simp) ?_
  refine mw_down (α := Nat) (fun zs => (3, [(4, .inl (nI zs)), (0, .inr (.inr (some 91))), (1, .inl (nI b)), (2, .inl (nI p)), (3, .inl w)], [], H)) (fun zs => b + p + 2 - zs) (fun zs => (b ≤ zs) ∧ (zs ≤ b + p)) (fun zs hs ih => ?_) b ⟨(show b ≤ b from by omega), (show b ≤ b + p from by omega)⟩
  obtain ⟨k, rfl⟩ : ∃ y, y = zs := ⟨zs, rfl⟩
  obtain ⟨hk1, hk2⟩ := hs
  have hk1 : b ≤ k := hk1
  have hk2 : k ≤ b + p := hk2
  show mu_W _ _ (3, [(4, .inl (nI k)), (0, .inr (.inr (some 91))), (1, .inl (nI b)), (2, .inl (nI p)), (3, .inl w)], [], H) _
  refine mw_go mu_g196 (k := 4) (f1 := (8, [(4, .inl (nI k)), (0, .inr (.inr (some 91))), (1, .inl (nI b)), (2, .inl (nI p)), (3, .inl w)], [.inl ((nI b) + (nI p)), .inl (nI k)], H)) (C := []) rfl trivial ?_
  rw [nI_add]
  refine mw_if (P := (nI k) < (nI (b + p))) (a := 11) (b := 30) (fun _ => rfl) trivial (fun h1 => ?_) (fun h1 => ?_)
  · -- 11: (nI k) < (nI (b + p))
    have hkb : k < b + p := (nI_ltI (by omega) (by omega)).mp h1
    refine mw_go mu_g196 (k := 5) (f1 := (19, [(4, .inl (nI k)), (0, .inr (.inr (some 91))), (1, .inl (nI b)), (2, .inl (nI p)), (3, .inl w)], [.inl w, .inl (mu_i H (mu_p (mu_r H 91 2)) (nI k).toNatClampNeg)], H)) (C := [mu_is H (some 91) 3, mu_isr H (mu_r H 91 2) 100, vp_in (nI k) (mu_n H (mu_p (mu_r H 91 2)))]) rfl (show (mu_is H (some 91) 3) ∧ (mu_isr H (mu_r H 91 2) 100) ∧ (vp_in (nI k) (mu_n H (mu_p (mu_r H 91 2)))) from ⟨hg.is rfl, (hg.o (p := 91) (j := 2) rfl).r, (show vp_in _ (jn H) from vp_in_nI (by omega) (by omega))⟩) ?_
    refine mw_if (P := (mu_i H (mu_p (mu_r H 91 2)) (nI k).toNatClampNeg) = w) (a := 24) (b := 22) (fun _ => rfl) trivial (fun h2 => ?_) (fun h2 => ?_)
    · -- 24: (mu_i H (mu_p (mu_r H 91 2)) (nI k).toNatClampNeg) = w
      refine mw_go mu_g196 (k := 2) (f1 := (3, [(4, .inl ((nI k) + 1)), (0, .inr (.inr (some 91))), (1, .inl (nI b)), (2, .inl (nI p)), (3, .inl w)], [], H)) (C := []) rfl trivial ?_
      rw [nI_1]
      exact mw_sub (by simp) (ih (k + 1) ⟨(show b ≤ (k + 1) from by omega), (show (k + 1) ≤ b + p from by omega)⟩ (by show b + p + 2 - (k + 1) < b + p + 2 - k; omega))
    · -- 22: not (mu_i H (mu_p (mu_r H 91 2)) (nI k).toNatClampNeg) = w
      refine mw_go mu_g196 (k := 1) (f1 := (23, [(4, .inl (nI k)), (0, .inr (.inr (some 91))), (1, .inl (nI b)), (2, .inl (nI p)), (3, .inl w)], [.inl (0 : Int32)], H)) (C := []) rfl trivial ?_
      exact mw_of (fun _ => mu_ret rfl (Or.inl rfl) ⟨_, _, rfl, rfl, Or.inl rfl⟩)
  · -- 30: not (nI k) < (nI (b + p))
    refine mw_go mu_g196 (k := 1) (f1 := (31, [(4, .inl (nI k)), (0, .inr (.inr (some 91))), (1, .inl (nI b)), (2, .inl (nI p)), (3, .inl w)], [.inl (1 : Int32)], H)) (C := []) rfl trivial ?_
    exact mw_of (fun _ => mu_ret rfl (Or.inr rfl) ⟨_, _, rfl, rfl, Or.inr rfl⟩)
/-- PathProver$Judge.casesSort(II)I -/
abbrev mu_m197 : ev_M := (5, (some .int), [], ev_b197)
theorem mu_g197 : mu_good mu_m197 := mu_goodk ev_k197
theorem jg_cases (hg : gi H) (hbp : b + p < jn H) (hp1 : 1 ≤ p) : mu_TI (mu_D (d + 1)) 197 [.inr (.inr (some 91)), .inl (nI b), .inl (nI p)] H (fun x H1 => H = H1) := by
  have hjn := jn_le hg
  refine mu_meth (M := mu_m197) rfl rfl ?_
  refine mw_ht (mu_fn_of (show [0, 1, 2].Nodup by decide)) ?_
  refine mw_go mu_g197 (k := 9) (f1 := (12, [(4, .inl (nI b)), (3, .inl (mu_i H (mu_p (mu_r H 91 2)) ((nI b) + (1 : Int32)).toNatClampNeg)), (0, .inr (.inr (some 91))), (1, .inl (nI b)), (2, .inl (nI p))], [], H)) (C := [mu_is H (some 91) 3, mu_isr H (mu_r H 91 2) 100, vp_in ((nI b) + (1 : Int32)) (mu_n H (mu_p (mu_r H 91 2)))]) rfl (show (mu_is H (some 91) 3) ∧ (mu_isr H (mu_r H 91 2) 100) ∧ (vp_in ((nI b) + (1 : Int32)) (mu_n H (mu_p (mu_r H 91 2)))) from ⟨hg.is rfl, (hg.o (p := 91) (j := 2) rfl).r, (show vp_in _ (jn H) from by rw [nI_1]; exact vp_in_nI (by omega) (by omega))⟩) ?_
  refine mw_sub (L' := [(4, .inl (nI b)), (0, .inr (.inr (some 91))), (1, .inl (nI b)), (2, .inl (nI p)), (3, .inl (mu_i H (mu_p (mu_r H 91 2)) ((nI b) + (1 : Int32)).toNatClampNeg))]) (by simp) ?_
  refine mw_down (α := Nat) (fun zs => (12, [(4, .inl (nI zs)), (0, .inr (.inr (some 91))), (1, .inl (nI b)), (2, .inl (nI p)), (3, .inl (mu_i H (mu_p (mu_r H 91 2)) ((nI b) + (1 : Int32)).toNatClampNeg))], [], H)) (fun zs => b + p + 2 - zs) (fun zs => (b ≤ zs) ∧ (zs ≤ b + p)) (fun zs hs ih => ?_) b ⟨(show b ≤ b from by omega), (show b ≤ b + p from by omega)⟩
  obtain ⟨k, rfl⟩ : ∃ y, y = zs := ⟨zs, rfl⟩
  obtain ⟨hk1, hk2⟩ := hs
  have hk1 : b ≤ k := hk1
  have hk2 : k ≤ b + p := hk2
  show mu_W _ _ (12, [(4, .inl (nI k)), (0, .inr (.inr (some 91))), (1, .inl (nI b)), (2, .inl (nI p)), (3, .inl (mu_i H (mu_p (mu_r H 91 2)) ((nI b) + (1 : Int32)).toNatClampNeg))], [], H) _
  refine mw_go mu_g197 (k := 6) (f1 := (19, [(4, .inl (nI k)), (0, .inr (.inr (some 91))), (1, .inl (nI b)), (2, .inl (nI p)), (3, .inl (mu_i H (mu_p (mu_r H 91 2)) ((nI b) + (1 : Int32)).toNatClampNeg))], [.inl ((nI b) + (nI p)), .inl ((nI k) + (1 : Int32))], H)) (C := []) rfl trivial ?_
  rw [nI_add]
  refine mw_if (P := ((nI k) + (1 : Int32)) < (nI (b + p))) (a := 22) (b := 54) (fun _ => rfl) trivial (fun h1 => ?_) (fun h1 => ?_)
  · -- 22: ((nI k) + (1 : Int32)) < (nI (b + p))
    have hkb : k + 1 < b + p := (nI_ltI (by omega) (by omega)).mp (by rw [← nI_1]; exact h1)
    refine mw_go mu_g197 (k := 5) (f1 := (30, [(4, .inl (nI k)), (0, .inr (.inr (some 91))), (1, .inl (nI b)), (2, .inl (nI p)), (3, .inl (mu_i H (mu_p (mu_r H 91 2)) ((nI b) + (1 : Int32)).toNatClampNeg))], [.inl (1 : Int32), .inl (mu_i H (mu_p (mu_r H 91 2)) (nI k).toNatClampNeg)], H)) (C := [mu_is H (some 91) 3, mu_isr H (mu_r H 91 2) 100, vp_in (nI k) (mu_n H (mu_p (mu_r H 91 2)))]) rfl (show (mu_is H (some 91) 3) ∧ (mu_isr H (mu_r H 91 2) 100) ∧ (vp_in (nI k) (mu_n H (mu_p (mu_r H 91 2)))) from ⟨hg.is rfl, (hg.o (p := 91) (j := 2) rfl).r, (show vp_in _ (jn H) from vp_in_nI (by omega) (by omega))⟩) ?_
    refine mw_if (P := (mu_i H (mu_p (mu_r H 91 2)) (nI k).toNatClampNeg) = (1 : Int32)) (a := 33) (b := 46) (fun _ => rfl) trivial (fun h2 => ?_) (fun h2 => ?_)
    · -- 33: (mu_i H (mu_p (mu_r H 91 2)) (nI k).toNatClampNeg) = (1 : Int32)
      refine mw_go mu_g197 (k := 7) (f1 := (43, [(4, .inl (nI k)), (0, .inr (.inr (some 91))), (1, .inl (nI b)), (2, .inl (nI p)), (3, .inl (mu_i H (mu_p (mu_r H 91 2)) ((nI b) + (1 : Int32)).toNatClampNeg))], [.inl (mu_i H (mu_p (mu_r H 91 2)) ((nI b) + (1 : Int32)).toNatClampNeg), .inl (mu_i H (mu_p (mu_r H 91 2)) ((nI k) + (1 : Int32)).toNatClampNeg)], H)) (C := [mu_is H (some 91) 3, mu_isr H (mu_r H 91 2) 100, vp_in ((nI k) + (1 : Int32)) (mu_n H (mu_p (mu_r H 91 2)))]) rfl (show (mu_is H (some 91) 3) ∧ (mu_isr H (mu_r H 91 2) 100) ∧ (vp_in ((nI k) + (1 : Int32)) (mu_n H (mu_p (mu_r H 91 2)))) from ⟨hg.is rfl, (hg.o (p := 91) (j := 2) rfl).r, (show vp_in _ (jn H) from by rw [nI_1]; exact vp_in_nI (by omega) (by omega))⟩) ?_
      refine mw_if (P := (mu_i H (mu_p (mu_r H 91 2)) ((nI k) + (1 : Int32)).toNatClampNeg) = (mu_i H (mu_p (mu_r H 91 2)) ((nI b) + (1 : Int32)).toNatClampNeg)) (a := 48) (b := 46) (fun _ => rfl) trivial (fun h3 => ?_) (fun h3 => ?_)
      · -- 48: (mu_i H (mu_p (mu_r H 91 2)) ((nI k) + (1 : Int32)).toNatClampNeg) = (mu_i H (mu_p (mu_r H 91 2)) ((nI b) + (1 : Int32)).toNatClampNeg)
        refine mw_go mu_g197 (k := 2) (f1 := (12, [(4, .inl ((nI k) + 2)), (0, .inr (.inr (some 91))), (1, .inl (nI b)), (2, .inl (nI p)), (3, .inl (mu_i H (mu_p (mu_r H 91 2)) ((nI b) + (1 : Int32)).toNatClampNeg))], [], H)) (C := []) rfl trivial ?_
        rw [show nI k + 2 = nI (k + 2) from nI_up2]
        exact mw_sub (by simp) (ih (k + 2) ⟨(show b ≤ (k + 2) from by omega), (show (k + 2) ≤ b + p from by omega)⟩ (by show b + p + 2 - (k + 2) < b + p + 2 - k; omega))
      · -- 46: not (mu_i H (mu_p (mu_r H 91 2)) ((nI k) + (1 : Int32)).toNatClampNeg) = (mu_i H (mu_p (mu_r H 91 2)) ((nI b) + (1 : Int32)).toNatClampNeg)
        refine mw_go mu_g197 (k := 1) (f1 := (47, [(4, .inl (nI k)), (0, .inr (.inr (some 91))), (1, .inl (nI b)), (2, .inl (nI p)), (3, .inl (mu_i H (mu_p (mu_r H 91 2)) ((nI b) + (1 : Int32)).toNatClampNeg))], [.inl (0 : Int32)], H)) (C := []) rfl trivial ?_
        exact mw_of (fun _ => mu_ret rfl trivial ⟨_, _, rfl, rfl⟩)
    · -- 46: not (mu_i H (mu_p (mu_r H 91 2)) (nI k).toNatClampNeg) = (1 : Int32)
      refine mw_go mu_g197 (k := 1) (f1 := (47, [(4, .inl (nI k)), (0, .inr (.inr (some 91))), (1, .inl (nI b)), (2, .inl (nI p)), (3, .inl (mu_i H (mu_p (mu_r H 91 2)) ((nI b) + (1 : Int32)).toNatClampNeg))], [.inl (0 : Int32)], H)) (C := []) rfl trivial ?_
      exact mw_of (fun _ => mu_ret rfl trivial ⟨_, _, rfl, rfl⟩)
  · -- 54: not ((nI k) + (1 : Int32)) < (nI (b + p))
    refine mw_go mu_g197 (k := 2) (f1 := (57, [(4, .inl (nI k)), (0, .inr (.inr (some 91))), (1, .inl (nI b)), (2, .inl (nI p)), (3, .inl (mu_i H (mu_p (mu_r H 91 2)) ((nI b) + (1 : Int32)).toNatClampNeg))], [.inl (9 : Int32), .inl (mu_i H (mu_p (mu_r H 91 2)) ((nI b) + (1 : Int32)).toNatClampNeg)], H)) (C := []) rfl trivial ?_
    refine mw_if (P := (mu_i H (mu_p (mu_r H 91 2)) ((nI b) + (1 : Int32)).toNatClampNeg) = (9 : Int32)) (a := 60) (b := 64) (fun _ => rfl) trivial (fun h4 => ?_) (fun h4 => ?_)
    · -- 60: (mu_i H (mu_p (mu_r H 91 2)) ((nI b) + (1 : Int32)).toNatClampNeg) = (9 : Int32)
      refine mw_go mu_g197 (k := 2) (f1 := (65, [(4, .inl (nI k)), (0, .inr (.inr (some 91))), (1, .inl (nI b)), (2, .inl (nI p)), (3, .inl (mu_i H (mu_p (mu_r H 91 2)) ((nI b) + (1 : Int32)).toNatClampNeg))], [.inl (0 : Int32)], H)) (C := []) rfl trivial ?_
      exact mw_of (fun _ => mu_ret rfl trivial ⟨_, _, rfl, rfl⟩)
    · -- 64: not (mu_i H (mu_p (mu_r H 91 2)) ((nI b) + (1 : Int32)).toNatClampNeg) = (9 : Int32)
      refine mw_go mu_g197 (k := 1) (f1 := (65, [(4, .inl (nI k)), (0, .inr (.inr (some 91))), (1, .inl (nI b)), (2, .inl (nI p)), (3, .inl (mu_i H (mu_p (mu_r H 91 2)) ((nI b) + (1 : Int32)).toNatClampNeg))], [.inl (mu_i H (mu_p (mu_r H 91 2)) ((nI b) + (1 : Int32)).toNatClampNeg)], H)) (C := []) rfl trivial ?_
      exact mw_of (fun _ => mu_ret rfl trivial ⟨_, _, rfl, rfl⟩)
/-- PathProver$Judge.joinedSort(IIII)I -/
abbrev mu_m194 : ev_M := (7, (some .int), [], ev_b194)
theorem mu_g194 : mu_good mu_m194 := mu_goodk ev_k194
theorem jg_joined (hg : gi H) (hbp : b + p < jn H) (hp1 : 1 ≤ p) (op al : Int32) : mu_TI (mu_D (d + 2)) 194 [.inr (.inr (some 91)), .inl op, .inl (nI b), .inl (nI p), .inl al] H (fun x H1 => H = H1) := by
  have hjn := jn_le hg
  refine mu_meth (M := mu_m194) rfl rfl ?_
  refine mw_ht (mu_fn_of (show [0, 1, 2, 3, 4].Nodup by decide)) ?_
  refine mw_go mu_g194 (k := 6) (f1 := (9, [(5, .inl (mu_i H (mu_p (mu_r H 91 2)) (nI b).toNatClampNeg)), (0, .inr (.inr (some 91))), (1, .inl op), (2, .inl (nI b)), (3, .inl (nI p)), (4, .inl al)], [.inl op], H)) (C := [mu_is H (some 91) 3, mu_isr H (mu_r H 91 2) 100, vp_in (nI b) (mu_n H (mu_p (mu_r H 91 2)))]) rfl (show (mu_is H (some 91) 3) ∧ (mu_isr H (mu_r H 91 2) 100) ∧ (vp_in (nI b) (mu_n H (mu_p (mu_r H 91 2)))) from ⟨hg.is rfl, (hg.o (p := 91) (j := 2) rfl).r, (show vp_in _ (jn H) from vp_in_nI (by omega) (by omega))⟩) ?_
  refine mw_cI (fun _ => rfl) trivial (pv_timed (d := d) hg op) (fun x1 H1 q1 => ?_)
  obtain ⟨rfl, qx1⟩ := q1; rcases qx1 with rfl | rfl
  · -- (0 : Int32)
    refine mw_if (P := (0 : Int32) = 0) (a := 37) (b := 15) (fun _ => rfl) trivial (fun h2 => ?_) (fun h2 => absurd (by decide) h2)
    refine mw_go mu_g194 (k := 2) (f1 := (40, [(5, .inl (mu_i H (mu_p (mu_r H 91 2)) (nI b).toNatClampNeg)), (0, .inr (.inr (some 91))), (1, .inl op), (2, .inl (nI b)), (3, .inl (nI p)), (4, .inl al)], [.inl (9 : Int32), .inl op], H)) (C := []) rfl trivial ?_
    refine mw_if (P := (9 : Int32) < op) (a := 71) (b := 43) (fun _ => rfl) trivial (fun h3 => ?_) (fun h3 => ?_)
    · -- 71: (9 : Int32) < op
      refine mw_go mu_g194 (k := 2) (f1 := (74, [(5, .inl (mu_i H (mu_p (mu_r H 91 2)) (nI b).toNatClampNeg)), (0, .inr (.inr (some 91))), (1, .inl op), (2, .inl (nI b)), (3, .inl (nI p)), (4, .inl al)], [.inl (31 : Int32), .inl op], H)) (C := []) rfl trivial ?_
      refine mw_if (P := op = (31 : Int32)) (a := 83) (b := 77) (fun _ => rfl) trivial (fun h4 => ?_) (fun h4 => ?_)
      · -- 83: op = (31 : Int32)
        refine mw_go mu_g194 (k := 3) (f1 := (86, [(5, .inl (mu_i H (mu_p (mu_r H 91 2)) (nI b).toNatClampNeg)), (0, .inr (.inr (some 91))), (1, .inl op), (2, .inl (nI b)), (3, .inl (nI p)), (4, .inl al)], [.inl (nI p), .inl (nI b), .inr (.inr (some 91))], H)) (C := []) rfl trivial ?_
        refine mw_cI (fun _ => rfl) (show mu_is H (some 91) 3 from hg.is rfl) (jg_cases (d := d) hg hbp hp1) (fun x5 H5 q5 => ?_)
        obtain rfl := q5
        exact mw_of (fun _ => mu_ret rfl trivial ⟨_, _, rfl, rfl⟩)
      · -- 77: not op = (31 : Int32)
        refine mw_go mu_g194 (k := 2) (f1 := (80, [(5, .inl (mu_i H (mu_p (mu_r H 91 2)) (nI b).toNatClampNeg)), (0, .inr (.inr (some 91))), (1, .inl op), (2, .inl (nI b)), (3, .inl (nI p)), (4, .inl al)], [.inl (34 : Int32), .inl op], H)) (C := []) rfl trivial ?_
        refine mw_if (P := op = (34 : Int32)) (a := 83) (b := 90) (fun _ => rfl) trivial (fun h6 => ?_) (fun h6 => ?_)
        · -- 83: op = (34 : Int32)
          refine mw_go mu_g194 (k := 3) (f1 := (86, [(5, .inl (mu_i H (mu_p (mu_r H 91 2)) (nI b).toNatClampNeg)), (0, .inr (.inr (some 91))), (1, .inl op), (2, .inl (nI b)), (3, .inl (nI p)), (4, .inl al)], [.inl (nI p), .inl (nI b), .inr (.inr (some 91))], H)) (C := []) rfl trivial ?_
          refine mw_cI (fun _ => rfl) (show mu_is H (some 91) 3 from hg.is rfl) (jg_cases (d := d) hg hbp hp1) (fun x7 H7 q7 => ?_)
          obtain rfl := q7
          exact mw_of (fun _ => mu_ret rfl trivial ⟨_, _, rfl, rfl⟩)
        · -- 90: not op = (34 : Int32)
          refine mw_go mu_g194 (k := 2) (f1 := (94, [(5, .inl (mu_i H (mu_p (mu_r H 91 2)) (nI b).toNatClampNeg)), (0, .inr (.inr (some 91))), (1, .inl op), (2, .inl (nI b)), (3, .inl (nI p)), (4, .inl al)], [.inl (9 : Int32), .inl (mu_i H (mu_p (mu_r H 91 2)) (nI b).toNatClampNeg)], H)) (C := []) rfl trivial ?_
          refine mw_if (P := (mu_i H (mu_p (mu_r H 91 2)) (nI b).toNatClampNeg) = (9 : Int32)) (a := 112) (b := 97) (fun _ => rfl) trivial (fun h8 => ?_) (fun h8 => ?_)
          · -- 112: (mu_i H (mu_p (mu_r H 91 2)) (nI b).toNatClampNeg) = (9 : Int32)
            refine mw_go mu_g194 (k := 4) (f1 := (118, [(6, .inl (0 : Int32)), (5, .inl (mu_i H (mu_p (mu_r H 91 2)) (nI b).toNatClampNeg)), (0, .inr (.inr (some 91))), (1, .inl op), (2, .inl (nI b)), (3, .inl (nI p)), (4, .inl al)], [.inl (16 : Int32), .inl op], H)) (C := []) rfl trivial ?_
            refine mw_if (P := op = (16 : Int32)) (a := 133) (b := 121) (fun _ => rfl) trivial (fun h9 => ?_) (fun h9 => ?_)
            · -- 133: op = (16 : Int32)
              refine mw_go mu_g194 (k := 1) (f1 := (135, [(6, .inl (0 : Int32)), (5, .inl (mu_i H (mu_p (mu_r H 91 2)) (nI b).toNatClampNeg)), (0, .inr (.inr (some 91))), (1, .inl op), (2, .inl (nI b)), (3, .inl (nI p)), (4, .inl al)], [.inl (0 : Int32)], H)) (C := []) rfl trivial ?_
              refine mw_if (P := (0 : Int32) = 0) (a := 142) (b := 138) (fun _ => rfl) trivial (fun h10 => ?_) (fun h10 => absurd (by decide) h10)
              refine mw_go mu_g194 (k := 1) (f1 := (143, [(6, .inl (0 : Int32)), (5, .inl (mu_i H (mu_p (mu_r H 91 2)) (nI b).toNatClampNeg)), (0, .inr (.inr (some 91))), (1, .inl op), (2, .inl (nI b)), (3, .inl (nI p)), (4, .inl al)], [.inl (0 : Int32)], H)) (C := []) rfl trivial ?_
              exact mw_of (fun _ => mu_ret rfl trivial ⟨_, _, rfl, rfl⟩)
            · -- 121: not op = (16 : Int32)
              refine mw_go mu_g194 (k := 2) (f1 := (124, [(6, .inl (0 : Int32)), (5, .inl (mu_i H (mu_p (mu_r H 91 2)) (nI b).toNatClampNeg)), (0, .inr (.inr (some 91))), (1, .inl op), (2, .inl (nI b)), (3, .inl (nI p)), (4, .inl al)], [.inl (17 : Int32), .inl op], H)) (C := []) rfl trivial ?_
              refine mw_if (P := op = (17 : Int32)) (a := 133) (b := 127) (fun _ => rfl) trivial (fun h11 => ?_) (fun h11 => ?_)
              · -- 133: op = (17 : Int32)
                refine mw_go mu_g194 (k := 1) (f1 := (135, [(6, .inl (0 : Int32)), (5, .inl (mu_i H (mu_p (mu_r H 91 2)) (nI b).toNatClampNeg)), (0, .inr (.inr (some 91))), (1, .inl op), (2, .inl (nI b)), (3, .inl (nI p)), (4, .inl al)], [.inl (0 : Int32)], H)) (C := []) rfl trivial ?_
                refine mw_if (P := (0 : Int32) = 0) (a := 142) (b := 138) (fun _ => rfl) trivial (fun h12 => ?_) (fun h12 => absurd (by decide) h12)
                refine mw_go mu_g194 (k := 1) (f1 := (143, [(6, .inl (0 : Int32)), (5, .inl (mu_i H (mu_p (mu_r H 91 2)) (nI b).toNatClampNeg)), (0, .inr (.inr (some 91))), (1, .inl op), (2, .inl (nI b)), (3, .inl (nI p)), (4, .inl al)], [.inl (0 : Int32)], H)) (C := []) rfl trivial ?_
                exact mw_of (fun _ => mu_ret rfl trivial ⟨_, _, rfl, rfl⟩)
              · -- 127: not op = (17 : Int32)
                refine mw_go mu_g194 (k := 2) (f1 := (130, [(6, .inl (0 : Int32)), (5, .inl (mu_i H (mu_p (mu_r H 91 2)) (nI b).toNatClampNeg)), (0, .inr (.inr (some 91))), (1, .inl op), (2, .inl (nI b)), (3, .inl (nI p)), (4, .inl al)], [.inl (30 : Int32), .inl op], H)) (C := []) rfl trivial ?_
                refine mw_if (P := op = (30 : Int32)) (a := 133) (b := 144) (fun _ => rfl) trivial (fun h13 => ?_) (fun h13 => ?_)
                · -- 133: op = (30 : Int32)
                  refine mw_go mu_g194 (k := 1) (f1 := (135, [(6, .inl (0 : Int32)), (5, .inl (mu_i H (mu_p (mu_r H 91 2)) (nI b).toNatClampNeg)), (0, .inr (.inr (some 91))), (1, .inl op), (2, .inl (nI b)), (3, .inl (nI p)), (4, .inl al)], [.inl (0 : Int32)], H)) (C := []) rfl trivial ?_
                  refine mw_if (P := (0 : Int32) = 0) (a := 142) (b := 138) (fun _ => rfl) trivial (fun h14 => ?_) (fun h14 => absurd (by decide) h14)
                  refine mw_go mu_g194 (k := 1) (f1 := (143, [(6, .inl (0 : Int32)), (5, .inl (mu_i H (mu_p (mu_r H 91 2)) (nI b).toNatClampNeg)), (0, .inr (.inr (some 91))), (1, .inl op), (2, .inl (nI b)), (3, .inl (nI p)), (4, .inl al)], [.inl (0 : Int32)], H)) (C := []) rfl trivial ?_
                  exact mw_of (fun _ => mu_ret rfl trivial ⟨_, _, rfl, rfl⟩)
                · -- 144: not op = (30 : Int32)
                  refine mw_go mu_g194 (k := 2) (f1 := (147, [(6, .inl (0 : Int32)), (5, .inl (mu_i H (mu_p (mu_r H 91 2)) (nI b).toNatClampNeg)), (0, .inr (.inr (some 91))), (1, .inl op), (2, .inl (nI b)), (3, .inl (nI p)), (4, .inl al)], [.inl (32 : Int32), .inl op], H)) (C := []) rfl trivial ?_
                  refine mw_if (P := op = (32 : Int32)) (a := 156) (b := 150) (fun _ => rfl) trivial (fun h15 => ?_) (fun h15 => ?_)
                  · -- 156: op = (32 : Int32)
                    refine mw_go mu_g194 (k := 1) (f1 := (158, [(6, .inl (0 : Int32)), (5, .inl (mu_i H (mu_p (mu_r H 91 2)) (nI b).toNatClampNeg)), (0, .inr (.inr (some 91))), (1, .inl op), (2, .inl (nI b)), (3, .inl (nI p)), (4, .inl al)], [.inl (0 : Int32)], H)) (C := []) rfl trivial ?_
                    refine mw_if (P := (0 : Int32) = 0) (a := 166) (b := 161) (fun _ => rfl) trivial (fun h16 => ?_) (fun h16 => absurd (by decide) h16)
                    refine mw_go mu_g194 (k := 1) (f1 := (167, [(6, .inl (0 : Int32)), (5, .inl (mu_i H (mu_p (mu_r H 91 2)) (nI b).toNatClampNeg)), (0, .inr (.inr (some 91))), (1, .inl op), (2, .inl (nI b)), (3, .inl (nI p)), (4, .inl al)], [.inl (0 : Int32)], H)) (C := []) rfl trivial ?_
                    exact mw_of (fun _ => mu_ret rfl trivial ⟨_, _, rfl, rfl⟩)
                  · -- 150: not op = (32 : Int32)
                    refine mw_go mu_g194 (k := 2) (f1 := (153, [(6, .inl (0 : Int32)), (5, .inl (mu_i H (mu_p (mu_r H 91 2)) (nI b).toNatClampNeg)), (0, .inr (.inr (some 91))), (1, .inl op), (2, .inl (nI b)), (3, .inl (nI p)), (4, .inl al)], [.inl (33 : Int32), .inl op], H)) (C := []) rfl trivial ?_
                    refine mw_if (P := op = (33 : Int32)) (a := 156) (b := 168) (fun _ => rfl) trivial (fun h17 => ?_) (fun h17 => ?_)
                    · -- 156: op = (33 : Int32)
                      refine mw_go mu_g194 (k := 1) (f1 := (158, [(6, .inl (0 : Int32)), (5, .inl (mu_i H (mu_p (mu_r H 91 2)) (nI b).toNatClampNeg)), (0, .inr (.inr (some 91))), (1, .inl op), (2, .inl (nI b)), (3, .inl (nI p)), (4, .inl al)], [.inl (0 : Int32)], H)) (C := []) rfl trivial ?_
                      refine mw_if (P := (0 : Int32) = 0) (a := 166) (b := 161) (fun _ => rfl) trivial (fun h18 => ?_) (fun h18 => absurd (by decide) h18)
                      refine mw_go mu_g194 (k := 1) (f1 := (167, [(6, .inl (0 : Int32)), (5, .inl (mu_i H (mu_p (mu_r H 91 2)) (nI b).toNatClampNeg)), (0, .inr (.inr (some 91))), (1, .inl op), (2, .inl (nI b)), (3, .inl (nI p)), (4, .inl al)], [.inl (0 : Int32)], H)) (C := []) rfl trivial ?_
                      exact mw_of (fun _ => mu_ret rfl trivial ⟨_, _, rfl, rfl⟩)
                    · -- 168: not op = (33 : Int32)
                      refine mw_go mu_g194 (k := 1) (f1 := (170, [(6, .inl (0 : Int32)), (5, .inl (mu_i H (mu_p (mu_r H 91 2)) (nI b).toNatClampNeg)), (0, .inr (.inr (some 91))), (1, .inl op), (2, .inl (nI b)), (3, .inl (nI p)), (4, .inl al)], [.inl (0 : Int32)], H)) (C := []) rfl trivial ?_
                      refine mw_if (P := (0 : Int32) = 0) (a := 179) (b := 173) (fun _ => rfl) trivial (fun h19 => ?_) (fun h19 => absurd (by decide) h19)
                      refine mw_go mu_g194 (k := 1) (f1 := (180, [(6, .inl (0 : Int32)), (5, .inl (mu_i H (mu_p (mu_r H 91 2)) (nI b).toNatClampNeg)), (0, .inr (.inr (some 91))), (1, .inl op), (2, .inl (nI b)), (3, .inl (nI p)), (4, .inl al)], [.inl (0 : Int32)], H)) (C := []) rfl trivial ?_
                      exact mw_of (fun _ => mu_ret rfl trivial ⟨_, _, rfl, rfl⟩)
          · -- 97: not (mu_i H (mu_p (mu_r H 91 2)) (nI b).toNatClampNeg) = (9 : Int32)
            refine mw_go mu_g194 (k := 4) (f1 := (102, [(5, .inl (mu_i H (mu_p (mu_r H 91 2)) (nI b).toNatClampNeg)), (0, .inr (.inr (some 91))), (1, .inl op), (2, .inl (nI b)), (3, .inl (nI p)), (4, .inl al)], [.inl (mu_i H (mu_p (mu_r H 91 2)) (nI b).toNatClampNeg), .inl (nI p), .inl (nI b), .inr (.inr (some 91))], H)) (C := []) rfl trivial ?_
            refine mw_cI (fun _ => rfl) (show mu_is H (some 91) 3 from hg.is rfl) (jg_all (d := d) hg hbp (mu_i H (mu_p (mu_r H 91 2)) (nI b).toNatClampNeg)) (fun x20 H20 q20 => ?_)
            obtain ⟨rfl, qx20⟩ := q20; rcases qx20 with rfl | rfl
            · -- (0 : Int32)
              refine mw_if (P := (0 : Int32) = 0) (a := 112) (b := 108) (fun _ => rfl) trivial (fun h21 => ?_) (fun h21 => absurd (by decide) h21)
              refine mw_go mu_g194 (k := 4) (f1 := (118, [(6, .inl (0 : Int32)), (5, .inl (mu_i H (mu_p (mu_r H 91 2)) (nI b).toNatClampNeg)), (0, .inr (.inr (some 91))), (1, .inl op), (2, .inl (nI b)), (3, .inl (nI p)), (4, .inl al)], [.inl (16 : Int32), .inl op], H)) (C := []) rfl trivial ?_
              refine mw_if (P := op = (16 : Int32)) (a := 133) (b := 121) (fun _ => rfl) trivial (fun h22 => ?_) (fun h22 => ?_)
              · -- 133: op = (16 : Int32)
                refine mw_go mu_g194 (k := 1) (f1 := (135, [(6, .inl (0 : Int32)), (5, .inl (mu_i H (mu_p (mu_r H 91 2)) (nI b).toNatClampNeg)), (0, .inr (.inr (some 91))), (1, .inl op), (2, .inl (nI b)), (3, .inl (nI p)), (4, .inl al)], [.inl (0 : Int32)], H)) (C := []) rfl trivial ?_
                refine mw_if (P := (0 : Int32) = 0) (a := 142) (b := 138) (fun _ => rfl) trivial (fun h23 => ?_) (fun h23 => absurd (by decide) h23)
                refine mw_go mu_g194 (k := 1) (f1 := (143, [(6, .inl (0 : Int32)), (5, .inl (mu_i H (mu_p (mu_r H 91 2)) (nI b).toNatClampNeg)), (0, .inr (.inr (some 91))), (1, .inl op), (2, .inl (nI b)), (3, .inl (nI p)), (4, .inl al)], [.inl (0 : Int32)], H)) (C := []) rfl trivial ?_
                exact mw_of (fun _ => mu_ret rfl trivial ⟨_, _, rfl, rfl⟩)
              · -- 121: not op = (16 : Int32)
                refine mw_go mu_g194 (k := 2) (f1 := (124, [(6, .inl (0 : Int32)), (5, .inl (mu_i H (mu_p (mu_r H 91 2)) (nI b).toNatClampNeg)), (0, .inr (.inr (some 91))), (1, .inl op), (2, .inl (nI b)), (3, .inl (nI p)), (4, .inl al)], [.inl (17 : Int32), .inl op], H)) (C := []) rfl trivial ?_
                refine mw_if (P := op = (17 : Int32)) (a := 133) (b := 127) (fun _ => rfl) trivial (fun h24 => ?_) (fun h24 => ?_)
                · -- 133: op = (17 : Int32)
                  refine mw_go mu_g194 (k := 1) (f1 := (135, [(6, .inl (0 : Int32)), (5, .inl (mu_i H (mu_p (mu_r H 91 2)) (nI b).toNatClampNeg)), (0, .inr (.inr (some 91))), (1, .inl op), (2, .inl (nI b)), (3, .inl (nI p)), (4, .inl al)], [.inl (0 : Int32)], H)) (C := []) rfl trivial ?_
                  refine mw_if (P := (0 : Int32) = 0) (a := 142) (b := 138) (fun _ => rfl) trivial (fun h25 => ?_) (fun h25 => absurd (by decide) h25)
                  refine mw_go mu_g194 (k := 1) (f1 := (143, [(6, .inl (0 : Int32)), (5, .inl (mu_i H (mu_p (mu_r H 91 2)) (nI b).toNatClampNeg)), (0, .inr (.inr (some 91))), (1, .inl op), (2, .inl (nI b)), (3, .inl (nI p)), (4, .inl al)], [.inl (0 : Int32)], H)) (C := []) rfl trivial ?_
                  exact mw_of (fun _ => mu_ret rfl trivial ⟨_, _, rfl, rfl⟩)
                · -- 127: not op = (17 : Int32)
                  refine mw_go mu_g194 (k := 2) (f1 := (130, [(6, .inl (0 : Int32)), (5, .inl (mu_i H (mu_p (mu_r H 91 2)) (nI b).toNatClampNeg)), (0, .inr (.inr (some 91))), (1, .inl op), (2, .inl (nI b)), (3, .inl (nI p)), (4, .inl al)], [.inl (30 : Int32), .inl op], H)) (C := []) rfl trivial ?_
                  refine mw_if (P := op = (30 : Int32)) (a := 133) (b := 144) (fun _ => rfl) trivial (fun h26 => ?_) (fun h26 => ?_)
                  · -- 133: op = (30 : Int32)
                    refine mw_go mu_g194 (k := 1) (f1 := (135, [(6, .inl (0 : Int32)), (5, .inl (mu_i H (mu_p (mu_r H 91 2)) (nI b).toNatClampNeg)), (0, .inr (.inr (some 91))), (1, .inl op), (2, .inl (nI b)), (3, .inl (nI p)), (4, .inl al)], [.inl (0 : Int32)], H)) (C := []) rfl trivial ?_
                    refine mw_if (P := (0 : Int32) = 0) (a := 142) (b := 138) (fun _ => rfl) trivial (fun h27 => ?_) (fun h27 => absurd (by decide) h27)
                    refine mw_go mu_g194 (k := 1) (f1 := (143, [(6, .inl (0 : Int32)), (5, .inl (mu_i H (mu_p (mu_r H 91 2)) (nI b).toNatClampNeg)), (0, .inr (.inr (some 91))), (1, .inl op), (2, .inl (nI b)), (3, .inl (nI p)), (4, .inl al)], [.inl (0 : Int32)], H)) (C := []) rfl trivial ?_
                    exact mw_of (fun _ => mu_ret rfl trivial ⟨_, _, rfl, rfl⟩)
                  · -- 144: not op = (30 : Int32)
                    refine mw_go mu_g194 (k := 2) (f1 := (147, [(6, .inl (0 : Int32)), (5, .inl (mu_i H (mu_p (mu_r H 91 2)) (nI b).toNatClampNeg)), (0, .inr (.inr (some 91))), (1, .inl op), (2, .inl (nI b)), (3, .inl (nI p)), (4, .inl al)], [.inl (32 : Int32), .inl op], H)) (C := []) rfl trivial ?_
                    refine mw_if (P := op = (32 : Int32)) (a := 156) (b := 150) (fun _ => rfl) trivial (fun h28 => ?_) (fun h28 => ?_)
                    · -- 156: op = (32 : Int32)
                      refine mw_go mu_g194 (k := 1) (f1 := (158, [(6, .inl (0 : Int32)), (5, .inl (mu_i H (mu_p (mu_r H 91 2)) (nI b).toNatClampNeg)), (0, .inr (.inr (some 91))), (1, .inl op), (2, .inl (nI b)), (3, .inl (nI p)), (4, .inl al)], [.inl (0 : Int32)], H)) (C := []) rfl trivial ?_
                      refine mw_if (P := (0 : Int32) = 0) (a := 166) (b := 161) (fun _ => rfl) trivial (fun h29 => ?_) (fun h29 => absurd (by decide) h29)
                      refine mw_go mu_g194 (k := 1) (f1 := (167, [(6, .inl (0 : Int32)), (5, .inl (mu_i H (mu_p (mu_r H 91 2)) (nI b).toNatClampNeg)), (0, .inr (.inr (some 91))), (1, .inl op), (2, .inl (nI b)), (3, .inl (nI p)), (4, .inl al)], [.inl (0 : Int32)], H)) (C := []) rfl trivial ?_
                      exact mw_of (fun _ => mu_ret rfl trivial ⟨_, _, rfl, rfl⟩)
                    · -- 150: not op = (32 : Int32)
                      refine mw_go mu_g194 (k := 2) (f1 := (153, [(6, .inl (0 : Int32)), (5, .inl (mu_i H (mu_p (mu_r H 91 2)) (nI b).toNatClampNeg)), (0, .inr (.inr (some 91))), (1, .inl op), (2, .inl (nI b)), (3, .inl (nI p)), (4, .inl al)], [.inl (33 : Int32), .inl op], H)) (C := []) rfl trivial ?_
                      refine mw_if (P := op = (33 : Int32)) (a := 156) (b := 168) (fun _ => rfl) trivial (fun h30 => ?_) (fun h30 => ?_)
                      · -- 156: op = (33 : Int32)
                        refine mw_go mu_g194 (k := 1) (f1 := (158, [(6, .inl (0 : Int32)), (5, .inl (mu_i H (mu_p (mu_r H 91 2)) (nI b).toNatClampNeg)), (0, .inr (.inr (some 91))), (1, .inl op), (2, .inl (nI b)), (3, .inl (nI p)), (4, .inl al)], [.inl (0 : Int32)], H)) (C := []) rfl trivial ?_
                        refine mw_if (P := (0 : Int32) = 0) (a := 166) (b := 161) (fun _ => rfl) trivial (fun h31 => ?_) (fun h31 => absurd (by decide) h31)
                        refine mw_go mu_g194 (k := 1) (f1 := (167, [(6, .inl (0 : Int32)), (5, .inl (mu_i H (mu_p (mu_r H 91 2)) (nI b).toNatClampNeg)), (0, .inr (.inr (some 91))), (1, .inl op), (2, .inl (nI b)), (3, .inl (nI p)), (4, .inl al)], [.inl (0 : Int32)], H)) (C := []) rfl trivial ?_
                        exact mw_of (fun _ => mu_ret rfl trivial ⟨_, _, rfl, rfl⟩)
                      · -- 168: not op = (33 : Int32)
                        refine mw_go mu_g194 (k := 1) (f1 := (170, [(6, .inl (0 : Int32)), (5, .inl (mu_i H (mu_p (mu_r H 91 2)) (nI b).toNatClampNeg)), (0, .inr (.inr (some 91))), (1, .inl op), (2, .inl (nI b)), (3, .inl (nI p)), (4, .inl al)], [.inl (0 : Int32)], H)) (C := []) rfl trivial ?_
                        refine mw_if (P := (0 : Int32) = 0) (a := 179) (b := 173) (fun _ => rfl) trivial (fun h32 => ?_) (fun h32 => absurd (by decide) h32)
                        refine mw_go mu_g194 (k := 1) (f1 := (180, [(6, .inl (0 : Int32)), (5, .inl (mu_i H (mu_p (mu_r H 91 2)) (nI b).toNatClampNeg)), (0, .inr (.inr (some 91))), (1, .inl op), (2, .inl (nI b)), (3, .inl (nI p)), (4, .inl al)], [.inl (0 : Int32)], H)) (C := []) rfl trivial ?_
                        exact mw_of (fun _ => mu_ret rfl trivial ⟨_, _, rfl, rfl⟩)
            · -- (1 : Int32)
              refine mw_if (P := (1 : Int32) = 0) (a := 112) (b := 108) (fun _ => rfl) trivial (fun h33 => absurd h33 (by decide)) (fun h33 => ?_)
              refine mw_go mu_g194 (k := 5) (f1 := (118, [(6, .inl (1 : Int32)), (5, .inl (mu_i H (mu_p (mu_r H 91 2)) (nI b).toNatClampNeg)), (0, .inr (.inr (some 91))), (1, .inl op), (2, .inl (nI b)), (3, .inl (nI p)), (4, .inl al)], [.inl (16 : Int32), .inl op], H)) (C := []) rfl trivial ?_
              refine mw_if (P := op = (16 : Int32)) (a := 133) (b := 121) (fun _ => rfl) trivial (fun h34 => ?_) (fun h34 => ?_)
              · -- 133: op = (16 : Int32)
                refine mw_go mu_g194 (k := 1) (f1 := (135, [(6, .inl (1 : Int32)), (5, .inl (mu_i H (mu_p (mu_r H 91 2)) (nI b).toNatClampNeg)), (0, .inr (.inr (some 91))), (1, .inl op), (2, .inl (nI b)), (3, .inl (nI p)), (4, .inl al)], [.inl (1 : Int32)], H)) (C := []) rfl trivial ?_
                refine mw_if (P := (1 : Int32) = 0) (a := 142) (b := 138) (fun _ => rfl) trivial (fun h35 => absurd h35 (by decide)) (fun h35 => ?_)
                refine mw_go mu_g194 (k := 2) (f1 := (143, [(6, .inl (1 : Int32)), (5, .inl (mu_i H (mu_p (mu_r H 91 2)) (nI b).toNatClampNeg)), (0, .inr (.inr (some 91))), (1, .inl op), (2, .inl (nI b)), (3, .inl (nI p)), (4, .inl al)], [.inl (1 : Int32)], H)) (C := []) rfl trivial ?_
                exact mw_of (fun _ => mu_ret rfl trivial ⟨_, _, rfl, rfl⟩)
              · -- 121: not op = (16 : Int32)
                refine mw_go mu_g194 (k := 2) (f1 := (124, [(6, .inl (1 : Int32)), (5, .inl (mu_i H (mu_p (mu_r H 91 2)) (nI b).toNatClampNeg)), (0, .inr (.inr (some 91))), (1, .inl op), (2, .inl (nI b)), (3, .inl (nI p)), (4, .inl al)], [.inl (17 : Int32), .inl op], H)) (C := []) rfl trivial ?_
                refine mw_if (P := op = (17 : Int32)) (a := 133) (b := 127) (fun _ => rfl) trivial (fun h36 => ?_) (fun h36 => ?_)
                · -- 133: op = (17 : Int32)
                  refine mw_go mu_g194 (k := 1) (f1 := (135, [(6, .inl (1 : Int32)), (5, .inl (mu_i H (mu_p (mu_r H 91 2)) (nI b).toNatClampNeg)), (0, .inr (.inr (some 91))), (1, .inl op), (2, .inl (nI b)), (3, .inl (nI p)), (4, .inl al)], [.inl (1 : Int32)], H)) (C := []) rfl trivial ?_
                  refine mw_if (P := (1 : Int32) = 0) (a := 142) (b := 138) (fun _ => rfl) trivial (fun h37 => absurd h37 (by decide)) (fun h37 => ?_)
                  refine mw_go mu_g194 (k := 2) (f1 := (143, [(6, .inl (1 : Int32)), (5, .inl (mu_i H (mu_p (mu_r H 91 2)) (nI b).toNatClampNeg)), (0, .inr (.inr (some 91))), (1, .inl op), (2, .inl (nI b)), (3, .inl (nI p)), (4, .inl al)], [.inl (1 : Int32)], H)) (C := []) rfl trivial ?_
                  exact mw_of (fun _ => mu_ret rfl trivial ⟨_, _, rfl, rfl⟩)
                · -- 127: not op = (17 : Int32)
                  refine mw_go mu_g194 (k := 2) (f1 := (130, [(6, .inl (1 : Int32)), (5, .inl (mu_i H (mu_p (mu_r H 91 2)) (nI b).toNatClampNeg)), (0, .inr (.inr (some 91))), (1, .inl op), (2, .inl (nI b)), (3, .inl (nI p)), (4, .inl al)], [.inl (30 : Int32), .inl op], H)) (C := []) rfl trivial ?_
                  refine mw_if (P := op = (30 : Int32)) (a := 133) (b := 144) (fun _ => rfl) trivial (fun h38 => ?_) (fun h38 => ?_)
                  · -- 133: op = (30 : Int32)
                    refine mw_go mu_g194 (k := 1) (f1 := (135, [(6, .inl (1 : Int32)), (5, .inl (mu_i H (mu_p (mu_r H 91 2)) (nI b).toNatClampNeg)), (0, .inr (.inr (some 91))), (1, .inl op), (2, .inl (nI b)), (3, .inl (nI p)), (4, .inl al)], [.inl (1 : Int32)], H)) (C := []) rfl trivial ?_
                    refine mw_if (P := (1 : Int32) = 0) (a := 142) (b := 138) (fun _ => rfl) trivial (fun h39 => absurd h39 (by decide)) (fun h39 => ?_)
                    refine mw_go mu_g194 (k := 2) (f1 := (143, [(6, .inl (1 : Int32)), (5, .inl (mu_i H (mu_p (mu_r H 91 2)) (nI b).toNatClampNeg)), (0, .inr (.inr (some 91))), (1, .inl op), (2, .inl (nI b)), (3, .inl (nI p)), (4, .inl al)], [.inl (1 : Int32)], H)) (C := []) rfl trivial ?_
                    exact mw_of (fun _ => mu_ret rfl trivial ⟨_, _, rfl, rfl⟩)
                  · -- 144: not op = (30 : Int32)
                    refine mw_go mu_g194 (k := 2) (f1 := (147, [(6, .inl (1 : Int32)), (5, .inl (mu_i H (mu_p (mu_r H 91 2)) (nI b).toNatClampNeg)), (0, .inr (.inr (some 91))), (1, .inl op), (2, .inl (nI b)), (3, .inl (nI p)), (4, .inl al)], [.inl (32 : Int32), .inl op], H)) (C := []) rfl trivial ?_
                    refine mw_if (P := op = (32 : Int32)) (a := 156) (b := 150) (fun _ => rfl) trivial (fun h40 => ?_) (fun h40 => ?_)
                    · -- 156: op = (32 : Int32)
                      refine mw_go mu_g194 (k := 1) (f1 := (158, [(6, .inl (1 : Int32)), (5, .inl (mu_i H (mu_p (mu_r H 91 2)) (nI b).toNatClampNeg)), (0, .inr (.inr (some 91))), (1, .inl op), (2, .inl (nI b)), (3, .inl (nI p)), (4, .inl al)], [.inl (1 : Int32)], H)) (C := []) rfl trivial ?_
                      refine mw_if (P := (1 : Int32) = 0) (a := 166) (b := 161) (fun _ => rfl) trivial (fun h41 => absurd h41 (by decide)) (fun h41 => ?_)
                      refine mw_go mu_g194 (k := 2) (f1 := (167, [(6, .inl (1 : Int32)), (5, .inl (mu_i H (mu_p (mu_r H 91 2)) (nI b).toNatClampNeg)), (0, .inr (.inr (some 91))), (1, .inl op), (2, .inl (nI b)), (3, .inl (nI p)), (4, .inl al)], [.inl (mu_i H (mu_p (mu_r H 91 2)) (nI b).toNatClampNeg)], H)) (C := []) rfl trivial ?_
                      exact mw_of (fun _ => mu_ret rfl trivial ⟨_, _, rfl, rfl⟩)
                    · -- 150: not op = (32 : Int32)
                      refine mw_go mu_g194 (k := 2) (f1 := (153, [(6, .inl (1 : Int32)), (5, .inl (mu_i H (mu_p (mu_r H 91 2)) (nI b).toNatClampNeg)), (0, .inr (.inr (some 91))), (1, .inl op), (2, .inl (nI b)), (3, .inl (nI p)), (4, .inl al)], [.inl (33 : Int32), .inl op], H)) (C := []) rfl trivial ?_
                      refine mw_if (P := op = (33 : Int32)) (a := 156) (b := 168) (fun _ => rfl) trivial (fun h42 => ?_) (fun h42 => ?_)
                      · -- 156: op = (33 : Int32)
                        refine mw_go mu_g194 (k := 1) (f1 := (158, [(6, .inl (1 : Int32)), (5, .inl (mu_i H (mu_p (mu_r H 91 2)) (nI b).toNatClampNeg)), (0, .inr (.inr (some 91))), (1, .inl op), (2, .inl (nI b)), (3, .inl (nI p)), (4, .inl al)], [.inl (1 : Int32)], H)) (C := []) rfl trivial ?_
                        refine mw_if (P := (1 : Int32) = 0) (a := 166) (b := 161) (fun _ => rfl) trivial (fun h43 => absurd h43 (by decide)) (fun h43 => ?_)
                        refine mw_go mu_g194 (k := 2) (f1 := (167, [(6, .inl (1 : Int32)), (5, .inl (mu_i H (mu_p (mu_r H 91 2)) (nI b).toNatClampNeg)), (0, .inr (.inr (some 91))), (1, .inl op), (2, .inl (nI b)), (3, .inl (nI p)), (4, .inl al)], [.inl (mu_i H (mu_p (mu_r H 91 2)) (nI b).toNatClampNeg)], H)) (C := []) rfl trivial ?_
                        exact mw_of (fun _ => mu_ret rfl trivial ⟨_, _, rfl, rfl⟩)
                      · -- 168: not op = (33 : Int32)
                        refine mw_go mu_g194 (k := 1) (f1 := (170, [(6, .inl (1 : Int32)), (5, .inl (mu_i H (mu_p (mu_r H 91 2)) (nI b).toNatClampNeg)), (0, .inr (.inr (some 91))), (1, .inl op), (2, .inl (nI b)), (3, .inl (nI p)), (4, .inl al)], [.inl (1 : Int32)], H)) (C := []) rfl trivial ?_
                        refine mw_if (P := (1 : Int32) = 0) (a := 179) (b := 173) (fun _ => rfl) trivial (fun h44 => absurd h44 (by decide)) (fun h44 => ?_)
                        refine mw_go mu_g194 (k := 2) (f1 := (176, [(6, .inl (1 : Int32)), (5, .inl (mu_i H (mu_p (mu_r H 91 2)) (nI b).toNatClampNeg)), (0, .inr (.inr (some 91))), (1, .inl op), (2, .inl (nI b)), (3, .inl (nI p)), (4, .inl al)], [.inl (2 : Int32), .inl (mu_i H (mu_p (mu_r H 91 2)) (nI b).toNatClampNeg)], H)) (C := []) rfl trivial ?_
                        refine mw_if (P := (mu_i H (mu_p (mu_r H 91 2)) (nI b).toNatClampNeg) = (2 : Int32)) (a := 181) (b := 179) (fun _ => rfl) trivial (fun h45 => ?_) (fun h45 => ?_)
                        · -- 181: (mu_i H (mu_p (mu_r H 91 2)) (nI b).toNatClampNeg) = (2 : Int32)
                          refine mw_go mu_g194 (k := 2) (f1 := (184, [(6, .inl (1 : Int32)), (5, .inl (mu_i H (mu_p (mu_r H 91 2)) (nI b).toNatClampNeg)), (0, .inr (.inr (some 91))), (1, .inl op), (2, .inl (nI b)), (3, .inl (nI p)), (4, .inl al)], [.inl (22 : Int32), .inl op], H)) (C := []) rfl trivial ?_
                          refine mw_if (P := op < (22 : Int32)) (a := 191) (b := 187) (fun _ => rfl) trivial (fun h46 => ?_) (fun h46 => ?_)
                          · -- 191: op < (22 : Int32)
                            refine mw_go mu_g194 (k := 1) (f1 := (192, [(6, .inl (1 : Int32)), (5, .inl (mu_i H (mu_p (mu_r H 91 2)) (nI b).toNatClampNeg)), (0, .inr (.inr (some 91))), (1, .inl op), (2, .inl (nI b)), (3, .inl (nI p)), (4, .inl al)], [.inl (1 : Int32)], H)) (C := []) rfl trivial ?_
                            exact mw_of (fun _ => mu_ret rfl trivial ⟨_, _, rfl, rfl⟩)
                          · -- 187: not op < (22 : Int32)
                            refine mw_go mu_g194 (k := 2) (f1 := (192, [(6, .inl (1 : Int32)), (5, .inl (mu_i H (mu_p (mu_r H 91 2)) (nI b).toNatClampNeg)), (0, .inr (.inr (some 91))), (1, .inl op), (2, .inl (nI b)), (3, .inl (nI p)), (4, .inl al)], [.inl (2 : Int32)], H)) (C := []) rfl trivial ?_
                            exact mw_of (fun _ => mu_ret rfl trivial ⟨_, _, rfl, rfl⟩)
                        · -- 179: not (mu_i H (mu_p (mu_r H 91 2)) (nI b).toNatClampNeg) = (2 : Int32)
                          refine mw_go mu_g194 (k := 1) (f1 := (180, [(6, .inl (1 : Int32)), (5, .inl (mu_i H (mu_p (mu_r H 91 2)) (nI b).toNatClampNeg)), (0, .inr (.inr (some 91))), (1, .inl op), (2, .inl (nI b)), (3, .inl (nI p)), (4, .inl al)], [.inl (0 : Int32)], H)) (C := []) rfl trivial ?_
                          exact mw_of (fun _ => mu_ret rfl trivial ⟨_, _, rfl, rfl⟩)
    · -- 43: not (9 : Int32) < op
      refine mw_go mu_g194 (k := 3) (f1 := (46, [(5, .inl (mu_i H (mu_p (mu_r H 91 2)) (nI b).toNatClampNeg)), (0, .inr (.inr (some 91))), (1, .inl op), (2, .inl (nI b)), (3, .inl (nI p)), (4, .inl al)], [.inl (nI p), .inl (nI b), .inr (.inr (some 91))], H)) (C := []) rfl trivial ?_
      refine mw_cI (fun _ => rfl) (show mu_is H (some 91) 3 from hg.is rfl) (jg_truths (d := d) hg hbp) (fun x47 H47 q47 => ?_)
      obtain ⟨rfl, qx47⟩ := q47; rcases qx47 with rfl | rfl
      · -- (0 : Int32)
        refine mw_if (P := (0 : Int32) = 0) (a := 52) (b := 54) (fun _ => rfl) trivial (fun h48 => ?_) (fun h48 => absurd (by decide) h48)
        refine mw_go mu_g194 (k := 1) (f1 := (53, [(5, .inl (mu_i H (mu_p (mu_r H 91 2)) (nI b).toNatClampNeg)), (0, .inr (.inr (some 91))), (1, .inl op), (2, .inl (nI b)), (3, .inl (nI p)), (4, .inl al)], [.inl (0 : Int32)], H)) (C := []) rfl trivial ?_
        exact mw_of (fun _ => mu_ret rfl trivial ⟨_, _, rfl, rfl⟩)
      · -- (1 : Int32)
        refine mw_if (P := (1 : Int32) = 0) (a := 52) (b := 54) (fun _ => rfl) trivial (fun h49 => absurd h49 (by decide)) (fun h49 => ?_)
        refine mw_go mu_g194 (k := 4) (f1 := (58, [(5, .inl (mu_i H (mu_p (mu_r H 91 2)) (nI b).toNatClampNeg)), (0, .inr (.inr (some 91))), (1, .inl op), (2, .inl (nI b)), (3, .inl (nI p)), (4, .inl al)], [.inl (1 : Int32), .inl (nI p), .inl (nI b), .inr (.inr (some 91))], H)) (C := []) rfl trivial ?_
        refine mw_cI (fun _ => rfl) (show mu_is H (some 91) 3 from hg.is rfl) (jg_all (d := d) hg hbp (1 : Int32)) (fun x50 H50 q50 => ?_)
        obtain ⟨rfl, qx50⟩ := q50; rcases qx50 with rfl | rfl
        · -- (0 : Int32)
          refine mw_if (P := (0 : Int32) = 0) (a := 68) (b := 64) (fun _ => rfl) trivial (fun h51 => ?_) (fun h51 => absurd (by decide) h51)
          refine mw_go mu_g194 (k := 1) (f1 := (70, [(5, .inl (mu_i H (mu_p (mu_r H 91 2)) (nI b).toNatClampNeg)), (0, .inr (.inr (some 91))), (1, .inl op), (2, .inl (nI b)), (3, .inl (nI p)), (4, .inl al)], [.inl (9 : Int32)], H)) (C := []) rfl trivial ?_
          exact mw_of (fun _ => mu_ret rfl trivial ⟨_, _, rfl, rfl⟩)
        · -- (1 : Int32)
          refine mw_if (P := (1 : Int32) = 0) (a := 68) (b := 64) (fun _ => rfl) trivial (fun h52 => absurd h52 (by decide)) (fun h52 => ?_)
          refine mw_go mu_g194 (k := 2) (f1 := (70, [(5, .inl (mu_i H (mu_p (mu_r H 91 2)) (nI b).toNatClampNeg)), (0, .inr (.inr (some 91))), (1, .inl op), (2, .inl (nI b)), (3, .inl (nI p)), (4, .inl al)], [.inl (1 : Int32)], H)) (C := []) rfl trivial ?_
          exact mw_of (fun _ => mu_ret rfl trivial ⟨_, _, rfl, rfl⟩)
  · -- (1 : Int32)
    refine mw_if (P := (1 : Int32) = 0) (a := 37) (b := 15) (fun _ => rfl) trivial (fun h53 => absurd h53 (by decide)) (fun h53 => ?_)
    refine mw_go mu_g194 (k := 2) (f1 := (18, [(5, .inl (mu_i H (mu_p (mu_r H 91 2)) (nI b).toNatClampNeg)), (0, .inr (.inr (some 91))), (1, .inl op), (2, .inl (nI b)), (3, .inl (nI p)), (4, .inl al)], [.inl (2 : Int32), .inl al], H)) (C := []) rfl trivial ?_
    refine mw_if (P := al = (2 : Int32)) (a := 21) (b := 35) (fun _ => rfl) trivial (fun h54 => ?_) (fun h54 => ?_)
    · -- 21: al = (2 : Int32)
      refine mw_go mu_g194 (k := 3) (f1 := (24, [(5, .inl (mu_i H (mu_p (mu_r H 91 2)) (nI b).toNatClampNeg)), (0, .inr (.inr (some 91))), (1, .inl op), (2, .inl (nI b)), (3, .inl (nI p)), (4, .inl al)], [.inl (nI p), .inl (nI b), .inr (.inr (some 91))], H)) (C := []) rfl trivial ?_
      refine mw_cI (fun _ => rfl) (show mu_is H (some 91) 3 from hg.is rfl) (jg_truths (d := d) hg hbp) (fun x55 H55 q55 => ?_)
      obtain ⟨rfl, qx55⟩ := q55; rcases qx55 with rfl | rfl
      · -- (0 : Int32)
        refine mw_if (P := (0 : Int32) = 0) (a := 35) (b := 30) (fun _ => rfl) trivial (fun h56 => ?_) (fun h56 => absurd (by decide) h56)
        refine mw_go mu_g194 (k := 1) (f1 := (36, [(5, .inl (mu_i H (mu_p (mu_r H 91 2)) (nI b).toNatClampNeg)), (0, .inr (.inr (some 91))), (1, .inl op), (2, .inl (nI b)), (3, .inl (nI p)), (4, .inl al)], [.inl (0 : Int32)], H)) (C := []) rfl trivial ?_
        exact mw_of (fun _ => mu_ret rfl trivial ⟨_, _, rfl, rfl⟩)
      · -- (1 : Int32)
        refine mw_if (P := (1 : Int32) = 0) (a := 35) (b := 30) (fun _ => rfl) trivial (fun h57 => absurd h57 (by decide)) (fun h57 => ?_)
        refine mw_go mu_g194 (k := 2) (f1 := (36, [(5, .inl (mu_i H (mu_p (mu_r H 91 2)) (nI b).toNatClampNeg)), (0, .inr (.inr (some 91))), (1, .inl op), (2, .inl (nI b)), (3, .inl (nI p)), (4, .inl al)], [.inl (9 : Int32)], H)) (C := []) rfl trivial ?_
        exact mw_of (fun _ => mu_ret rfl trivial ⟨_, _, rfl, rfl⟩)
    · -- 35: not al = (2 : Int32)
      refine mw_go mu_g194 (k := 1) (f1 := (36, [(5, .inl (mu_i H (mu_p (mu_r H 91 2)) (nI b).toNatClampNeg)), (0, .inr (.inr (some 91))), (1, .inl op), (2, .inl (nI b)), (3, .inl (nI p)), (4, .inl al)], [.inl (0 : Int32)], H)) (C := []) rfl trivial ?_
      exact mw_of (fun _ => mu_ret rfl trivial ⟨_, _, rfl, rfl⟩)
/-- a VAR's SORT, as an answer -/
theorem md_sort (hg : gi H) (hm : m = 2 ∨ m = 41) (v : Int32) : mu_TI (mu_D (d + 2)) 126 [.inr (.inr (some m)), .inl v] H (fun _ H1 => H = H1) := by
  have r3 : mu_r H m 3 = some (m + 7) := (gi_mr hg hm (j := 3) (by decide)).trans (congrArg some (by omega))
  have r4 : mu_r H m 4 = some (m + 9) := (gi_mr hg hm (j := 4) (by decide)).trans (congrArg some (by omega))
  refine (md_sortOf_ok (gi_im hg hm) ⟨by rw [r3]; rfl, _, _, by rw [r3]; exact hg.w (md_w3 hm)⟩ ⟨by rw [r4]; rfl, _, _, by rw [r4]; exact hg.w (md_w4 hm)⟩ v).imp (fun x H1 q => q.2.symm)
/-- PathProver$Judge.leafSort(III)I -/
abbrev mu_m193 : ev_M := (8, (some .int), [], ev_b193)
theorem mu_g193 : mu_good mu_m193 := mu_goodk ev_k193
theorem jg_leaf (hg : gi H) (hm : m = 2 ∨ m = 41) (hj3 : mu_r H 91 3 = some m) (v w al : Int32) : mu_TI (mu_D (d + 3)) 193 [.inr (.inr (some 91)), .inl v, .inl w, .inl al] H (fun x H1 => H = H1) := by
  refine mu_meth (M := mu_m193) rfl rfl ?_
  refine mw_ht (mu_fn_of (show [0, 1, 2, 3].Nodup by decide)) ?_
  refine mw_go mu_g193 (k := 2) (f1 := (4, [(0, .inr (.inr (some 91))), (1, .inl v), (2, .inl w), (3, .inl al)], [.inr (.inr (mu_r H 91 3))], H)) (C := [mu_is H (some 91) 3]) rfl (show mu_is H (some 91) 3 from hg.is rfl) ?_
  rw [hj3]
  refine mw_go mu_g193 (k := 1) (f1 := (7, [(0, .inr (.inr (some 91))), (1, .inl v), (2, .inl w), (3, .inl al)], [.inr (.inr (mu_r H m 0))], H)) (C := [mu_is H (some m) 6]) rfl (show mu_is H (some m) 6 from gi_im hg hm) ?_
  rw [(show mu_r H m 0 = some (m + 1) from (gi_mr hg hm (j := 0) (by decide)).trans (congrArg some (by omega)))]
  refine mw_go mu_g193 (k := 2) (f1 := (9, [(0, .inr (.inr (some 91))), (1, .inl v), (2, .inl w), (3, .inl al)], [.inl (0 : Int32), .inl v, .inr (.inr (some (m + 1)))], H)) (C := []) rfl trivial ?_
  refine mw_cIe (fun _ => rfl) (show mu_is H (some (m + 1)) 10 from (hg.w (md_w0 hm)).1) (gi_get_ok (d := (d + 1)) hg (md_w0 hm) v (j := 0) (by decide)) ?_
  refine mw_go mu_g193 (k := 2) (f1 := (16, [(4, .inl (rw_get H (m + 1) 2 (gi_sz H (m + 1)) v 0)), (0, .inr (.inr (some 91))), (1, .inl v), (2, .inl w), (3, .inl al)], [.inl (rw_get H (m + 1) 2 (gi_sz H (m + 1)) v 0)], H)) (C := []) rfl trivial ?_
  refine mw_if (P := (rw_get H (m + 1) 2 (gi_sz H (m + 1)) v 0) = 0) (a := 25) (b := 19) (fun _ => rfl) trivial (fun h2 => ?_) (fun h2 => ?_)
  · -- 25: (rw_get H (m + 1) 2 (gi_sz H (m + 1)) v 0) = 0
    refine mw_go mu_g193 (k := 1) (f1 := (27, [(4, .inl (rw_get H (m + 1) 2 (gi_sz H (m + 1)) v 0)), (0, .inr (.inr (some 91))), (1, .inl v), (2, .inl w), (3, .inl al)], [.inl (rw_get H (m + 1) 2 (gi_sz H (m + 1)) v 0)], H)) (C := []) rfl trivial ?_
    refine mw_if (P := (rw_get H (m + 1) 2 (gi_sz H (m + 1)) v 0) = 0) (a := 30) (b := 34) (fun _ => rfl) trivial (fun _ => ?_) (fun h3 => absurd h2 h3)
    refine mw_go mu_g193 (k := 2) (f1 := (35, [(4, .inl (rw_get H (m + 1) 2 (gi_sz H (m + 1)) v 0)), (0, .inr (.inr (some 91))), (1, .inl v), (2, .inl w), (3, .inl al)], [.inl (1 : Int32)], H)) (C := []) rfl trivial ?_
    exact mw_of (fun _ => mu_ret rfl trivial ⟨_, _, rfl, rfl⟩)
  · -- 19: not (rw_get H (m + 1) 2 (gi_sz H (m + 1)) v 0) = 0
    refine mw_go mu_g193 (k := 2) (f1 := (22, [(4, .inl (rw_get H (m + 1) 2 (gi_sz H (m + 1)) v 0)), (0, .inr (.inr (some 91))), (1, .inl v), (2, .inl w), (3, .inl al)], [.inl (1 : Int32), .inl (rw_get H (m + 1) 2 (gi_sz H (m + 1)) v 0)], H)) (C := []) rfl trivial ?_
    refine mw_if (P := (rw_get H (m + 1) 2 (gi_sz H (m + 1)) v 0) = (1 : Int32)) (a := 25) (b := 36) (fun _ => rfl) trivial (fun h4 => ?_) (fun h4 => ?_)
    · -- 25: (rw_get H (m + 1) 2 (gi_sz H (m + 1)) v 0) = (1 : Int32)
      refine mw_go mu_g193 (k := 1) (f1 := (27, [(4, .inl (rw_get H (m + 1) 2 (gi_sz H (m + 1)) v 0)), (0, .inr (.inr (some 91))), (1, .inl v), (2, .inl w), (3, .inl al)], [.inl (rw_get H (m + 1) 2 (gi_sz H (m + 1)) v 0)], H)) (C := []) rfl trivial ?_
      refine mw_if (P := (rw_get H (m + 1) 2 (gi_sz H (m + 1)) v 0) = 0) (a := 30) (b := 34) (fun _ => rfl) trivial (fun h5 => absurd h5 h2) (fun _ => ?_)
      refine mw_go mu_g193 (k := 1) (f1 := (35, [(4, .inl (rw_get H (m + 1) 2 (gi_sz H (m + 1)) v 0)), (0, .inr (.inr (some 91))), (1, .inl v), (2, .inl w), (3, .inl al)], [.inl (2 : Int32)], H)) (C := []) rfl trivial ?_
      exact mw_of (fun _ => mu_ret rfl trivial ⟨_, _, rfl, rfl⟩)
    · -- 36: not (rw_get H (m + 1) 2 (gi_sz H (m + 1)) v 0) = (1 : Int32)
      refine mw_go mu_g193 (k := 2) (f1 := (40, [(4, .inl (rw_get H (m + 1) 2 (gi_sz H (m + 1)) v 0)), (0, .inr (.inr (some 91))), (1, .inl v), (2, .inl w), (3, .inl al)], [.inr (.inr (mu_r H 91 3))], H)) (C := [mu_is H (some 91) 3]) rfl (show mu_is H (some 91) 3 from hg.is rfl) ?_
      rw [hj3]
      refine mw_go mu_g193 (k := 1) (f1 := (43, [(4, .inl (rw_get H (m + 1) 2 (gi_sz H (m + 1)) v 0)), (0, .inr (.inr (some 91))), (1, .inl v), (2, .inl w), (3, .inl al)], [.inr (.inr (mu_r H m 0))], H)) (C := [mu_is H (some m) 6]) rfl (show mu_is H (some m) 6 from gi_im hg hm) ?_
      rw [(show mu_r H m 0 = some (m + 1) from (gi_mr hg hm (j := 0) (by decide)).trans (congrArg some (by omega)))]
      refine mw_go mu_g193 (k := 2) (f1 := (45, [(4, .inl (rw_get H (m + 1) 2 (gi_sz H (m + 1)) v 0)), (0, .inr (.inr (some 91))), (1, .inl v), (2, .inl w), (3, .inl al)], [.inl (1 : Int32), .inl v, .inr (.inr (some (m + 1)))], H)) (C := []) rfl trivial ?_
      refine mw_cIe (fun _ => rfl) (show mu_is H (some (m + 1)) 10 from (hg.w (md_w0 hm)).1) (gi_get_ok (d := (d + 1)) hg (md_w0 hm) v (j := 1) (by decide)) ?_
      refine mw_go mu_g193 (k := 3) (f1 := (54, [(5, .inl (rw_get H (m + 1) 2 (gi_sz H (m + 1)) v 1)), (4, .inl (rw_get H (m + 1) 2 (gi_sz H (m + 1)) v 0)), (0, .inr (.inr (some 91))), (1, .inl v), (2, .inl w), (3, .inl al)], [.inr (.inr (mu_r H 91 3))], H)) (C := [mu_is H (some 91) 3]) rfl (show mu_is H (some 91) 3 from hg.is rfl) ?_
      rw [hj3]
      refine mw_go mu_g193 (k := 1) (f1 := (57, [(5, .inl (rw_get H (m + 1) 2 (gi_sz H (m + 1)) v 1)), (4, .inl (rw_get H (m + 1) 2 (gi_sz H (m + 1)) v 0)), (0, .inr (.inr (some 91))), (1, .inl v), (2, .inl w), (3, .inl al)], [.inr (.inr (mu_r H m 9))], H)) (C := [mu_is H (some m) 6]) rfl (show mu_is H (some m) 6 from gi_im hg hm) ?_
      rw [(show mu_r H m 9 = some (m + 19) from (gi_mr hg hm (j := 9) (by decide)).trans (congrArg some (by omega)))]
      refine mw_go mu_g193 (k := 2) (f1 := (60, [(5, .inl (rw_get H (m + 1) 2 (gi_sz H (m + 1)) v 1)), (4, .inl (rw_get H (m + 1) 2 (gi_sz H (m + 1)) v 0)), (0, .inr (.inr (some 91))), (1, .inl v), (2, .inl w), (3, .inl al)], [.inl (2 : Int32), .inl (rw_get H (m + 1) 2 (gi_sz H (m + 1)) v 1), .inr (.inr (some (m + 19)))], H)) (C := []) rfl trivial ?_
      refine mw_cIe (fun _ => rfl) (show mu_is H (some (m + 19)) 10 from (hg.w (md_w9 hm)).1) (gi_get_ok (d := (d + 1)) hg (md_w9 hm) (rw_get H (m + 1) 2 (gi_sz H (m + 1)) v 1) (j := 2) (by decide)) ?_
      refine mw_go mu_g193 (k := 3) (f1 := (68, [(6, .inl (rw_get H (m + 19) 4 (gi_sz H (m + 19)) (rw_get H (m + 1) 2 (gi_sz H (m + 1)) v 1) 2)), (5, .inl (rw_get H (m + 1) 2 (gi_sz H (m + 1)) v 1)), (4, .inl (rw_get H (m + 1) 2 (gi_sz H (m + 1)) v 0)), (0, .inr (.inr (some 91))), (1, .inl v), (2, .inl w), (3, .inl al)], [.inl (3 : Int32), .inl (rw_get H (m + 1) 2 (gi_sz H (m + 1)) v 0)], H)) (C := []) rfl trivial ?_
      refine mw_if (P := (rw_get H (m + 1) 2 (gi_sz H (m + 1)) v 0) = (3 : Int32)) (a := 71) (b := 84) (fun _ => rfl) trivial (fun h8 => ?_) (fun h8 => ?_)
      · -- 71: (rw_get H (m + 1) 2 (gi_sz H (m + 1)) v 0) = (3 : Int32)
        refine mw_go mu_g193 (k := 2) (f1 := (74, [(6, .inl (rw_get H (m + 19) 4 (gi_sz H (m + 19)) (rw_get H (m + 1) 2 (gi_sz H (m + 1)) v 1) 2)), (5, .inl (rw_get H (m + 1) 2 (gi_sz H (m + 1)) v 1)), (4, .inl (rw_get H (m + 1) 2 (gi_sz H (m + 1)) v 0)), (0, .inr (.inr (some 91))), (1, .inl v), (2, .inl w), (3, .inl al)], [.inl (3 : Int32), .inl (rw_get H (m + 19) 4 (gi_sz H (m + 19)) (rw_get H (m + 1) 2 (gi_sz H (m + 1)) v 1) 2)], H)) (C := []) rfl trivial ?_
        refine mw_if (P := (rw_get H (m + 19) 4 (gi_sz H (m + 19)) (rw_get H (m + 1) 2 (gi_sz H (m + 1)) v 1) 2) = (3 : Int32)) (a := 77) (b := 82) (fun _ => rfl) trivial (fun h9 => ?_) (fun h9 => ?_)
        · -- 77: (rw_get H (m + 19) 4 (gi_sz H (m + 19)) (rw_get H (m + 1) 2 (gi_sz H (m + 1)) v 1) 2) = (3 : Int32)
          refine mw_go mu_g193 (k := 2) (f1 := (79, [(6, .inl (rw_get H (m + 19) 4 (gi_sz H (m + 19)) (rw_get H (m + 1) 2 (gi_sz H (m + 1)) v 1) 2)), (5, .inl (rw_get H (m + 1) 2 (gi_sz H (m + 1)) v 1)), (4, .inl (rw_get H (m + 1) 2 (gi_sz H (m + 1)) v 0)), (0, .inr (.inr (some 91))), (1, .inl v), (2, .inl w), (3, .inl al)], [.inl (1 : Int32), .inl al], H)) (C := []) rfl trivial ?_
          refine mw_if (P := al = (1 : Int32)) (a := 84) (b := 82) (fun _ => rfl) trivial (fun h10 => ?_) (fun h10 => ?_)
          · -- 84: al = (1 : Int32)
            refine mw_go mu_g193 (k := 2) (f1 := (87, [(6, .inl (rw_get H (m + 19) 4 (gi_sz H (m + 19)) (rw_get H (m + 1) 2 (gi_sz H (m + 1)) v 1) 2)), (5, .inl (rw_get H (m + 1) 2 (gi_sz H (m + 1)) v 1)), (4, .inl (rw_get H (m + 1) 2 (gi_sz H (m + 1)) v 0)), (0, .inr (.inr (some 91))), (1, .inl v), (2, .inl w), (3, .inl al)], [.inl (5 : Int32), .inl (rw_get H (m + 19) 4 (gi_sz H (m + 19)) (rw_get H (m + 1) 2 (gi_sz H (m + 1)) v 1) 2)], H)) (C := []) rfl trivial ?_
            refine mw_if (P := (rw_get H (m + 19) 4 (gi_sz H (m + 19)) (rw_get H (m + 1) 2 (gi_sz H (m + 1)) v 1) 2) = (5 : Int32)) (a := 90) (b := 92) (fun _ => rfl) trivial (fun h11 => ?_) (fun h11 => ?_)
            · -- 90: (rw_get H (m + 19) 4 (gi_sz H (m + 19)) (rw_get H (m + 1) 2 (gi_sz H (m + 1)) v 1) 2) = (5 : Int32)
              refine mw_go mu_g193 (k := 1) (f1 := (91, [(6, .inl (rw_get H (m + 19) 4 (gi_sz H (m + 19)) (rw_get H (m + 1) 2 (gi_sz H (m + 1)) v 1) 2)), (5, .inl (rw_get H (m + 1) 2 (gi_sz H (m + 1)) v 1)), (4, .inl (rw_get H (m + 1) 2 (gi_sz H (m + 1)) v 0)), (0, .inr (.inr (some 91))), (1, .inl v), (2, .inl w), (3, .inl al)], [.inl (3 : Int32)], H)) (C := []) rfl trivial ?_
              exact mw_of (fun _ => mu_ret rfl trivial ⟨_, _, rfl, rfl⟩)
            · -- 92: not (rw_get H (m + 19) 4 (gi_sz H (m + 19)) (rw_get H (m + 1) 2 (gi_sz H (m + 1)) v 1) 2) = (5 : Int32)
              refine mw_go mu_g193 (k := 2) (f1 := (96, [(6, .inl (rw_get H (m + 19) 4 (gi_sz H (m + 19)) (rw_get H (m + 1) 2 (gi_sz H (m + 1)) v 1) 2)), (5, .inl (rw_get H (m + 1) 2 (gi_sz H (m + 1)) v 1)), (4, .inl (rw_get H (m + 1) 2 (gi_sz H (m + 1)) v 0)), (0, .inr (.inr (some 91))), (1, .inl v), (2, .inl w), (3, .inl al)], [.inr (.inr (mu_r H 91 3))], H)) (C := [mu_is H (some 91) 3]) rfl (show mu_is H (some 91) 3 from hg.is rfl) ?_
              rw [hj3]
              refine mw_go mu_g193 (k := 2) (f1 := (99, [(6, .inl (rw_get H (m + 19) 4 (gi_sz H (m + 19)) (rw_get H (m + 1) 2 (gi_sz H (m + 1)) v 1) 2)), (5, .inl (rw_get H (m + 1) 2 (gi_sz H (m + 1)) v 1)), (4, .inl (rw_get H (m + 1) 2 (gi_sz H (m + 1)) v 0)), (0, .inr (.inr (some 91))), (1, .inl v), (2, .inl w), (3, .inl al)], [.inl w, .inl (rw_get H (m + 1) 2 (gi_sz H (m + 1)) v 1), .inr (.inr (some m))], H)) (C := []) rfl trivial ?_
              refine mw_cI (fun _ => rfl) (show mu_is H (some m) 6 from gi_im hg hm) (md_reach (d := d) hg hm (rw_get H (m + 1) 2 (gi_sz H (m + 1)) v 1) w) (fun x12 H12 q12 => ?_)
              obtain rfl := q12
              refine mw_go mu_g193 (k := 3) (f1 := (107, [(7, .inl x12), (6, .inl (rw_get H (m + 19) 4 (gi_sz H (m + 19)) (rw_get H (m + 1) 2 (gi_sz H (m + 1)) v 1) 2)), (5, .inl (rw_get H (m + 1) 2 (gi_sz H (m + 1)) v 1)), (4, .inl (rw_get H (m + 1) 2 (gi_sz H (m + 1)) v 0)), (0, .inr (.inr (some 91))), (1, .inl v), (2, .inl w), (3, .inl al)], [.inl (3 : Int32), .inl (rw_get H (m + 19) 4 (gi_sz H (m + 19)) (rw_get H (m + 1) 2 (gi_sz H (m + 1)) v 1) 2)], H)) (C := []) rfl trivial ?_
              refine mw_if (P := (rw_get H (m + 19) 4 (gi_sz H (m + 19)) (rw_get H (m + 1) 2 (gi_sz H (m + 1)) v 1) 2) = (3 : Int32)) (a := 110) (b := 133) (fun _ => rfl) trivial (fun _ => ?_) (fun h13 => absurd h9 h13)
              refine mw_go mu_g193 (k := 2) (f1 := (114, [(7, .inl x12), (6, .inl (rw_get H (m + 19) 4 (gi_sz H (m + 19)) (rw_get H (m + 1) 2 (gi_sz H (m + 1)) v 1) 2)), (5, .inl (rw_get H (m + 1) 2 (gi_sz H (m + 1)) v 1)), (4, .inl (rw_get H (m + 1) 2 (gi_sz H (m + 1)) v 0)), (0, .inr (.inr (some 91))), (1, .inl v), (2, .inl w), (3, .inl al)], [.inr (.inr (mu_r H 91 3))], H)) (C := [mu_is H (some 91) 3]) rfl (show mu_is H (some 91) 3 from hg.is rfl) ?_
              rw [hj3]
              refine mw_go mu_g193 (k := 2) (f1 := (118, [(7, .inl x12), (6, .inl (rw_get H (m + 19) 4 (gi_sz H (m + 19)) (rw_get H (m + 1) 2 (gi_sz H (m + 1)) v 1) 2)), (5, .inl (rw_get H (m + 1) 2 (gi_sz H (m + 1)) v 1)), (4, .inl (rw_get H (m + 1) 2 (gi_sz H (m + 1)) v 0)), (0, .inr (.inr (some 91))), (1, .inl v), (2, .inl w), (3, .inl al)], [.inr (.inr (mu_r H 91 3)), .inr (.inr (some m))], H)) (C := [mu_is H (some 91) 3]) rfl (show mu_is H (some 91) 3 from hg.is rfl) ?_
              rw [hj3]
              refine mw_go mu_g193 (k := 1) (f1 := (121, [(7, .inl x12), (6, .inl (rw_get H (m + 19) 4 (gi_sz H (m + 19)) (rw_get H (m + 1) 2 (gi_sz H (m + 1)) v 1) 2)), (5, .inl (rw_get H (m + 1) 2 (gi_sz H (m + 1)) v 1)), (4, .inl (rw_get H (m + 1) 2 (gi_sz H (m + 1)) v 0)), (0, .inr (.inr (some 91))), (1, .inl v), (2, .inl w), (3, .inl al)], [.inr (.inr (mu_r H m 15)), .inr (.inr (some m))], H)) (C := [mu_is H (some m) 6]) rfl (show mu_is H (some m) 6 from gi_im hg hm) ?_
              rw [(show mu_r H m 15 = some (m + 31) from (gi_mr hg hm (j := 15) (by decide)).trans (congrArg some (by omega)))]
              refine mw_go mu_g193 (k := 2) (f1 := (124, [(7, .inl x12), (6, .inl (rw_get H (m + 19) 4 (gi_sz H (m + 19)) (rw_get H (m + 1) 2 (gi_sz H (m + 1)) v 1) 2)), (5, .inl (rw_get H (m + 1) 2 (gi_sz H (m + 1)) v 1)), (4, .inl (rw_get H (m + 1) 2 (gi_sz H (m + 1)) v 0)), (0, .inr (.inr (some 91))), (1, .inl v), (2, .inl w), (3, .inl al)], [.inl (0 : Int32), .inl x12, .inr (.inr (some (m + 31))), .inr (.inr (some m))], H)) (C := []) rfl trivial ?_
              refine mw_cIe (fun _ => rfl) (show mu_is H (some (m + 31)) 10 from (hg.w (md_w15 hm)).1) (gi_get_ok (d := (d + 1)) hg (md_w15 hm) x12 (j := 0) (by decide)) ?_
              refine mw_cI (fun _ => rfl) (show mu_is H (some m) 6 from gi_im hg hm) (md_sort (d := d) hg hm (rw_get H (m + 31) 4 (gi_sz H (m + 31)) x12 0)) (fun x15 H15 q15 => ?_)
              obtain rfl := q15
              refine mw_go mu_g193 (k := 1) (f1 := (146, [(7, .inl x12), (6, .inl (rw_get H (m + 19) 4 (gi_sz H (m + 19)) (rw_get H (m + 1) 2 (gi_sz H (m + 1)) v 1) 2)), (5, .inl (rw_get H (m + 1) 2 (gi_sz H (m + 1)) v 1)), (4, .inl (rw_get H (m + 1) 2 (gi_sz H (m + 1)) v 0)), (0, .inr (.inr (some 91))), (1, .inl v), (2, .inl w), (3, .inl al)], [.inl x15], H)) (C := []) rfl trivial ?_
              exact mw_of (fun _ => mu_ret rfl trivial ⟨_, _, rfl, rfl⟩)
          · -- 82: not al = (1 : Int32)
            refine mw_go mu_g193 (k := 1) (f1 := (83, [(6, .inl (rw_get H (m + 19) 4 (gi_sz H (m + 19)) (rw_get H (m + 1) 2 (gi_sz H (m + 1)) v 1) 2)), (5, .inl (rw_get H (m + 1) 2 (gi_sz H (m + 1)) v 1)), (4, .inl (rw_get H (m + 1) 2 (gi_sz H (m + 1)) v 0)), (0, .inr (.inr (some 91))), (1, .inl v), (2, .inl w), (3, .inl al)], [.inl (0 : Int32)], H)) (C := []) rfl trivial ?_
            exact mw_of (fun _ => mu_ret rfl trivial ⟨_, _, rfl, rfl⟩)
        · -- 82: not (rw_get H (m + 19) 4 (gi_sz H (m + 19)) (rw_get H (m + 1) 2 (gi_sz H (m + 1)) v 1) 2) = (3 : Int32)
          refine mw_go mu_g193 (k := 1) (f1 := (83, [(6, .inl (rw_get H (m + 19) 4 (gi_sz H (m + 19)) (rw_get H (m + 1) 2 (gi_sz H (m + 1)) v 1) 2)), (5, .inl (rw_get H (m + 1) 2 (gi_sz H (m + 1)) v 1)), (4, .inl (rw_get H (m + 1) 2 (gi_sz H (m + 1)) v 0)), (0, .inr (.inr (some 91))), (1, .inl v), (2, .inl w), (3, .inl al)], [.inl (0 : Int32)], H)) (C := []) rfl trivial ?_
          exact mw_of (fun _ => mu_ret rfl trivial ⟨_, _, rfl, rfl⟩)
      · -- 84: not (rw_get H (m + 1) 2 (gi_sz H (m + 1)) v 0) = (3 : Int32)
        refine mw_go mu_g193 (k := 2) (f1 := (87, [(6, .inl (rw_get H (m + 19) 4 (gi_sz H (m + 19)) (rw_get H (m + 1) 2 (gi_sz H (m + 1)) v 1) 2)), (5, .inl (rw_get H (m + 1) 2 (gi_sz H (m + 1)) v 1)), (4, .inl (rw_get H (m + 1) 2 (gi_sz H (m + 1)) v 0)), (0, .inr (.inr (some 91))), (1, .inl v), (2, .inl w), (3, .inl al)], [.inl (5 : Int32), .inl (rw_get H (m + 19) 4 (gi_sz H (m + 19)) (rw_get H (m + 1) 2 (gi_sz H (m + 1)) v 1) 2)], H)) (C := []) rfl trivial ?_
        refine mw_if (P := (rw_get H (m + 19) 4 (gi_sz H (m + 19)) (rw_get H (m + 1) 2 (gi_sz H (m + 1)) v 1) 2) = (5 : Int32)) (a := 90) (b := 92) (fun _ => rfl) trivial (fun h16 => ?_) (fun h16 => ?_)
        · -- 90: (rw_get H (m + 19) 4 (gi_sz H (m + 19)) (rw_get H (m + 1) 2 (gi_sz H (m + 1)) v 1) 2) = (5 : Int32)
          refine mw_go mu_g193 (k := 1) (f1 := (91, [(6, .inl (rw_get H (m + 19) 4 (gi_sz H (m + 19)) (rw_get H (m + 1) 2 (gi_sz H (m + 1)) v 1) 2)), (5, .inl (rw_get H (m + 1) 2 (gi_sz H (m + 1)) v 1)), (4, .inl (rw_get H (m + 1) 2 (gi_sz H (m + 1)) v 0)), (0, .inr (.inr (some 91))), (1, .inl v), (2, .inl w), (3, .inl al)], [.inl (3 : Int32)], H)) (C := []) rfl trivial ?_
          exact mw_of (fun _ => mu_ret rfl trivial ⟨_, _, rfl, rfl⟩)
        · -- 92: not (rw_get H (m + 19) 4 (gi_sz H (m + 19)) (rw_get H (m + 1) 2 (gi_sz H (m + 1)) v 1) 2) = (5 : Int32)
          refine mw_go mu_g193 (k := 2) (f1 := (96, [(6, .inl (rw_get H (m + 19) 4 (gi_sz H (m + 19)) (rw_get H (m + 1) 2 (gi_sz H (m + 1)) v 1) 2)), (5, .inl (rw_get H (m + 1) 2 (gi_sz H (m + 1)) v 1)), (4, .inl (rw_get H (m + 1) 2 (gi_sz H (m + 1)) v 0)), (0, .inr (.inr (some 91))), (1, .inl v), (2, .inl w), (3, .inl al)], [.inr (.inr (mu_r H 91 3))], H)) (C := [mu_is H (some 91) 3]) rfl (show mu_is H (some 91) 3 from hg.is rfl) ?_
          rw [hj3]
          refine mw_go mu_g193 (k := 2) (f1 := (99, [(6, .inl (rw_get H (m + 19) 4 (gi_sz H (m + 19)) (rw_get H (m + 1) 2 (gi_sz H (m + 1)) v 1) 2)), (5, .inl (rw_get H (m + 1) 2 (gi_sz H (m + 1)) v 1)), (4, .inl (rw_get H (m + 1) 2 (gi_sz H (m + 1)) v 0)), (0, .inr (.inr (some 91))), (1, .inl v), (2, .inl w), (3, .inl al)], [.inl w, .inl (rw_get H (m + 1) 2 (gi_sz H (m + 1)) v 1), .inr (.inr (some m))], H)) (C := []) rfl trivial ?_
          refine mw_cI (fun _ => rfl) (show mu_is H (some m) 6 from gi_im hg hm) (md_reach (d := d) hg hm (rw_get H (m + 1) 2 (gi_sz H (m + 1)) v 1) w) (fun x17 H17 q17 => ?_)
          obtain rfl := q17
          refine mw_go mu_g193 (k := 3) (f1 := (107, [(7, .inl x17), (6, .inl (rw_get H (m + 19) 4 (gi_sz H (m + 19)) (rw_get H (m + 1) 2 (gi_sz H (m + 1)) v 1) 2)), (5, .inl (rw_get H (m + 1) 2 (gi_sz H (m + 1)) v 1)), (4, .inl (rw_get H (m + 1) 2 (gi_sz H (m + 1)) v 0)), (0, .inr (.inr (some 91))), (1, .inl v), (2, .inl w), (3, .inl al)], [.inl (3 : Int32), .inl (rw_get H (m + 19) 4 (gi_sz H (m + 19)) (rw_get H (m + 1) 2 (gi_sz H (m + 1)) v 1) 2)], H)) (C := []) rfl trivial ?_
          refine mw_if (P := (rw_get H (m + 19) 4 (gi_sz H (m + 19)) (rw_get H (m + 1) 2 (gi_sz H (m + 1)) v 1) 2) = (3 : Int32)) (a := 110) (b := 133) (fun _ => rfl) trivial (fun h18 => ?_) (fun h18 => ?_)
          · -- 110: (rw_get H (m + 19) 4 (gi_sz H (m + 19)) (rw_get H (m + 1) 2 (gi_sz H (m + 1)) v 1) 2) = (3 : Int32)
            refine mw_go mu_g193 (k := 2) (f1 := (114, [(7, .inl x17), (6, .inl (rw_get H (m + 19) 4 (gi_sz H (m + 19)) (rw_get H (m + 1) 2 (gi_sz H (m + 1)) v 1) 2)), (5, .inl (rw_get H (m + 1) 2 (gi_sz H (m + 1)) v 1)), (4, .inl (rw_get H (m + 1) 2 (gi_sz H (m + 1)) v 0)), (0, .inr (.inr (some 91))), (1, .inl v), (2, .inl w), (3, .inl al)], [.inr (.inr (mu_r H 91 3))], H)) (C := [mu_is H (some 91) 3]) rfl (show mu_is H (some 91) 3 from hg.is rfl) ?_
            rw [hj3]
            refine mw_go mu_g193 (k := 2) (f1 := (118, [(7, .inl x17), (6, .inl (rw_get H (m + 19) 4 (gi_sz H (m + 19)) (rw_get H (m + 1) 2 (gi_sz H (m + 1)) v 1) 2)), (5, .inl (rw_get H (m + 1) 2 (gi_sz H (m + 1)) v 1)), (4, .inl (rw_get H (m + 1) 2 (gi_sz H (m + 1)) v 0)), (0, .inr (.inr (some 91))), (1, .inl v), (2, .inl w), (3, .inl al)], [.inr (.inr (mu_r H 91 3)), .inr (.inr (some m))], H)) (C := [mu_is H (some 91) 3]) rfl (show mu_is H (some 91) 3 from hg.is rfl) ?_
            rw [hj3]
            refine mw_go mu_g193 (k := 1) (f1 := (121, [(7, .inl x17), (6, .inl (rw_get H (m + 19) 4 (gi_sz H (m + 19)) (rw_get H (m + 1) 2 (gi_sz H (m + 1)) v 1) 2)), (5, .inl (rw_get H (m + 1) 2 (gi_sz H (m + 1)) v 1)), (4, .inl (rw_get H (m + 1) 2 (gi_sz H (m + 1)) v 0)), (0, .inr (.inr (some 91))), (1, .inl v), (2, .inl w), (3, .inl al)], [.inr (.inr (mu_r H m 15)), .inr (.inr (some m))], H)) (C := [mu_is H (some m) 6]) rfl (show mu_is H (some m) 6 from gi_im hg hm) ?_
            rw [(show mu_r H m 15 = some (m + 31) from (gi_mr hg hm (j := 15) (by decide)).trans (congrArg some (by omega)))]
            refine mw_go mu_g193 (k := 2) (f1 := (124, [(7, .inl x17), (6, .inl (rw_get H (m + 19) 4 (gi_sz H (m + 19)) (rw_get H (m + 1) 2 (gi_sz H (m + 1)) v 1) 2)), (5, .inl (rw_get H (m + 1) 2 (gi_sz H (m + 1)) v 1)), (4, .inl (rw_get H (m + 1) 2 (gi_sz H (m + 1)) v 0)), (0, .inr (.inr (some 91))), (1, .inl v), (2, .inl w), (3, .inl al)], [.inl (0 : Int32), .inl x17, .inr (.inr (some (m + 31))), .inr (.inr (some m))], H)) (C := []) rfl trivial ?_
            refine mw_cIe (fun _ => rfl) (show mu_is H (some (m + 31)) 10 from (hg.w (md_w15 hm)).1) (gi_get_ok (d := (d + 1)) hg (md_w15 hm) x17 (j := 0) (by decide)) ?_
            refine mw_cI (fun _ => rfl) (show mu_is H (some m) 6 from gi_im hg hm) (md_sort (d := d) hg hm (rw_get H (m + 31) 4 (gi_sz H (m + 31)) x17 0)) (fun x20 H20 q20 => ?_)
            obtain rfl := q20
            refine mw_go mu_g193 (k := 1) (f1 := (146, [(7, .inl x17), (6, .inl (rw_get H (m + 19) 4 (gi_sz H (m + 19)) (rw_get H (m + 1) 2 (gi_sz H (m + 1)) v 1) 2)), (5, .inl (rw_get H (m + 1) 2 (gi_sz H (m + 1)) v 1)), (4, .inl (rw_get H (m + 1) 2 (gi_sz H (m + 1)) v 0)), (0, .inr (.inr (some 91))), (1, .inl v), (2, .inl w), (3, .inl al)], [.inl x20], H)) (C := []) rfl trivial ?_
            exact mw_of (fun _ => mu_ret rfl trivial ⟨_, _, rfl, rfl⟩)
          · -- 133: not (rw_get H (m + 19) 4 (gi_sz H (m + 19)) (rw_get H (m + 1) 2 (gi_sz H (m + 1)) v 1) 2) = (3 : Int32)
            refine mw_go mu_g193 (k := 2) (f1 := (137, [(7, .inl x17), (6, .inl (rw_get H (m + 19) 4 (gi_sz H (m + 19)) (rw_get H (m + 1) 2 (gi_sz H (m + 1)) v 1) 2)), (5, .inl (rw_get H (m + 1) 2 (gi_sz H (m + 1)) v 1)), (4, .inl (rw_get H (m + 1) 2 (gi_sz H (m + 1)) v 0)), (0, .inr (.inr (some 91))), (1, .inl v), (2, .inl w), (3, .inl al)], [.inr (.inr (mu_r H 91 3))], H)) (C := [mu_is H (some 91) 3]) rfl (show mu_is H (some 91) 3 from hg.is rfl) ?_
            rw [hj3]
            refine mw_go mu_g193 (k := 1) (f1 := (140, [(7, .inl x17), (6, .inl (rw_get H (m + 19) 4 (gi_sz H (m + 19)) (rw_get H (m + 1) 2 (gi_sz H (m + 1)) v 1) 2)), (5, .inl (rw_get H (m + 1) 2 (gi_sz H (m + 1)) v 1)), (4, .inl (rw_get H (m + 1) 2 (gi_sz H (m + 1)) v 0)), (0, .inr (.inr (some 91))), (1, .inl v), (2, .inl w), (3, .inl al)], [.inr (.inr (mu_r H m 13))], H)) (C := [mu_is H (some m) 6]) rfl (show mu_is H (some m) 6 from gi_im hg hm) ?_
            rw [(show mu_r H m 13 = some (m + 27) from (gi_mr hg hm (j := 13) (by decide)).trans (congrArg some (by omega)))]
            refine mw_go mu_g193 (k := 2) (f1 := (143, [(7, .inl x17), (6, .inl (rw_get H (m + 19) 4 (gi_sz H (m + 19)) (rw_get H (m + 1) 2 (gi_sz H (m + 1)) v 1) 2)), (5, .inl (rw_get H (m + 1) 2 (gi_sz H (m + 1)) v 1)), (4, .inl (rw_get H (m + 1) 2 (gi_sz H (m + 1)) v 0)), (0, .inr (.inr (some 91))), (1, .inl v), (2, .inl w), (3, .inl al)], [.inl (4 : Int32), .inl x17, .inr (.inr (some (m + 27)))], H)) (C := []) rfl trivial ?_
            refine mw_cIe (fun _ => rfl) (show mu_is H (some (m + 27)) 10 from (hg.w (md_w13 hm)).1) (gi_get_ok (d := (d + 1)) hg (md_w13 hm) x17 (j := 4) (by decide)) ?_
            exact mw_of (fun _ => mu_ret rfl trivial ⟨_, _, rfl, rfl⟩)
end JudgeReads
