/-! Space.keepWorths -/
section Worths
variable {H H1 H2 : mu_H} {m d : Nat} {C : Nat → Nat} {U : Ud}
theorem upF_zero {P J b : Nat} {g : Nat → Int32} : upF U P J b g 0 = U := by
  have e : f2 U.2.2.1 P J ((U.2.2.1 P J).1, fun i => if b ≤ i ∧ i < b + 0 then g (i - b) else (U.2.2.1 P J).2 i) = U.2.2.1 := by
    funext p i
    unfold f2
    by_cases hx : p = P ∧ i = J
    · rw [if_pos hx, hx.1, hx.2]
      refine Prod.ext rfl (funext fun q => ?_)
      show (if b ≤ q ∧ q < b + 0 then g (q - b) else (U.2.2.1 P J).2 q) = _
      rw [if_neg (fun z => by omega)]
    · rw [if_neg hx]
  unfold upF
  rw [e]
theorem upF_succ {P J b k : Nat} {g : Nat → Int32} {x : Int32} : upA (upF U P J b g k) P J (b + k) x = upF U P J b (fun i => if i = k then x else g i) (k + 1) := by
  have e : f2 (f2 U.2.2.1 P J ((U.2.2.1 P J).1, fun i => if b ≤ i ∧ i < b + k then g (i - b) else (U.2.2.1 P J).2 i)) P J ((U.2.2.1 P J).1, fun i => if i = b + k then x else (if b ≤ i ∧ i < b + k then g (i - b) else (U.2.2.1 P J).2 i)) = f2 U.2.2.1 P J ((U.2.2.1 P J).1, fun i => if b ≤ i ∧ i < b + (k + 1) then (if i - b = k then x else g (i - b)) else (U.2.2.1 P J).2 i) := by
    funext p i
    unfold f2
    by_cases hx : p = P ∧ i = J
    · rw [if_pos hx, if_pos hx]
      refine Prod.ext rfl (funext fun q => ?_)
      show (if q = b + k then x else (if b ≤ q ∧ q < b + k then g (q - b) else (U.2.2.1 P J).2 q)) = (if b ≤ q ∧ q < b + (k + 1) then (if q - b = k then x else g (q - b)) else (U.2.2.1 P J).2 q)
      by_cases h1 : q = b + k
      · rw [if_pos h1, if_pos ⟨by omega, by omega⟩, if_pos (by omega)]
      · rw [if_neg h1]
        by_cases h2 : b ≤ q ∧ q < b + k
        · rw [if_pos h2, if_pos ⟨by omega, by omega⟩, if_neg (by omega)]
        · rw [if_neg h2, if_neg (fun z => by omega)]
    · rw [if_neg hx, if_neg hx, if_neg hx]
  have e0 : (upF U P J b g k).2.2.1 P J = ((U.2.2.1 P J).1, fun i => if b ≤ i ∧ i < b + k then g (i - b) else (U.2.2.1 P J).2 i) := if_pos ⟨rfl, rfl⟩
  unfold upA
  rw [e0]
  exact congrArg (fun z => (U.1, U.2.1, z, U.2.2.2)) e
/-- PathProver$Space.keepWorths(II)V -/
abbrev mu_m269 : ev_M := (4, none, [], ev_b269)
theorem mu_g269 : mu_good mu_m269 := mu_goodk ev_k269
theorem sp_keep {k n a : Nat} (h : um m H) (e : ud m H = U) (hm0 : U.2.2.2.1 99 0 = some m) (hk : k < 14) (hn : (U.2.2.1 99 5).2 k = nI n) (ha : (U.2.2.1 99 7).2 k = nI a) (han : a + n ≤ (U.2.2.1 99 8).1) (h8 : (U.2.2.1 99 8).1 ≤ 16777216) (v : Int32) : mu_TV (mu_D (d + 3)) 269 [.inr (.inr (some 99)), .inl v, .inl (nI k)] H (fun H1 => um m H1 ∧ ur m C H H1 ∧ ∃ g, ud m H1 = upF U 99 8 a g n) := by
  refine mu_meth (M := mu_m269) rfl rfl ?_
  refine mw_ht (mu_fn_of (show [0, 1, 2].Nodup by decide)) ?_
  refine mw_go mu_g269 (k := 1) (f1 := (1, [(0, .inr (.inr (some 99))), (1, .inl v), (2, .inl (nI k))], [.inl (nI k)], H)) (C := []) rfl trivial ?_
  refine mw_if (P := nI k < 0) (a := 44) (b := 4) (fun _ => rfl) trivial (fun hx => absurd hx (nI_pos (by omega))) (fun _ => ?_)
  refine mw_go mu_g269 (k := 2) (f1 := (6, [(3, .inl (nI 0)), (0, .inr (.inr (some 99))), (1, .inl v), (2, .inl (nI k))], [], H)) (C := []) rfl trivial ?_
  refine mw_down (α := Nat × mu_H) (fun zs => (6, [(3, .inl (nI zs.1)), (0, .inr (.inr (some 99))), (1, .inl v), (2, .inl (nI k))], [], zs.2)) (fun zs => n - zs.1) (fun zs => zs.1 ≤ n ∧ um m zs.2 ∧ ur m C H zs.2 ∧ ∃ g, ud m zs.2 = upF U 99 8 a g zs.1) (fun zs hz ih => ?_) (0, H) ⟨Nat.zero_le _, h, ur.refl m C H, fun _ => 0, by rw [e]; exact upF_zero.symm⟩
  obtain ⟨i, Q⟩ := zs
  obtain ⟨hi, hq, ht, g, eq⟩ := hz
  have hi : i ≤ n := hi
  have hq : um m Q := hq
  have ht : ur m C H Q := ht
  have eq : ud m Q = upF U 99 8 a g i := eq
  show mu_W _ _ (6, [(3, .inl (nI i)), (0, .inr (.inr (some 99))), (1, .inl v), (2, .inl (nI k))], [], Q) _
  have e5 : mu_r Q 99 5 = some 120 := hq.1.1.r rfl
  have e7 : mu_r Q 99 7 = some 122 := hq.1.1.r rfl
  have e0 : mu_r Q 99 0 = some m := by rw [ud_r eq rfl rfl]; exact hm0
  have a5 := hq.1.1.a (p := 120) (x := (100, 14)) rfl
  have a7 := hq.1.1.a (p := 122) (x := (100, 14)) rfl
  have v5 : mu_i Q 120 k = nI n := by
    have z := ud_a (P := 99) (J := 5) (i := k) eq rfl rfl
    rw [e5] at z
    exact z.trans hn
  have v7 : mu_i Q 122 k = nI a := by
    have z := ud_a (P := 99) (J := 7) (i := k) eq rfl rfl
    rw [e7] at z
    exact z.trans ha
  have l8 : mu_n Q (mu_p (mu_r Q 99 8)) = (U.2.2.1 99 8).1 := (ud_n (P := 99) (J := 8) (U := upF U 99 8 a g i) eq rfl rfl).trans rfl
  have o8 : mu_is Q (mu_r Q 99 8) 100 := hq.1.1.o rfl
  refine mw_go mu_g269 (k := 3) (f1 := (11, [(3, .inl (nI i)), (0, .inr (.inr (some 99))), (1, .inl v), (2, .inl (nI k))], [.inr (.inr (mu_r Q 99 5)), .inl (nI i)], Q)) (C := [mu_is Q (some 99) 13]) rfl (hq.1.1.is rfl) ?_
  rw [e5]
  refine mw_go mu_g269 (k := 2) (f1 := (13, [(3, .inl (nI i)), (0, .inr (.inr (some 99))), (1, .inl v), (2, .inl (nI k))], [.inl (mu_i Q 120 (nI k).toNatClampNeg), .inl (nI i)], Q)) (C := [mu_isr Q (some 120) 100, vp_in (nI k) (mu_n Q 120)]) rfl (show mu_isr Q (some 120) 100 ∧ vp_in (nI k) (mu_n Q 120) from ⟨a5.1.r, by rw [a5.2]; exact vp_in_nI hk (by decide)⟩) ?_
  rw [nI_clamp (by omega), v5]
  refine mw_if (P := nI i < nI n) (a := 16) (b := 44) (fun _ => rfl) trivial (fun hx => ?_) (fun hx => ?_)
  · have hin : i < n := (nI_ltI (by omega) (by omega)).mp hx
    refine mw_go mu_g269 (k := 4) (f1 := (24, [(3, .inl (nI i)), (0, .inr (.inr (some 99))), (1, .inl v), (2, .inl (nI k))], [.inr (.inr (mu_r Q 99 7)), .inr (.inr (mu_r Q 99 8))], Q)) (C := [mu_is Q (some 99) 13, mu_is Q (some 99) 13]) rfl (show mu_is Q (some 99) 13 ∧ mu_is Q (some 99) 13 from ⟨hq.1.1.is rfl, hq.1.1.is rfl⟩) ?_
    rw [e7]
    refine mw_go mu_g269 (k := 2) (f1 := (26, [(3, .inl (nI i)), (0, .inr (.inr (some 99))), (1, .inl v), (2, .inl (nI k))], [.inl (mu_i Q 122 (nI k).toNatClampNeg), .inr (.inr (mu_r Q 99 8))], Q)) (C := [mu_isr Q (some 122) 100, vp_in (nI k) (mu_n Q 122)]) rfl (show mu_isr Q (some 122) 100 ∧ vp_in (nI k) (mu_n Q 122) from ⟨a7.1.r, by rw [a7.2]; exact vp_in_nI hk (by decide)⟩) ?_
    rw [nI_clamp (by omega), v7]
    refine mw_go mu_g269 (k := 4) (f1 := (32, [(3, .inl (nI i)), (0, .inr (.inr (some 99))), (1, .inl v), (2, .inl (nI k))], [.inr (.inr (mu_r Q 99 0)), .inl (nI a + nI i), .inr (.inr (mu_r Q 99 8))], Q)) (C := [mu_is Q (some 99) 13]) rfl (hq.1.1.is rfl) ?_
    rw [e0, show nI a + nI i = nI (a + i) from nI_add a i]
    refine mw_go mu_g269 (k := 2) (f1 := (34, [(3, .inl (nI i)), (0, .inr (.inr (some 99))), (1, .inl v), (2, .inl (nI k))], [.inl (nI i), .inl v, .inr (.inr (some m)), .inl (nI (a + i)), .inr (.inr (mu_r Q 99 8))], Q)) (C := []) rfl trivial ?_
    refine mw_cI (fun _ => rfl) (show mu_is Q (some m) 6 from gi_im hq.1.1 hq.2) (md_worth (d := d) hq.1.1 hq.2 v (nI i)) (fun x H1 q => ?_)
    subst q
    refine mw_go mu_g269 (k := 3) (f1 := (6, [(3, .inl (nI i + 1)), (0, .inr (.inr (some 99))), (1, .inl v), (2, .inl (nI k))], [], mu_si Q (mu_p (mu_r Q 99 8)) (nI (a + i)).toNatClampNeg x)) (C := [mu_is Q (mu_r Q 99 8) 100, vp_in (nI (a + i)) (mu_n Q (mu_p (mu_r Q 99 8)))]) rfl (show mu_is Q (mu_r Q 99 8) 100 ∧ vp_in (nI (a + i)) (mu_n Q (mu_p (mu_r Q 99 8))) from ⟨o8, by rw [l8]; exact vp_in_nI (by omega) (by omega)⟩) ?_
    rw [nI_clamp (by omega), nI_1 i]
    obtain ⟨s1, s2, s3⟩ := hq.putA (C := C) (P := 99) (J := 8) (k := a + i) (v := x) rfl rfl
    exact mw_sub (by simp) (ih (i + 1, mu_si Q (mu_p (mu_r Q 99 8)) (a + i) x) ⟨hin, s1, ht.trans s2, _, by rw [s3, eq]; exact upF_succ⟩ (by show n - (i + 1) < n - i; omega))
  · have hin : i = n := Nat.le_antisymm hi (Nat.le_of_not_lt (fun z => hx ((nI_ltI (by omega) (by omega)).mpr z)))
    subst hin
    exact mw_of (fun _ => mu_ret rfl trivial ⟨Q, rfl, hq, ht, g, eq⟩)
end Worths
