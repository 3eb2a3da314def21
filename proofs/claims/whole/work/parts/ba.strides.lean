/-! Space.begin: the strides -/
def B3 (U U' : Ud) (P j : Nat) (f : Nat → Nat) : Prop := U'.1 = U.1 ∧ U'.2.1 99 11 = nI (pd f j (P - j)) ∧ (∀ k, j ≤ k → k < P → (U'.2.2.1 99 6).2 k = nI (pd f (k + 1) (P - 1 - k))) ∧ U'.2.2.2 = U.2.2.2 ∧ (∀ p i, ¬ (p = 99 ∧ i = 6) → U'.2.2.1 p i = U.2.2.1 p i) ∧ (∀ p i, ¬ (p = 99 ∧ i = 11) → U'.2.1 p i = U.2.1 p i) ∧ (U'.2.2.1 99 6).1 = (U.2.2.1 99 6).1
section Loop3
variable {H H1 H2 : mu_H} {m d P j i : Nat} {C : Nat → Nat} {U U' U2 : Ud} {f : Nat → Nat}
theorem B3.step (h : B3 U U' P (i + 1) f) (hi : i < P) (E : U2 = upI (upA U' 99 6 i (nI (pd f (i + 1) (P - (i + 1))))) 99 11 (nI (pd f i (P - i)))) : B3 U U2 P i f := by
  obtain ⟨h1, h2, h3, h4, h5, h6, h7⟩ := h
  refine ⟨by rw [E]; exact h1, by rw [E]; rfl, fun k hk hk2 => ?_, by rw [E]; exact h4, fun p q hp => ?_, fun p q hp => ?_, by rw [E]; exact h7⟩
  · have e : (U2.2.2.1 99 6).2 k = if k = i then nI (pd f (i + 1) (P - (i + 1))) else (U'.2.2.1 99 6).2 k := by rw [E]; rfl
    rw [e]
    by_cases hx : k = i
    · subst hx
      rw [if_pos rfl, show P - (k + 1) = P - 1 - k by omega]
    · rw [if_neg hx]
      exact h3 k (by omega) hk2
  · have e : U2.2.2.1 p q = U'.2.2.1 p q := by
      rw [E]
      show f2 U'.2.2.1 99 6 _ p q = _
      unfold f2
      rw [if_neg hp]
    rw [e]; exact h5 p q hp
  · have e : U2.2.1 p q = U'.2.1 p q := by
      rw [E]
      show f2 U'.2.1 99 11 _ p q = _
      unfold f2
      rw [if_neg hp]
    rw [e]; exact h6 p q hp
theorem sp_loop3 {Φ : mu_R → Prop} (h : um m H) (e : ud m H = U) (hP : P ≤ 14) (hf : ∀ k, k < P → (U.2.2.1 99 5).2 k = nI (f k)) (h11 : U.2.1 99 11 = nI 1)
    (hΦ : ∀ Q, um m Q → ur m C H Q → B3 U (ud m Q) P 0 f → mu_W (mu_D (d + 3)) mu_m268 (292, [(2, .inl (nI 0 - 1)), (0, .inr (.inr (some 99))), (1, .inr (.inr (some m)))], [], Q) Φ) :
    mu_W (mu_D (d + 3)) mu_m268 (257, [(2, .inl (nI P - 1)), (0, .inr (.inr (some 99))), (1, .inr (.inr (some m)))], [], H) Φ := by
  refine mw_down (α := Nat × mu_H) (fun zs => (257, [(2, .inl (nI zs.1 - 1)), (0, .inr (.inr (some 99))), (1, .inr (.inr (some m)))], [], zs.2)) (fun zs => zs.1) (fun zs => zs.1 ≤ P ∧ um m zs.2 ∧ ur m C H zs.2 ∧ B3 U (ud m zs.2) P zs.1 f) (fun zs hz ih => ?_) (P, H) ⟨Nat.le_refl _, h, ur.refl m C H, by rw [e]; exact ⟨rfl, by rw [Nat.sub_self]; exact h11, fun k a b => by omega, rfl, fun _ _ _ => rfl, fun _ _ _ => rfl, rfl⟩⟩
  obtain ⟨j, Q⟩ := zs
  obtain ⟨hj, u0, r0, hB⟩ := hz
  have hj : j ≤ P := hj
  have u0 : um m Q := u0
  have r0 : ur m C H Q := r0
  have hB : B3 U (ud m Q) P j f := hB
  show mu_W _ _ (257, [(2, .inl (nI j - 1)), (0, .inr (.inr (some 99))), (1, .inr (.inr (some m)))], [], Q) _
  obtain ⟨V, hV⟩ : ∃ V, ud m Q = V := ⟨_, rfl⟩
  rw [hV] at hB
  rcases Nat.eq_zero_or_pos j with j0 | jp
  · subst j0
    refine mw_go mu_g268 (k := 1) (f1 := (258, [(2, .inl (nI 0 - 1)), (0, .inr (.inr (some 99))), (1, .inr (.inr (some m)))], [.inl (nI 0 - 1)], Q)) (C := []) rfl trivial ?_
    exact mw_if (P := (nI 0 - 1) < 0) (a := 292) (b := 261) (fun _ => rfl) trivial (fun _ => hΦ Q u0 r0 (by rw [hV]; exact hB)) (fun z => absurd (by decide) z)
  obtain ⟨i, rfl⟩ : ∃ i, j = i + 1 := ⟨j - 1, by omega⟩
  have hi : i < P := hj
  rw [show nI (i + 1) - 1 = nI i from by rw [← nI_1 i]; exact Int32.add_sub_cancel (nI i) 1]
  have h11V : V.2.1 99 11 = nI (pd f (i + 1) (P - (i + 1))) := hB.2.1
  have h5V : (V.2.2.1 99 5).2 i = nI (f i) := by rw [hB.2.2.2.2.1 99 5 (by decide)]; exact hf i hi
  refine mw_go mu_g268 (k := 1) (f1 := (258, [(2, .inl (nI i)), (0, .inr (.inr (some 99))), (1, .inr (.inr (some m)))], [.inl (nI i)], Q)) (C := []) rfl trivial ?_
  refine mw_if (P := nI i < 0) (a := 292) (b := 261) (fun _ => rfl) trivial (fun z => absurd z (nI_pos (by omega))) (fun _ => ?_)
  have hl6Q : mu_n Q (mu_p (mu_r Q 99 6)) = 14 := by rw [u0.1.1.r (p := 99) (j := 6) (q := 121) rfl]; exact (u0.1.1.a (p := 121) (x := (100, 14)) rfl).2
  refine mw_go mu_g268 (k := 5) (f1 := (270, [(2, .inl (nI i)), (0, .inr (.inr (some 99))), (1, .inr (.inr (some m)))], [.inl (mu_i Q 99 11), .inl (nI i), .inr (.inr (mu_r Q 99 6))], Q)) (C := [mu_is Q (some 99) 13, mu_is Q (some 99) 13]) rfl (show (mu_is Q (some 99) 13) ∧ (mu_is Q (some 99) 13) from ⟨(u0.1.1.is rfl), (u0.1.1.is rfl)⟩) ?_
  rw [show mu_i Q 99 11 = nI (pd f (i + 1) (P - (i + 1))) from (ud_i (m := m) (P := 99) (j := 11) hV rfl).trans h11V]
  refine mw_go mu_g268 (k := 1) (f1 := (271, [(2, .inl (nI i)), (0, .inr (.inr (some 99))), (1, .inr (.inr (some m)))], [], mu_si Q (mu_p (mu_r Q 99 6)) (nI i).toNatClampNeg (nI (pd f (i + 1) (P - (i + 1)))))) (C := [mu_is Q (mu_r Q 99 6) 100, vp_in (nI i) (mu_n Q (mu_p (mu_r Q 99 6)))]) rfl (show (mu_is Q (mu_r Q 99 6) 100) ∧ (vp_in (nI i) (mu_n Q (mu_p (mu_r Q 99 6)))) from ⟨u0.1.1.o rfl, by rw [hl6Q]; exact vp_in_nI (by omega) (by decide)⟩) ?_
  rw [nI_clamp (by omega)]
  obtain ⟨u1, r1, d1⟩ := u0.putA (C := C) (P := 99) (J := 6) (k := i) (v := (nI (pd f (i + 1) (P - (i + 1))))) rfl rfl
  rw [hV] at d1
  generalize mu_si Q (mu_p (mu_r Q 99 6)) i (nI (pd f (i + 1) (P - (i + 1)))) = Q1 at u1 r1 d1 ⊢
  have D1 : ud m Q1 = (upA V 99 6 i (nI (pd f (i + 1) (P - (i + 1))))) := d1
  have hl5Q1 : mu_n Q1 (mu_p (mu_r Q1 99 5)) = 14 := by rw [u1.1.1.r (p := 99) (j := 5) (q := 120) rfl]; exact (u1.1.1.a (p := 120) (x := (100, 14)) rfl).2
  refine mw_go mu_g268 (k := 3) (f1 := (276, [(2, .inl (nI i)), (0, .inr (.inr (some 99))), (1, .inr (.inr (some m)))], [.inl (mu_i Q1 99 11), .inr (.inr (some 99))], Q1)) (C := [mu_is Q1 (some 99) 13]) rfl (show mu_is Q1 (some 99) 13 from (u1.1.1.is rfl)) ?_
  rw [show mu_i Q1 99 11 = nI (pd f (i + 1) (P - (i + 1))) from (ud_i (m := m) (P := 99) (j := 11) D1 rfl).trans h11V]
  refine mw_go mu_g268 (k := 3) (f1 := (281, [(2, .inl (nI i)), (0, .inr (.inr (some 99))), (1, .inr (.inr (some m)))], [.inl (nI i), .inr (.inr (mu_r Q1 99 5)), .inl (nI (pd f (i + 1) (P - (i + 1)))), .inr (.inr (some 99))], Q1)) (C := [mu_is Q1 (some 99) 13]) rfl (show mu_is Q1 (some 99) 13 from (u1.1.1.is rfl)) ?_
  refine mw_go mu_g268 (k := 1) (f1 := (282, [(2, .inl (nI i)), (0, .inr (.inr (some 99))), (1, .inr (.inr (some m)))], [.inl (mu_i Q1 (mu_p (mu_r Q1 99 5)) (nI i).toNatClampNeg), .inl (nI (pd f (i + 1) (P - (i + 1)))), .inr (.inr (some 99))], Q1)) (C := [mu_isr Q1 (mu_r Q1 99 5) 100, vp_in (nI i) (mu_n Q1 (mu_p (mu_r Q1 99 5)))]) rfl (show (mu_isr Q1 (mu_r Q1 99 5) 100) ∧ (vp_in (nI i) (mu_n Q1 (mu_p (mu_r Q1 99 5)))) from ⟨(u1.1.1.o (p := 99) (j := 5) rfl).r, by rw [hl5Q1]; exact vp_in_nI (by omega) (by decide)⟩) ?_
  rw [nI_clamp (by omega), show mu_i Q1 (mu_p (mu_r Q1 99 5)) i = nI (f i) from (ud_a (m := m) (P := 99) (J := 5) (i := i) D1 rfl rfl).trans h5V]
  refine mw_go mu_g268 (k := 2) (f1 := (286, [(2, .inl (nI i)), (0, .inr (.inr (some 99))), (1, .inr (.inr (some m)))], [], mu_si Q1 99 11 ((nI (pd f (i + 1) (P - (i + 1)))) * nI (f i)))) (C := [mu_is Q1 (some 99) 13]) rfl (show mu_is Q1 (some 99) 13 from (u1.1.1.is rfl)) ?_
  rw [show (nI (pd f (i + 1) (P - (i + 1)))) * nI (f i) = nI (pd f i (P - i)) from (pk_mul _ _).trans (congrArg nI (by rw [show P - i = (P - (i + 1)) + 1 by omega, pd_head]; exact Nat.mul_comm _ _))]
  obtain ⟨u2, r2, d2⟩ := u1.putI (C := C) (P := 99) (k := 11) (v := nI (pd f i (P - i))) rfl
  rw [D1] at d2
  generalize mu_si Q1 99 11 (nI (pd f i (P - i))) = Q2 at u2 r2 d2 ⊢
  have D2 : ud m Q2 = (upI (upA V 99 6 i (nI (pd f (i + 1) (P - (i + 1))))) 99 11 (nI (pd f i (P - i)))) := d2
  refine mw_go mu_g268 (k := 2) (f1 := (257, [(2, .inl (nI i + (-1))), (0, .inr (.inr (some 99))), (1, .inr (.inr (some m)))], [], Q2)) (C := []) rfl trivial ?_
  rw [show nI i + (-1) = nI i - 1 from (Int32.sub_eq_add_neg (a := nI i) (b := 1)).symm]
  exact ih (i, Q2) ⟨by show i ≤ P; omega, u2, (r0.trans r1).trans r2, hB.step hi D2⟩ (Nat.lt_succ_self i)
end Loop3
