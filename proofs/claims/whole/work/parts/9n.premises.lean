/-! WHAT PARSE LEAVES: the premises of Sound and Judge -/
section Premises
variable {H : mu_H} {m : Nat} {s : Ts}
theorem ab_n {j : Nat} (hj : j < 11) : (ab m H j).1 = gi_sz H (m + 1 + 2 * j) := by
  show (if j < 13 then tb H (rr m j) (wd j) else (0, fun _ _ => 0)).1 = _
  rw [if_pos (by omega)]
  unfold rr
  rw [if_neg (by omega), if_neg (by omega)]
  rfl
theorem ab_c {j i c : Nat} (hj : j < 11) (hi : i < gi_sz H (m + 1 + 2 * j)) (hc : c < ps_W j) : (ab m H j).2 i c = cel H (m + 1 + 2 * j) (i * ps_W j + c) := by
  show (if j < 13 then tb H (rr m j) (wd j) else (0, fun _ _ => 0)).2 i c = _
  rw [if_pos (by omega)]
  unfold rr wd
  rw [if_neg (by omega), if_neg (by omega), if_neg (by omega), if_neg (by omega)]
  exact if_pos ⟨hi, hc⟩
theorem tabc_lt {c : Nat} (h : c ≤ 6) : tabc c < 11 := (show ∀ c, c ≤ 6 → tabc c < 11 by decide) c h
theorem sp_msp {k c : Nat} (h6 : c ≤ 6) : sp (ab m H) k c = msp H m k c := by
  have n1 : (ab m H 1).1 = gi_sz H (m + 3) := ab_n (j := 1) (by decide)
  unfold sp msp
  rw [n1, ab_n (tabc_lt h6)]
  by_cases hk : k < gi_sz H (m + 3)
  · rw [if_pos hk, if_pos hk]
    exact congrArg _ (ab_c (j := 1) (by decide) hk (show c < 11 by omega))
  · rw [if_neg hk, if_neg hk]
theorem mo_of (h : Cm (ab m H)) : mo m H := by
  intro i hi c h1 h6
  have n1 : (ab m H 1).1 = gi_sz H (m + 3) := ab_n (j := 1) (by decide)
  have e : (ab m H 1).2 i c = cel H (m + 3) (i * 11 + c) := ab_c (j := 1) (by decide) hi (show c < 11 by omega)
  have := h i (by rw [n1]; exact hi) c h1 h6
  rw [sp_msp h6, sp_msp h6, ab_n (tabc_lt h6), e] at this
  exact this
theorem cover {c i : Nat} (h0 : sp s 0 c = 0) : ∀ n, i < sp s n c → ∃ k, k < n ∧ sp s k c ≤ i ∧ i < sp s (k + 1) c
  | 0, h => by rw [h0] at h; omega
  | n + 1, h => by
    by_cases h2 : i < sp s n c
    · obtain ⟨k, a, b⟩ := cover h0 n h2
      exact ⟨k, by omega, b⟩
    · exact ⟨n, by omega, by omega, h⟩
/-- each row stands in a MODULE -/
theorem CT.row (h : CT s) (he : CE s) {c i : Nat} (h1 : 1 ≤ c) (h6 : c ≤ 6) (hi : i < (s (tabc c)).1) : ∃ k, k < (s 1).1 ∧ sp s k c ≤ i ∧ i < sp s (k + 1) c := by
  rcases he with hm | hz
  · have h0 : sp s 0 c = 0 := by
      unfold sp
      rw [if_pos (by omega), h.2.2.1.2.2.2.1 hm c h1 h6]
      rfl
    exact cover h0 (s 1).1 (by unfold sp; rw [if_neg (Nat.lt_irrefl _)]; exact hi)
  · have := hz (tabc c) (tabc_lt h6)
    omega
theorem lsum_ls2 : ∀ k, k ≤ gi_sz H (m + 7) → lsum H m k = ls2 (ab m H 3) k
  | 0, _ => rfl
  | k + 1, hk => by
    have e1 : (ab m H 3).2 k 1 = cel H (m + 7) (k * 6 + 1) := ab_c (j := 3) (by decide) (show k < gi_sz H (m + 7) by omega) (by decide)
    have e3 : (ab m H 3).2 k 3 = cel H (m + 7) (k * 6 + 3) := ab_c (j := 3) (by decide) (show k < gi_sz H (m + 7) by omega) (by decide)
    show lsum H m k + (if cel H (m + 7) (k * 6 + 1) = 2 then vb H m k else 0) = ls2 (ab m H 3) k + (if (ab m H 3).2 k 1 = 2 then ((ab m H 3).2 k 3).toNatClampNeg else 0)
    rw [lsum_ls2 k (by omega), e1, e3]
    rfl
theorem vl_of (hp : ps m H) (h : CT (ab m H)) (he : CE (ab m H)) : vl m H := by
  have n3 : (ab m H 3).1 = gi_sz H (m + 7) := ab_n (j := 3) (by decide)
  have n4 : (ab m H 4).1 = gi_sz H (m + 9) := ab_n (j := 4) (by decide)
  have l4 : (ab m H 4).1 < 2147483648 := ab_lt hp rfl (by decide)
  refine ⟨fun k hk h2 => ?_, ?_⟩
  · have e1 : (ab m H 3).2 k 1 = cel H (m + 7) (k * 6 + 1) := ab_c (j := 3) (by decide) hk (by decide)
    have e2 : (ab m H 3).2 k 2 = cel H (m + 7) (k * 6 + 2) := ab_c (j := 3) (by decide) hk (by decide)
    have e3 : (ab m H 3).2 k 3 = cel H (m + 7) (k * 6 + 3) := ab_c (j := 3) (by decide) hk (by decide)
    obtain ⟨K, hK, h3, h4⟩ := h.row he (c := 2) (i := k) (by decide) (by decide) (show k < (ab m H 3).1 by rw [n3]; exact hk)
    obtain ⟨y, y1, y2, y3, -⟩ := h.2.2.2.1 K hK k h3 h4
    have hy : y = 2 := by
      by_cases z : y = 2
      · exact z
      · exfalso
        rw [e1, h2] at y2
        exact nI_ne2 y1 z y2.symm
    obtain ⟨a, b, f1, f2, f3⟩ := y3 hy
    have g1 : va H m k = a := by unfold va; rw [← e2, f1]; exact nI_clamp (by omega)
    have g2 : vb H m k = b := by unfold vb; rw [← e3, f2]; exact nI_clamp (by omega)
    rw [g1, g2, ← e2, ← e3]
    exact ⟨f1, f2, by omega⟩
  · rw [lsum_ls2 _ (Nat.le_refl _), ← n3, ← n4]
    exact h.2.2.2.2.2
theorem ck_of (h : CT (ab m H)) : ck m H := by
  intro i hi
  have e0 : (ab m H 0).2 i 0 = cel H (m + 1) (i * 2 + 0) := ab_c (j := 0) (by decide) hi (by decide)
  have e1 : (ab m H 0).2 i 1 = cel H (m + 1) (i * 2 + 1) := ab_c (j := 0) (by decide) hi (by decide)
  have n0 : (ab m H 0).1 = gi_sz H (m + 1) := ab_n (j := 0) (by decide)
  obtain ⟨k, k1, k2, k3, k4⟩ := h.2.1 i (by rw [n0]; exact hi)
  rw [e0] at k2
  rw [e1] at k3 k4
  have k2' : cel H (m + 1) (i * 2) = nI k := k2
  have ec : (nI k).toNatClampNeg = k := nI_clamp (by omega)
  refine ⟨⟨k, by omega, k2'⟩, fun z => k4 ?_⟩
  rw [k2'] at z
  rcases z with z | z | z | z
  · rw [z] at ec
    have : k = 30 := ec.symm
    omega
  · rw [z] at ec
    have : k = 33 := ec.symm
    omega
  · rw [z] at ec
    have : k = 31 := ec.symm
    omega
  · rw [z] at ec
    have : k = 34 := ec.symm
    omega
theorem cr_of {j c c1 c2 W : Nat} {kd : Bool} (h : CT (ab m H)) (he : CE (ab m H)) (hr : Cr (ab m H) c kd c1 c2) (h1 : 1 ≤ c) (h6 : c ≤ 6) (hj : tabc c = j) (hW : ps_W j = W) (w1 : c1 < W) (w2 : c2 < W) : cr m H (m + 1 + 2 * j) W c1 ∧ cr m H (m + 1 + 2 * j) W c2 := by
  subst hj
  subst hW
  have key : ∀ i, i < gi_sz H (m + 1 + 2 * tabc c) → ∃ a b, cel H (m + 1 + 2 * tabc c) (i * ps_W (tabc c) + c1) = nI a ∧ cel H (m + 1 + 2 * tabc c) (i * ps_W (tabc c) + c2) = nI b ∧ a ≤ gi_sz H (m + 1) ∧ b ≤ gi_sz H (m + 1) := fun i hi => by
    obtain ⟨k, hk, h3, h4⟩ := h.row he (c := c) (i := i) h1 h6 (by rw [ab_n (tabc_lt h6)]; exact hi)
    obtain ⟨a, b, f1, f2, f3⟩ := hr k hk i h3 h4
    rw [ab_c (tabc_lt h6) hi w1] at f1
    rw [ab_c (tabc_lt h6) hi w2] at f2
    have n0 : (ab m H 0).1 = gi_sz H (m + 1) := ab_n (j := 0) (by decide)
    have g1 := f3.1
    have g2 := f3.2.1
    exact ⟨a, b, f1, f2, by omega, by omega⟩
  exact ⟨fun i hi => (key i hi).elim (fun a z => z.elim (fun b z => ⟨a, z.2.2.1, z.1⟩)), fun i hi => (key i hi).elim (fun a z => z.elim (fun b z => ⟨b, z.2.2.2, z.2.1⟩))⟩
theorem cr_claims (h : CT (ab m H)) (he : CE (ab m H)) : cr m H (m + 17) 3 1 ∧ cr m H (m + 17) 3 2 := cr_of (j := 8) h he h.2.2.1.1 (by decide) (by decide) rfl rfl (by decide) (by decide)
theorem cr_defs (h : CT (ab m H)) (he : CE (ab m H)) : cr m H (m + 13) 3 1 ∧ cr m H (m + 13) 3 2 := cr_of (j := 6) h he h.2.2.1.2.1 (by decide) (by decide) rfl rfl (by decide) (by decide)
theorem cr_lines (h : CT (ab m H)) (he : CE (ab m H)) : cr m H (m + 15) 4 2 ∧ cr m H (m + 15) 4 3 := cr_of (j := 7) h he h.2.2.1.2.2.1 (by decide) (by decide) rfl rfl (by decide) (by decide)
end Premises
