/-! Rows: a row read, a row written, emptied, cut -/
/-- a Rows of width W with n rows, room for c ints -/
def rw_ok (H : mu_H) (r W n c : Nat) : Prop := mu_is H (some r) 10 ∧ mu_is H (mu_r H r 1) 100 ∧ mu_i H r 0 = nI W ∧ mu_i H r 2 = nI n ∧ mu_n H (mu_p (mu_r H r 1)) = c ∧ n * W ≤ c ∧ 0 < W ∧ W ≤ 11 ∧ c ≤ 67108864
theorem rw_n {H : mu_H} {r W n c : Nat} (h : rw_ok H r W n c) : n ≤ 67108864 := by
  obtain ⟨-, -, -, -, -, h1, h2, -, h3⟩ := h
  have : n * 1 ≤ n * W := Nat.mul_le_mul_left n h2
  omega
/-- what a row has in a column -/
def rw_get (H : mu_H) (r W n : Nat) (row : Int32) (j : Nat) : Int32 := if row < 0 then 0 else if row.toNatClampNeg < n ∧ j < W then mu_i H (mu_p (mu_r H r 1)) (row.toNatClampNeg * W + j) else 0
/-- a row's place among the ints -/
theorem rw_ix {W n c j : Nat} {row : Int32} (h0 : ¬ row < 0) (h1 : row < nI n) (hj : j < W) (hn : n ≤ 67108864) (hW : W ≤ 11) (hc : n * W ≤ c) (hc2 : c ≤ 67108864) : row.toNatClampNeg < n ∧ row * nI W + nI j = nI (row.toNatClampNeg * W + j) ∧ row.toNatClampNeg * W + j < c := by
  obtain ⟨i, hi, rfl⟩ := nI_of h0
  have hin : i < n := (nI_ltI hi (by omega)).mp h1
  rw [nI_clamp hi]
  refine ⟨hin, by rw [pk_mul, nI_add], ?_⟩
  have : (i + 1) * W ≤ n * W := Nat.mul_le_mul_right W hin
  rw [Nat.add_mul] at this
  omega
theorem rw_ltc {row : Int32} {n : Nat} (h0 : ¬ row < 0) (h1 : ¬ row < nI n) (hn : n ≤ 67108864) : ¬ row.toNatClampNeg < n := by
  obtain ⟨i, hi, rfl⟩ := nI_of h0
  rw [nI_clamp hi]
  intro h
  exact h1 ((nI_ltI hi (by omega)).mpr h)
/-- PathProver$Rows.get(II)I -/
abbrev mu_m46 : ev_M := (3, (some .int), [], ev_b46)
theorem mu_g46 : mu_good mu_m46 := mu_goodk ev_k46
theorem rw_get_ok {d r W n c : Nat} {H : mu_H} (hR : rw_ok H r W n c) (row : Int32) {j : Nat} (hj : j < 2 ^ 31) : mu_TI (mu_D (d + 1)) 46 [.inr (.inr (some r)), .inl row, .inl (nI j)] H (fun x H1 => x = rw_get H r W n row j ∧ H1 = H) := by
  have hn := rw_n hR
  have hR' := hR
  obtain ⟨-, -, e0, e2, en, hc, hW0, hW, hc2⟩ := hR'
  have z1 : row < 0 → rw_get H r W n row j = 0 := fun h => if_pos h
  have z2 : ¬ row < 0 → ¬ (row.toNatClampNeg < n ∧ j < W) → rw_get H r W n row j = 0 := fun h h2 => by unfold rw_get; rw [if_neg h, if_neg h2]
  have z3 : ¬ row < 0 → row < nI n → nI j < nI W → vp_in (row * nI W + nI j) c ∧ rw_get H r W n row j = mu_i H (mu_p (mu_r H r 1)) (row * nI W + nI j).toNatClampNeg := fun h h2 h3 => by
    have hjW : j < W := (nI_ltI hj (by omega)).mp h3
    obtain ⟨k1, k2, k3⟩ := rw_ix (j := j) h h2 hjW hn hW hc hc2
    rw [k2, nI_clamp (by omega)]
    refine ⟨vp_in_nI k3 (by omega), ?_⟩
    unfold rw_get
    rw [if_neg h, if_pos ⟨k1, hjW⟩]
  refine mu_meth (M := mu_m46) rfl rfl ?_
  refine mu_go mu_g46 (k := 1) (f1 := (1, [(0, .inr (.inr (some r))), (1, .inl row), (2, .inl (nI j))], [.inl row], H)) (C := []) rfl trivial ?_
  refine mu_if (P := row < 0) (a := 20) (b := 4) rfl trivial (fun h1 => ?_) (fun h1 => ?_)
  · refine mu_go mu_g46 (k := 2) (f1 := (37, [(0, .inr (.inr (some r))), (1, .inl row), (2, .inl (nI j))], [.inl (0 : Int32)], H)) (C := []) rfl trivial ?_
    exact mu_ret rfl trivial ⟨_, _, rfl, (z1 h1).symm, rfl⟩
  · refine mu_go mu_g46 (k := 3) (f1 := (9, [(0, .inr (.inr (some r))), (1, .inl row), (2, .inl (nI j))], [.inl (mu_i H r 2), .inl row], H)) (C := [mu_is H (some r) 10]) rfl hR.1 ?_
    rw [e2]
    refine mu_if (P := row < nI n) (a := 12) (b := 20) rfl trivial (fun h2 => ?_) (fun h2 => ?_)
    · refine mu_go mu_g46 (k := 3) (f1 := (17, [(0, .inr (.inr (some r))), (1, .inl row), (2, .inl (nI j))], [.inl (mu_i H r 0), .inl (nI j)], H)) (C := [mu_is H (some r) 10]) rfl hR.1 ?_
      rw [e0]
      refine mu_if (P := nI j < nI W) (a := 24) (b := 20) rfl trivial (fun h3 => ?_) (fun h3 => ?_)
      · obtain ⟨y1, y2⟩ := z3 h1 h2 h3
        refine mu_go mu_g46 (k := 9) (f1 := (37, [(0, .inr (.inr (some r))), (1, .inl row), (2, .inl (nI j))], [.inl (mu_i H (mu_p (mu_r H r 1)) ((row * (mu_i H r 0)) + nI j).toNatClampNeg)], H)) (C := [mu_is H (some r) 10, mu_is H (some r) 10, mu_isr H (mu_r H r 1) 100, vp_in ((row * (mu_i H r 0)) + nI j) (mu_n H (mu_p (mu_r H r 1)))]) rfl (show mu_is H (some r) 10 ∧ mu_is H (some r) 10 ∧ mu_isr H (mu_r H r 1) 100 ∧ vp_in ((row * (mu_i H r 0)) + nI j) (mu_n H (mu_p (mu_r H r 1))) from ⟨hR.1, hR.1, hR.2.1.r, by rw [e0, en]; exact y1⟩) ?_
        rw [e0]
        exact mu_ret rfl trivial ⟨_, _, rfl, y2.symm, rfl⟩
      · refine mu_go mu_g46 (k := 2) (f1 := (37, [(0, .inr (.inr (some r))), (1, .inl row), (2, .inl (nI j))], [.inl (0 : Int32)], H)) (C := []) rfl trivial ?_
        exact mu_ret rfl trivial ⟨_, _, rfl, (z2 h1 (fun q => h3 (nI_lt q.2 (by omega)))).symm, rfl⟩
    · refine mu_go mu_g46 (k := 2) (f1 := (37, [(0, .inr (.inr (some r))), (1, .inl row), (2, .inl (nI j))], [.inl (0 : Int32)], H)) (C := []) rfl trivial ?_
      exact mu_ret rfl trivial ⟨_, _, rfl, (z2 h1 (fun q => rw_ltc h1 h2 hn q.1)).symm, rfl⟩
