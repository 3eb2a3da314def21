/-! Least and greatest; Rows emptied, cut, written -/
section MuExact
variable {run : Nat → List ev_V → List ev_C → Option ev_R} {M : ev_M}
/-- calls whose answers and heaps are given -/
theorem mu_cIe {f : mu_F} {j pc1 : Nat} {as : List mu_V} {L : mu_L} {S1 : List mu_V} {H G : mu_H} {C : List Prop} {Φ : mu_R → Prop} {v : Int32} (h : mu_clf M f = some (j, as, pc1, L, S1, H, C)) (hC : mu_all C) (hT : mu_TI run j as H (fun x H1 => x = v ∧ H1 = G)) (hk : mu_HT run M (pc1, L, .inl v :: S1, G) Φ) : mu_HT run M f Φ := mu_cI h hC hT (fun x H1 q => by rw [q.1, q.2]; exact hk)
theorem mu_cLe {f : mu_F} {j pc1 : Nat} {as : List mu_V} {L : mu_L} {S1 : List mu_V} {H G : mu_H} {C : List Prop} {Φ : mu_R → Prop} {v : Int64} (h : mu_clf M f = some (j, as, pc1, L, S1, H, C)) (hC : mu_all C) (hT : mu_TL run j as H (fun x H1 => x = v ∧ H1 = G)) (hk : mu_HT run M (pc1, L, .inr (.inl v) :: S1, G) Φ) : mu_HT run M f Φ := mu_cL h hC hT (fun x H1 q => by rw [q.1, q.2]; exact hk)
theorem mu_cAe {f : mu_F} {j pc1 : Nat} {as : List mu_V} {L : mu_L} {S1 : List mu_V} {H G : mu_H} {C : List Prop} {Φ : mu_R → Prop} {v : Option Nat} (h : mu_clf M f = some (j, as, pc1, L, S1, H, C)) (hC : mu_all C) (hT : mu_TA run j as H (fun x H1 => x = v ∧ H1 = G)) (hk : mu_HT run M (pc1, L, .inr (.inr v) :: S1, G) Φ) : mu_HT run M f Φ := mu_cA h hC hT (fun x H1 q => by rw [q.1, q.2]; exact hk)
theorem mu_cVe {f : mu_F} {j pc1 : Nat} {as : List mu_V} {L : mu_L} {S1 : List mu_V} {H G : mu_H} {C : List Prop} {Φ : mu_R → Prop} (h : mu_clf M f = some (j, as, pc1, L, S1, H, C)) (hC : mu_all C) (hT : mu_TV run j as H (fun H1 => H1 = G)) (hk : mu_HT run M (pc1, L, S1, G) Φ) : mu_HT run M f Φ := mu_cV h hC hT (fun H1 q => by rw [q]; exact hk)
/-- a loop that counts up -/
theorem mu_up {Φ : mu_R → Prop} {N : Nat} (f : Nat → mu_F) (step : ∀ k, k < N → mu_HT run M (f (k + 1)) Φ → mu_HT run M (f k) Φ) (last : mu_HT run M (f N) Φ) {k : Nat} (hk : k ≤ N) : mu_HT run M (f k) Φ := by
  obtain ⟨e, he⟩ : ∃ e, N = k + e := ⟨N - k, by omega⟩
  induction e generalizing k with
  | zero => rw [← show N = k from he]; exact last
  | succ e ih => exact step k (by omega) (ih (by omega) (by omega))
end MuExact
/-- java/lang/Math.min(II)I -/
abbrev mu_m45 : ev_M := (2, (some .int), [], ev_b45)
theorem mu_g45 : mu_good mu_m45 := mu_goodk ev_k45
/-- java/lang/Math.max(II)I -/
abbrev mu_m96 : ev_M := (2, (some .int), [], ev_b96)
theorem mu_g96 : mu_good mu_m96 := mu_goodk ev_k96
def mu_min (a b : Int32) : Int32 := if b < a then b else a
def mu_max (a b : Int32) : Int32 := if a < b then b else a
theorem mu_min_ok {d : Nat} {H : mu_H} (a b : Int32) : mu_TI (mu_D (d + 1)) 45 [.inl a, .inl b] H (fun x H1 => x = mu_min a b ∧ H1 = H) := by
  refine mu_meth (M := mu_m45) rfl rfl ?_
  refine mu_go mu_g45 (k := 2) (f1 := (2, [(0, .inl a), (1, .inl b)], [.inl b, .inl a], H)) (C := []) rfl trivial ?_
  refine mu_if (P := b < a) (a := 9) (b := 5) rfl trivial (fun h1 => ?_) (fun h1 => ?_)
  · -- 9: b < a
    refine mu_go mu_g45 (k := 1) (f1 := (10, [(0, .inl a), (1, .inl b)], [.inl b], H)) (C := []) rfl trivial ?_
    exact mu_ret rfl trivial ⟨_, _, rfl, (by unfold mu_min; first | rw [if_pos h1] | rw [if_neg h1]), rfl⟩
  · -- 5: not b < a
    refine mu_go mu_g45 (k := 2) (f1 := (10, [(0, .inl a), (1, .inl b)], [.inl a], H)) (C := []) rfl trivial ?_
    exact mu_ret rfl trivial ⟨_, _, rfl, (by unfold mu_min; first | rw [if_pos h1] | rw [if_neg h1]), rfl⟩
theorem mu_max_ok {d : Nat} {H : mu_H} (a b : Int32) : mu_TI (mu_D (d + 1)) 96 [.inl a, .inl b] H (fun x H1 => x = mu_max a b ∧ H1 = H) := by
  refine mu_meth (M := mu_m96) rfl rfl ?_
  refine mu_go mu_g96 (k := 2) (f1 := (2, [(0, .inl a), (1, .inl b)], [.inl b, .inl a], H)) (C := []) rfl trivial ?_
  refine mu_if (P := a < b) (a := 9) (b := 5) rfl trivial (fun h1 => ?_) (fun h1 => ?_)
  · -- 9: a < b
    refine mu_go mu_g96 (k := 1) (f1 := (10, [(0, .inl a), (1, .inl b)], [.inl b], H)) (C := []) rfl trivial ?_
    exact mu_ret rfl trivial ⟨_, _, rfl, (by unfold mu_max; first | rw [if_pos h1] | rw [if_neg h1]), rfl⟩
  · -- 5: not a < b
    refine mu_go mu_g96 (k := 2) (f1 := (10, [(0, .inl a), (1, .inl b)], [.inl a], H)) (C := []) rfl trivial ?_
    exact mu_ret rfl trivial ⟨_, _, rfl, (by unfold mu_max; first | rw [if_pos h1] | rw [if_neg h1]), rfl⟩
/-- PathProver$Rows.clear()V -/
abbrev mu_m37 : ev_M := (1, none, [], ev_b37)
theorem mu_g37 : mu_good mu_m37 := mu_goodk ev_k37
theorem rw_clear_ok {d r W n c : Nat} {H : mu_H} (hR : rw_ok H r W n c) : mu_TV (mu_D (d + 1)) 37 [.inr (.inr (some r))] H (fun H1 => H1 = mu_si H r 2 0) := by
  refine mu_meth (M := mu_m37) rfl rfl ?_
  refine mu_go mu_g37 (k := 3) (f1 := (5, [(0, .inr (.inr (some r)))], [], (mu_si H r 2 (0 : Int32)))) (C := [mu_is H (some r) 10]) rfl (show mu_is H (some r) 10 from hR.1) ?_
  exact mu_ret rfl trivial ⟨_, rfl, rfl⟩
/-- PathProver$Rows.cut(I)V -/
abbrev mu_m115 : ev_M := (2, none, [], ev_b115)
theorem mu_g115 : mu_good mu_m115 := mu_goodk ev_k115
theorem rw_cut_ok {d r W n c : Nat} {H : mu_H} (hR : rw_ok H r W n c) (k : Int32) : mu_TV (mu_D (d + 2)) 115 [.inr (.inr (some r)), .inl k] H (fun H1 => H1 = mu_si H r 2 (mu_max 0 (mu_min (mu_i H r 2) k))) := by
  refine mu_meth (M := mu_m115) rfl rfl ?_
  refine mu_go mu_g115 (k := 5) (f1 := (7, [(0, .inr (.inr (some r))), (1, .inl k)], [.inl k, .inl (mu_i H r 2), .inl (0 : Int32), .inr (.inr (some r))], H)) (C := [mu_is H (some r) 10]) rfl (show mu_is H (some r) 10 from hR.1) ?_
  refine mu_cIe rfl trivial (mu_min_ok (d := d) (mu_i H r 2) k) ?_
  refine mu_cIe rfl trivial (mu_max_ok (d := d) (0 : Int32) (mu_min (mu_i H r 2) k)) ?_
  refine mu_go mu_g115 (k := 1) (f1 := (16, [(0, .inr (.inr (some r))), (1, .inl k)], [], (mu_si H r 2 (mu_max (0 : Int32) (mu_min (mu_i H r 2) k))))) (C := [mu_is H (some r) 10]) rfl (show mu_is H (some r) 10 from hR.1) ?_
  exact mu_ret rfl trivial ⟨_, rfl, rfl⟩
/-- PathProver$Rows.set(III)V -/
abbrev mu_m116 : ev_M := (4, none, [], ev_b116)
theorem mu_g116 : mu_good mu_m116 := mu_goodk ev_k116
/-- a row written in a column -/
def rw_set (H : mu_H) (r W n : Nat) (row : Int32) (j : Nat) (v : Int32) : mu_H := if row < 0 then H else if row.toNatClampNeg < n ∧ j < W then mu_si H (mu_p (mu_r H r 1)) (row.toNatClampNeg * W + j) v else H
theorem rw_set_ok {d r W n c : Nat} {H : mu_H} (hR : rw_ok H r W n c) (row v : Int32) {j : Nat} (hj : j < 2 ^ 31) : mu_TV (mu_D (d + 1)) 116 [.inr (.inr (some r)), .inl row, .inl (nI j), .inl v] H (fun H1 => H1 = rw_set H r W n row j v) := by
  have hn := rw_n hR
  have hR' := hR
  obtain ⟨-, -, e0, e2, en, hc, hW0, hW, hc2⟩ := hR'
  have z1 : row < 0 → H = rw_set H r W n row j v := fun h => (if_pos h).symm
  have z2 : ¬ row < 0 → ¬ (row.toNatClampNeg < n ∧ j < W) → H = rw_set H r W n row j v := fun h h2 => by unfold rw_set; rw [if_neg h, if_neg h2]
  have z3 : ¬ row < 0 → row < nI n → nI j < nI W → vp_in (row * nI W + nI j) c ∧ mu_si H (mu_p (mu_r H r 1)) (row * nI W + nI j).toNatClampNeg v = rw_set H r W n row j v := fun h h2 h3 => by
    have hjW : j < W := (nI_ltI hj (by omega)).mp h3
    obtain ⟨k1, k2, k3⟩ := rw_ix (j := j) h h2 hjW hn hW hc hc2
    rw [k2, nI_clamp (by omega)]
    refine ⟨vp_in_nI k3 (by omega), ?_⟩
    unfold rw_set
    rw [if_neg h, if_pos ⟨k1, hjW⟩]
  refine mu_meth (M := mu_m116) rfl rfl ?_
  refine mu_go mu_g116 (k := 1) (f1 := (1, [(0, .inr (.inr (some r))), (1, .inl row), (2, .inl (nI j)), (3, .inl v)], [.inl row], H)) (C := []) rfl trivial ?_
  refine mu_if (P := row < 0) (a := 34) (b := 4) rfl trivial (fun h1 => ?_) (fun h1 => ?_)
  · -- 34: row < 0
    exact mu_ret rfl trivial ⟨_, rfl, z1 h1⟩
  · -- 4: not row < 0
    refine mu_go mu_g116 (k := 3) (f1 := (9, [(0, .inr (.inr (some r))), (1, .inl row), (2, .inl (nI j)), (3, .inl v)], [.inl (mu_i H r 2), .inl row], H)) (C := [mu_is H (some r) 10]) rfl (show mu_is H (some r) 10 from hR.1) ?_
    refine mu_if (P := row < (mu_i H r 2)) (a := 12) (b := 34) rfl trivial (fun h2 => ?_) (fun h2 => ?_)
    · -- 12: row < (mu_i H r 2)
      refine mu_go mu_g116 (k := 3) (f1 := (17, [(0, .inr (.inr (some r))), (1, .inl row), (2, .inl (nI j)), (3, .inl v)], [.inl (mu_i H r 0), .inl (nI j)], H)) (C := [mu_is H (some r) 10]) rfl (show mu_is H (some r) 10 from hR.1) ?_
      refine mu_if (P := (nI j) < (mu_i H r 0)) (a := 20) (b := 34) rfl trivial (fun h3 => ?_) (fun h3 => ?_)
      · -- 20: (nI j) < (mu_i H r 0)
        refine mu_go mu_g116 (k := 10) (f1 := (34, [(0, .inr (.inr (some r))), (1, .inl row), (2, .inl (nI j)), (3, .inl v)], [], (mu_si H (mu_p (mu_r H r 1)) ((row * (mu_i H r 0)) + (nI j)).toNatClampNeg v))) (C := [mu_is H (some r) 10, mu_is H (some r) 10, mu_is H (mu_r H r 1) 100, vp_in ((row * (mu_i H r 0)) + (nI j)) (mu_n H (mu_p (mu_r H r 1)))]) rfl (show (mu_is H (some r) 10) ∧ (mu_is H (some r) 10) ∧ (mu_is H (mu_r H r 1) 100) ∧ (vp_in ((row * (mu_i H r 0)) + (nI j)) (mu_n H (mu_p (mu_r H r 1)))) from ⟨hR.1, hR.1, hR.2.1, by rw [e0, en]; exact (z3 h1 (by rw [← e2]; exact h2) (by rw [← e0]; exact h3)).1⟩) ?_
        exact mu_ret rfl trivial ⟨_, rfl, (by rw [e0]; exact (z3 h1 (by rw [← e2]; exact h2) (by rw [← e0]; exact h3)).2)⟩
      · -- 34: not (nI j) < (mu_i H r 0)
        exact mu_ret rfl trivial ⟨_, rfl, z2 h1 (fun q => h3 (by rw [e0]; exact nI_lt q.2 (by omega)))⟩
    · -- 34: not row < (mu_i H r 2)
      exact mu_ret rfl trivial ⟨_, rfl, z2 h1 (fun q => rw_ltc h1 (by rw [← e2]; exact h2) hn q.1)⟩
/-- two cells of different kinds lie at different places -/
theorem mu_ne_k {H : mu_H} {p q a b : Nat} (h1 : mu_k H p = a) (h2 : mu_k H q = b) (h : a ≠ b) : p ≠ q := fun e => h (by rw [← h1, ← h2, e])
theorem rw_ok_si {H : mu_H} {r W n c q j : Nat} {x : Int32} (h : rw_ok H r W n c) (hq : r ≠ q) : rw_ok (mu_si H q j x) r W n c := by
  obtain ⟨a1, a2, a3, a4, a5⟩ := h
  refine ⟨a1, a2, ?_, ?_, a5⟩
  · rw [mu_i_si, if_neg (fun z => hq z.1)]; exact a3
  · rw [mu_i_si, if_neg (fun z => hq z.1)]; exact a4
theorem rw_ok_set {H : mu_H} {r W n c r' W' n' c' j : Nat} {row v : Int32} (h : rw_ok H r W n c) (h' : rw_ok H r' W' n' c') : rw_ok (rw_set H r' W' n' row j v) r W n c := by
  unfold rw_set
  split
  · exact h
  · split
    · exact rw_ok_si h (mu_ne_k h.1.2.2 h'.2.1.2.2 (by decide))
    · exact h
theorem rw_ok_size {H : mu_H} {r W n c k : Nat} (h : rw_ok H r W n c) (hk : k ≤ n) : rw_ok (mu_si H r 2 (nI k)) r W k c := by
  obtain ⟨a1, a2, a3, a4, a5, a6, a7⟩ := h
  refine ⟨a1, a2, ?_, ?_, a5, ?_, a7⟩
  · rw [mu_i_si, if_neg (fun z => by omega)]; exact a3
  · rw [mu_i_si, if_pos ⟨rfl, rfl⟩]
  · have := Nat.mul_le_mul_right W hk
    omega
theorem rw_ok_clear {H : mu_H} {r W n c : Nat} (h : rw_ok H r W n c) : rw_ok (mu_si H r 2 0) r W 0 c := rw_ok_size h (Nat.zero_le n)

