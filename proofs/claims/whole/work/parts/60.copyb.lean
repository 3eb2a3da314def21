/-! Arrays.copyOf of bytes, to a greater length -/
/-- java/util/Arrays.copyOf([BI)[B -/
abbrev mu_m102 : ev_M := (3, (some (.array .byte)), [], ev_b102)
theorem mu_g102 : mu_good mu_m102 := mu_goodk ev_k102
theorem mu_copyOfB_ok {d N : Nat} {o : Option Nat} {H : mu_H} (hO : mu_is H o 101) (hby : ∀ i, i < mu_n H (mu_p o) → fits .byte (.int (mu_i H (mu_p o) i)) = true) (hN : mu_n H (mu_p o) < N) (hN2 : N ≤ 134217728) (hz : mu_z H + 1 ≤ 1000000) : mu_TA (mu_D (d + 2)) 102 [.inr (.inr o), .inl (nI N)] H (fun x H1 => x = some (mu_z H) ∧ H1 = mu_cpi (mu_nw H 101 N N) (mu_p o) 0 (mu_z H) 0 (mu_n H (mu_p o))) := by
  have hne : ¬ nI N = Int32.ofNat (mu_n H (mu_p o)) := fun e => by
    have e := congrArg Int32.toNatClampNeg e
    rw [nI_clamp (by omega), show (Int32.ofNat (mu_n H (mu_p o))).toNatClampNeg = mu_n H (mu_p o) from nI_clamp (by omega)] at e
    omega
  have hO2 : mu_is (mu_nw H 101 (nI N).toNatClampNeg (nI N).toNatClampNeg) o 101 := mu_is_nw hO
  refine mu_meth (M := mu_m102) rfl rfl ?_
  refine mu_go mu_g102 (k := 3) (f1 := (3, [(0, .inr (.inr o)), (1, .inl (nI N))], [.inl (Int32.ofNat (mu_n H (mu_p o))), .inl (nI N)], H)) (C := [mu_isr H o (mu_k H (mu_p o)), 100 ≤ mu_k H (mu_p o)]) rfl (show (mu_isr H o (mu_k H (mu_p o))) ∧ (100 ≤ mu_k H (mu_p o)) from ⟨⟨hO.1, Or.inl hO.2.1, rfl⟩, by rw [hO.2.2]; decide⟩) ?_
  refine mu_if (P := (nI N) = (Int32.ofNat (mu_n H (mu_p o)))) (a := 6) (b := 14) rfl trivial (fun h1 => ?_) (fun h1 => ?_)
  · -- 6: (nI N) = (Int32.ofNat (mu_n H (mu_p o)))
    exact absurd h1 hne
  · -- 14: not (nI N) = (Int32.ofNat (mu_n H (mu_p o)))
    refine mu_go mu_g102 (k := 10) (f1 := (25, [(2, .inr (.inr (some (mu_z H)))), (0, .inr (.inr o)), (1, .inl (nI N))], [.inl (nI N), .inl (Int32.ofNat (mu_n (mu_nw H 101 (nI N).toNatClampNeg (nI N).toNatClampNeg) (mu_p o))), .inl (0 : Int32), .inr (.inr (some (mu_z H))), .inl (0 : Int32), .inr (.inr o)], (mu_nw H 101 (nI N).toNatClampNeg (nI N).toNatClampNeg))) (C := [¬ (nI N) < 0, (nI N).toNatClampNeg * ev_bytes 1 ≤ 536870912, mu_z H + 1 ≤ 1000000, mu_isr (mu_nw H 101 (nI N).toNatClampNeg (nI N).toNatClampNeg) o (mu_k (mu_nw H 101 (nI N).toNatClampNeg (nI N).toNatClampNeg) (mu_p o)), 100 ≤ mu_k (mu_nw H 101 (nI N).toNatClampNeg (nI N).toNatClampNeg) (mu_p o)]) rfl (show (¬ (nI N) < 0) ∧ ((nI N).toNatClampNeg * ev_bytes 1 ≤ 536870912) ∧ (mu_z H + 1 ≤ 1000000) ∧ (mu_isr (mu_nw H 101 (nI N).toNatClampNeg (nI N).toNatClampNeg) o (mu_k (mu_nw H 101 (nI N).toNatClampNeg (nI N).toNatClampNeg) (mu_p o))) ∧ (100 ≤ mu_k (mu_nw H 101 (nI N).toNatClampNeg (nI N).toNatClampNeg) (mu_p o)) from ⟨nI_pos (by omega), by rw [nI_clamp (by omega)]; show N * 1 ≤ 536870912; omega, hz, ⟨hO2.1, Or.inl hO2.2.1, rfl⟩, by rw [hO2.2.2]; decide⟩) ?_
    refine mu_cIe rfl trivial (mu_min_ok (d := d) (Int32.ofNat (mu_n (mu_nw H 101 (nI N).toNatClampNeg (nI N).toNatClampNeg) (mu_p o))) (nI N)) ?_
    rw [mu_n_old hO.2.1]
    rw [show mu_min (Int32.ofNat (mu_n H (mu_p o))) (nI N) = nI (mu_n H (mu_p o)) from mu_min_nI (by omega) (by omega)]
    refine mu_copyI (t := 1) rfl hO2 (mu_is_new H 101 _ _) (by decide) (by decide) (by decide) (nI_pos (by omega)) ?_ ?_ (fun _ i hi => ?_) (show (0 : Nat) ≤ 8 by omega) ?_
    · show 0 + (nI (mu_n H (mu_p o))).toNatClampNeg ≤ mu_n (mu_nw H 101 _ _) (mu_p o)
      rw [mu_n_old hO.2.1, nI_clamp (by omega)]
      omega
    · show 0 + (nI (mu_n H (mu_p o))).toNatClampNeg ≤ mu_n (mu_nw H 101 _ _) (mu_z H)
      rw [mu_n_nw, if_pos rfl, nI_clamp (by omega), nI_clamp (by omega)]
      omega
    · rw [nI_clamp (by omega)] at hi
      show fits .byte (.int (mu_i (mu_nw H 101 _ _) (mu_p o) (0 + i))) = true
      rw [mu_i_nw, if_neg (by have := hO.2.1; omega), Nat.zero_add]
      exact hby i hi
    · refine mu_go mu_g102 (k := 1) (f1 := (32, [(2, .inr (.inr (some (mu_z H)))), (0, .inr (.inr o)), (1, .inl (nI N))], [.inr (.inr (some (mu_z H)))], mu_cpi (mu_nw H 101 (nI N).toNatClampNeg (nI N).toNatClampNeg) (mu_p o) 0 (mu_z H) 0 (nI (mu_n H (mu_p o))).toNatClampNeg)) (C := []) rfl trivial ?_
      refine mu_ret rfl trivial ⟨_, _, rfl, rfl, ?_⟩
      rw [nI_clamp (show N < 2 ^ 31 by omega), nI_clamp (show mu_n H (mu_p o) < 2 ^ 31 by omega)]
