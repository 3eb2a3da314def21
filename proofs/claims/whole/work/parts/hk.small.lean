/-! PROVER: small methods -/
section ProverSmall
variable {H : mu_H} {U : Ud} {m d : Nat} {C : Nat → Nat}
/-- PathProver$Prover.isSeeking()Z -/
abbrev mu_m341 : ev_M := (1, (some .boolean), [], ev_b341)
theorem mu_g341 : mu_good mu_m341 := mu_goodk ev_k341
/-- PathProver$Prover.isSeeking()Z -/
theorem pr_seeking (h : um m H) (e : ud m H = U) : mu_TI (mu_D (d + 1)) 341 [.inr (.inr (some 158))] H (fun x H1 => x = (if U.2.1 158 14 = 3 then 1 else 0) ∧ H1 = H) := by
  refine mu_meth (M := mu_m341) rfl rfl ?_
  refine mw_ht (mu_fn_of (show [0].Nodup by decide)) ?_
  refine mw_go mu_g341 (k := 2) (f1 := (4, [(0, .inr (.inr (some 158)))], [.inl (mu_i H 158 14)], H)) (C := [mu_is H (some 158) 8]) rfl (show mu_is H (some 158) 8 from (h.1.1.is rfl)) ?_
  rw [(show mu_i H 158 14 = (U.2.1 158 14) from (ud_i (U := U) (m := m) (P := 158) (j := 14) e rfl))]
  refine mw_go mu_g341 (k := 1) (f1 := (5, [(0, .inr (.inr (some 158)))], [.inl (3 : Int32), .inl (U.2.1 158 14)], H)) (C := []) rfl trivial ?_
  refine mw_if (P := (U.2.1 158 14) = (3 : Int32)) (a := 8) (b := 12) (fun _ => rfl) trivial (fun h1 => ?_) (fun h1 => ?_)
  · -- 8: (U.2.1 158 14) = (3 : Int32)
    refine mw_go mu_g341 (k := 2) (f1 := (13, [(0, .inr (.inr (some 158)))], [.inl (1 : Int32)], H)) (C := []) rfl trivial ?_
    exact mw_of (fun _ => mu_ret rfl (Or.inr rfl) ⟨_, H, rfl, (if_pos h1).symm, rfl⟩)
  · -- 12: not (U.2.1 158 14) = (3 : Int32)
    refine mw_go mu_g341 (k := 1) (f1 := (13, [(0, .inr (.inr (some 158)))], [.inl (0 : Int32)], H)) (C := []) rfl trivial ?_
    exact mw_of (fun _ => mu_ret rfl (Or.inl rfl) ⟨_, H, rfl, (if_neg h1).symm, rfl⟩)
end ProverSmall
