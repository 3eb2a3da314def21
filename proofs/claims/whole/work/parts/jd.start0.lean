/-! PROVER: a SPEC whose outer operator is not shown -/
section Show0
variable {H : mu_H} {U : Ud} {m d a n j i0 sp o lst T L gq q0 tc bg s0 at0 sc : Nat} {C : Nat → Nat} {Y : Ts} {w : Nat → Nat}
theorem pr_start0 (h : um m H) (e : ud m H = U) (hmo : U.2.2.2.1 99 0 = some m) (hsp : sp < 2147483648) (h171 : (U.1 17).2 sp 1 = nI (lst + 1)) (hlb : lst < 2147483646) (hou : (U.1 0).2 lst 0 = nI o) (ho34 : o ≤ 34) (htm : ¬ tmd o) : mu_TI (mu_D (d + 5)) 365 [.inr (.inr (some 158)), .inl (nI sp)] H (fun x H1 => x = -1 ∧ H1 = H) := by
  refine mu_meth (M := mu_m365) rfl rfl ?_
  refine mw_ht (mu_fn_of (show [0, 1].Nodup by decide)) ?_
  refine mw_go mu_g365 (k := 2) (f1 := (2, [(0, .inr (.inr (some 158))), (1, .inl (nI sp))], [.inl (nI sp), .inr (.inr (some 158))], H)) (C := []) rfl trivial ?_
  refine mw_cIe (fun _ => rfl) (show mu_is H (some 158) 8 from (h.1.1.is rfl)) (pr_outer (d := (d + 2)) (i := sp) (to := lst + 1) h e hmo hsp h171 (by omega) (by omega)) ?_
  rw [show ((U.1 0).2 (lst + 1 - 1) 0) = nI o from hou]
  refine mw_go mu_g365 (k := 2) (f1 := (7, [(2, .inl (nI o)), (0, .inr (.inr (some 158))), (1, .inl (nI sp))], [.inl (nI o)], H)) (C := []) rfl trivial ?_
  refine mw_cIe (fun _ => rfl) trivial ((pv_timed2 (d := (d + 3)) (H := H) (o := o) ho34).imp (fun x H1 q => show x = (0 : Int32) ∧ H1 = H from ⟨(q.1.resolve_right (fun y => htm y.2)).1, q.2⟩)) ?_
  refine mw_if (P := (0 : Int32) = 0) (a := 19) (b := 13) (fun _ => rfl) trivial (fun h5 => ?_) (fun h5 => absurd (by decide) h5)
  refine mw_go mu_g365 (k := 1) (f1 := (20, [(2, .inl (nI o)), (0, .inr (.inr (some 158))), (1, .inl (nI sp))], [.inl (-1 : Int32)], H)) (C := []) rfl trivial ?_
  exact mw_of (fun _ => mu_ret rfl trivial ⟨(-1 : Int32), H, rfl, rfl, rfl⟩)
theorem pr_start29 (h : um m H) (e : ud m H = U) (hmo : U.2.2.2.1 99 0 = some m) (hsp : sp < 2147483648) (h171 : (U.1 17).2 sp 1 = nI (lst + 1)) (hlb : lst < 2147483646) (hou : (U.1 0).2 lst 0 = nI o) (ho34 : o ≤ 34) (htm : tmd o) (ho29 : o = 29) : mu_TI (mu_D (d + 5)) 365 [.inr (.inr (some 158)), .inl (nI sp)] H (fun x H1 => x = -1 ∧ H1 = H) := by
  refine mu_meth (M := mu_m365) rfl rfl ?_
  refine mw_ht (mu_fn_of (show [0, 1].Nodup by decide)) ?_
  refine mw_go mu_g365 (k := 2) (f1 := (2, [(0, .inr (.inr (some 158))), (1, .inl (nI sp))], [.inl (nI sp), .inr (.inr (some 158))], H)) (C := []) rfl trivial ?_
  refine mw_cIe (fun _ => rfl) (show mu_is H (some 158) 8 from (h.1.1.is rfl)) (pr_outer (d := (d + 2)) (i := sp) (to := lst + 1) h e hmo hsp h171 (by omega) (by omega)) ?_
  rw [show ((U.1 0).2 (lst + 1 - 1) 0) = nI o from hou]
  refine mw_go mu_g365 (k := 2) (f1 := (7, [(2, .inl (nI o)), (0, .inr (.inr (some 158))), (1, .inl (nI sp))], [.inl (nI o)], H)) (C := []) rfl trivial ?_
  refine mw_cIe (fun _ => rfl) trivial ((pv_timed2 (d := (d + 3)) (H := H) (o := o) ho34).imp (fun x H1 q => show x = (1 : Int32) ∧ H1 = H from ⟨(q.1.resolve_left (fun y => y.2 htm)).1, q.2⟩)) ?_
  refine mw_if (P := (1 : Int32) = 0) (a := 19) (b := 13) (fun _ => rfl) trivial (fun h5 => absurd h5 (by decide)) (fun h5 => ?_)
  refine mw_go mu_g365 (k := 2) (f1 := (16, [(2, .inl (nI o)), (0, .inr (.inr (some 158))), (1, .inl (nI sp))], [.inl (29 : Int32), .inl (nI o)], H)) (C := []) rfl trivial ?_
  refine mw_if (P := (nI o) = (29 : Int32)) (a := 19) (b := 21) (fun _ => rfl) trivial (fun h6 => ?_) (fun h6 => absurd (show nI o = (29 : Int32) from by rw [ho29]; rfl) h6)
  refine mw_go mu_g365 (k := 1) (f1 := (20, [(2, .inl (nI o)), (0, .inr (.inr (some 158))), (1, .inl (nI sp))], [.inl (-1 : Int32)], H)) (C := []) rfl trivial ?_
  exact mw_of (fun _ => mu_ret rfl trivial ⟨(-1 : Int32), H, rfl, rfl, rfl⟩)
end Show0
