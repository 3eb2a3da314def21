/-! Prover.begin -/
section ProverBegin
variable {H H1 H2 : mu_H} {m j d : Nat} {C : Nat → Nat} {U : Ud}
/-- PathProver$Prover.begin()V -/
abbrev mu_m374 : ev_M := (1, none, [], ev_b374)
theorem mu_g374 : mu_good mu_m374 := mu_goodk ev_k374
def pvb (U : Ud) : Ud := upF (upR (upI (upI (upI U 158 11 0) 158 12 (-1)) 158 14 0) 158 22 none) 158 7 0 (fun _ => -1) 64
theorem pv_begin (h : um m H) (e : ud m H = U) : mu_TV (mu_D (d + 2)) 374 [.inr (.inr (some 158))] H (fun H1 => um m H1 ∧ ur m C H H1 ∧ ud m H1 = pvb U) := by
  refine mu_meth (M := mu_m374) rfl rfl ?_
  refine mw_ht (mu_fn_of (show [0].Nodup by decide)) ?_
  refine mw_go mu_g374 (k := 3) (f1 := (5, [(0, .inr (.inr (some 158)))], [], mu_si H 158 11 (0 : Int32))) (C := [mu_is H (some 158) 8]) rfl (h.1.1.is rfl) ?_
  obtain ⟨a1, b1, c1⟩ := h.putI (C := C) (P := 158) (k := 11) (v := (0 : Int32)) rfl
  generalize mu_si H 158 11 (0 : Int32) = F1 at a1 b1 c1 ⊢
  refine mw_go mu_g374 (k := 3) (f1 := (10, [(0, .inr (.inr (some 158)))], [], mu_si F1 158 12 (-1 : Int32))) (C := [mu_is F1 (some 158) 8]) rfl (a1.1.1.is rfl) ?_
  obtain ⟨a2, b2, c2⟩ := a1.putI (C := C) (P := 158) (k := 12) (v := (-1 : Int32)) rfl
  generalize mu_si F1 158 12 (-1 : Int32) = F2 at a2 b2 c2 ⊢
  refine mw_go mu_g374 (k := 3) (f1 := (15, [(0, .inr (.inr (some 158)))], [], mu_si F2 158 14 (0 : Int32))) (C := [mu_is F2 (some 158) 8]) rfl (a2.1.1.is rfl) ?_
  obtain ⟨a3, b3, c3⟩ := a2.putI (C := C) (P := 158) (k := 14) (v := (0 : Int32)) rfl
  generalize mu_si F2 158 14 (0 : Int32) = F3 at a3 b3 c3 ⊢
  refine mw_go mu_g374 (k := 3) (f1 := (20, [(0, .inr (.inr (some 158)))], [], mu_sr F3 158 22 none)) (C := [mu_is F3 (some 158) 8]) rfl (a3.1.1.is rfl) ?_
  obtain ⟨a4, b4, c4⟩ := a3.putR (C := C) (P := 158) (k := 22) (v := none) rfl rfl rfl (by decide) (fun q hq => by cases hq)
  generalize mu_sr F3 158 22 none = F4 at a4 b4 c4 ⊢
  refine mw_go mu_g374 (k := 3) (f1 := (25, [(0, .inr (.inr (some 158)))], [.inl (-1 : Int32), .inr (.inr (mu_r F4 158 7))], F4)) (C := [mu_is F4 (some 158) 8]) rfl (a4.1.1.is rfl) ?_
  have e7 : mu_r F4 158 7 = some 164 := a4.1.1.r rfl
  have hn : mu_n F4 (mu_p (mu_r F4 158 7)) = 64 := by rw [e7]; exact (a4.1.1.a (p := 164) (x := (100, 64)) rfl).2
  refine mw_cVe (fun _ => rfl) trivial (ar_fill_ok (d := d) (v := (-1 : Int32)) (a4.1.1.o (p := 158) (j := 7) rfl) hn (by decide)) ?_
  obtain ⟨a5, b5, c5⟩ := a4.fillA (C := C) (P := 158) (J := 7) (b := 0) (g := fun _ => (-1 : Int32)) (k := 64) rfl rfl
  refine mw_of (fun _ => mu_ret rfl trivial ⟨_, rfl, a5, (((b1.trans b2).trans b3).trans b4).trans b5, ?_⟩)
  rw [c5, c4, c3, c2, c1, e]
  rfl
end ProverBegin
