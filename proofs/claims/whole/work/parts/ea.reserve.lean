/-! RELATION: reserve where outs has room -/
section Reserve
variable {H : mu_H} {U V : Ud} {m d ou mn : Nat} {C : Nat → Nat}
/-- PathProver$Relation.reserve(I)I -/
abbrev mu_m303 : ev_M := (3, (some .int), [], ev_b303)
theorem mu_g303 : mu_good mu_m303 := mu_goodk ev_k303
theorem rl_reserve0 (h : um m H) (e : ud m H = U) (ho : U.2.1 129 5 = nI ou) (hl : ou + mn ≤ (U.2.2.1 129 4).1) (hlb : (U.2.2.1 129 4).1 ≤ 16777216) : mu_TI (mu_D (d + 2)) 303 [.inr (.inr (some 129)), .inl (nI mn)] H (fun x H1 => x = nI ou ∧ um m H1 ∧ ur m C H H1 ∧ ud m H1 = upI U 129 5 (nI (ou + mn))) := by
  refine mu_meth (M := mu_m303) rfl rfl ?_
  refine mw_ht (mu_fn_of (show [0, 1].Nodup by decide)) ?_
  refine mw_go mu_g303 (k := 2) (f1 := (4, [(0, .inr (.inr (some 129))), (1, .inl (nI mn))], [.inl (mu_i H 129 5)], H)) (C := [mu_is H (some 129) 9]) rfl (show mu_is H (some 129) 9 from (h.1.1.is rfl)) ?_
  rw [(show mu_i H 129 5 = (nI ou) from (ud_i (U := U) (m := m) (P := 129) (j := 5) e rfl).trans ho)]
  refine mw_go mu_g303 (k := 4) (f1 := (10, [(2, .inl (nI ou)), (0, .inr (.inr (some 129))), (1, .inl (nI mn))], [.inl (mu_i H 129 5), .inr (.inr (some 129))], H)) (C := [mu_is H (some 129) 9]) rfl (show mu_is H (some 129) 9 from (h.1.1.is rfl)) ?_
  rw [(show mu_i H 129 5 = (nI ou) from (ud_i (U := U) (m := m) (P := 129) (j := 5) e rfl).trans ho)]
  refine mw_go mu_g303 (k := 2) (f1 := (12, [(2, .inl (nI ou)), (0, .inr (.inr (some 129))), (1, .inl (nI mn))], [.inl ((nI ou) + (nI mn)), .inr (.inr (some 129))], H)) (C := []) rfl trivial ?_
  rw [(show ((nI ou) + (nI mn)) = (nI (ou + mn)) from (nI_add ou mn))]
  refine mw_go mu_g303 (k := 1) (f1 := (15, [(2, .inl (nI ou)), (0, .inr (.inr (some 129))), (1, .inl (nI mn))], [], (mu_si H 129 5 (nI (ou + mn))))) (C := [mu_is H (some 129) 9]) rfl (show mu_is H (some 129) 9 from (h.1.1.is rfl)) ?_
  obtain ⟨u1, r1, d1⟩ : um m (mu_si H 129 5 (nI (ou + mn))) ∧ ur m C H (mu_si H 129 5 (nI (ou + mn))) ∧ ud m (mu_si H 129 5 (nI (ou + mn))) = (upI U 129 5 (nI (ou + mn))) := h.sI (C := C) e rfl
  generalize (mu_si H 129 5 (nI (ou + mn))) = Q1 at u1 r1 d1 ⊢
  have ht1 : ur m C H Q1 := (ur.refl m C H).trans r1
  refine mw_go mu_g303 (k := 2) (f1 := (19, [(2, .inl (nI ou)), (0, .inr (.inr (some 129))), (1, .inl (nI mn))], [.inl (mu_i Q1 129 5)], Q1)) (C := [mu_is Q1 (some 129) 9]) rfl (show mu_is Q1 (some 129) 9 from (u1.1.1.is rfl)) ?_
  rw [(show mu_i Q1 129 5 = (nI (ou + mn)) from (ud_i (U := (upI U 129 5 (nI (ou + mn)))) (m := m) (P := 129) (j := 5) d1 rfl))]
  refine mw_go mu_g303 (k := 2) (f1 := (23, [(2, .inl (nI ou)), (0, .inr (.inr (some 129))), (1, .inl (nI mn))], [.inr (.inr (mu_r Q1 129 4)), .inl (nI (ou + mn))], Q1)) (C := [mu_is Q1 (some 129) 9]) rfl (show mu_is Q1 (some 129) 9 from (u1.1.1.is rfl)) ?_
  rw [(show mu_r Q1 129 4 = (U.2.2.2.1 129 4) from (ud_q (U := (upI U 129 5 (nI (ou + mn)))) (m := m) (P := 129) (j := 4) d1 rfl))]
  refine mw_go mu_g303 (k := 1) (f1 := (24, [(2, .inl (nI ou)), (0, .inr (.inr (some 129))), (1, .inl (nI mn))], [.inl (Int32.ofNat (mu_n Q1 (mu_p (U.2.2.2.1 129 4)))), .inl (nI (ou + mn))], Q1)) (C := [mu_isr Q1 (U.2.2.2.1 129 4) (mu_k Q1 (mu_p (U.2.2.2.1 129 4))), 100 ≤ mu_k Q1 (mu_p (U.2.2.2.1 129 4))]) rfl (show (mu_isr Q1 (U.2.2.2.1 129 4) (mu_k Q1 (mu_p (U.2.2.2.1 129 4)))) ∧ (100 ≤ mu_k Q1 (mu_p (U.2.2.2.1 129 4))) from ⟨(by have z := (u1.iA d1 rfl rfl (show (upI U 129 5 (nI (ou + mn))).2.2.2.1 129 4 = (U.2.2.2.1 129 4) from rfl)); rw [z.2.2]; exact z.r), (by have z := (u1.iA d1 rfl rfl (show (upI U 129 5 (nI (ou + mn))).2.2.2.1 129 4 = (U.2.2.2.1 129 4) from rfl)); rw [z.2.2]; decide)⟩) ?_
  rw [(show Int32.ofNat (mu_n Q1 (mu_p (U.2.2.2.1 129 4))) = nI ((U.2.2.1 129 4).1) from congrArg Int32.ofNat (show mu_n Q1 (mu_p (U.2.2.2.1 129 4)) = (U.2.2.1 129 4).1 from (u1.nA d1 rfl rfl (show (upI U 129 5 (nI (ou + mn))).2.2.2.1 129 4 = (U.2.2.2.1 129 4) from rfl) (show ((upI U 129 5 (nI (ou + mn))).2.2.1 129 4).1 = (U.2.2.1 129 4).1 from rfl))))]
  refine mw_if (P := (nI ((U.2.2.1 129 4).1)) < (nI (ou + mn))) (a := 27) (b := 63) (fun _ => rfl) trivial (fun h2 => absurd h2 (fun z => absurd ((nI_ltI (by omega) (by omega)).mp z) (by omega))) (fun h2 => ?_)
  refine mw_go mu_g303 (k := 1) (f1 := (64, [(2, .inl (nI ou)), (0, .inr (.inr (some 129))), (1, .inl (nI mn))], [.inl (nI ou)], Q1)) (C := []) rfl trivial ?_
  exact mw_of (fun _ => mu_ret rfl trivial ⟨_, Q1, rfl, rfl, u1, ht1, d1⟩)
end Reserve
